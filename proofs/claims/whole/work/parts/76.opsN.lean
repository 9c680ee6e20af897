/-! ===== the likeliest row: its beasts ===== -/
def bs_lkp (A : Int → Int) (n : Int) (i : Int) : Int := bc_it (fun j last => (bs_ax (bs_lkf A (bs_lkN A (n - 2 - j)) last) (A 0)).1) ((bs_ax (bs_lkN A (n - 1)) (A 0)).1) i
theorem bs_lkp_s (A : Int → Int) (n : Int) {i : Int} (h : 0 ≤ i) : bs_lkp A n (i + 1) = (bs_ax (bs_lkf A (bs_lkN A (n - 2 - i)) (bs_lkp A n i)) (A 0)).1 := bc_its _ _ h
theorem bs_lkp_st {A : Int → Int} (w0 : 0 ≤ A 0 ∧ A 0 ≤ 5) (hwg : bs_WG A) {n i l : Int} (hn : n ≤ 8) (i0 : 0 ≤ i) (i1 : i + 1 < n) (hl : (0 ≤ l ∧ l < A 0) ∧ 0 < bs_lkN A (n - 1 - i) l) :
    0 < (bs_ax (bs_lkf A (bs_lkN A (n - 2 - i)) l) (A 0)).2 ∧ ((0 ≤ (bs_ax (bs_lkf A (bs_lkN A (n - 2 - i)) l) (A 0)).1 ∧ (bs_ax (bs_lkf A (bs_lkN A (n - 2 - i)) l) (A 0)).1 < A 0) ∧ 0 < bs_lkN A (n - 2 - i) (bs_ax (bs_lkf A (bs_lkN A (n - 2 - i)) l) (A 0)).1) ∧ bs_lkf A (bs_lkN A (n - 2 - i)) l (bs_ax (bs_lkf A (bs_lkN A (n - 2 - i)) l) (A 0)).1 = (bs_ax (bs_lkf A (bs_lkN A (n - 2 - i)) l) (A 0)).2 ∧ (∀ b, 0 ≤ b → b < (bs_ax (bs_lkf A (bs_lkN A (n - 2 - i)) l) (A 0)).1 → bs_lkf A (bs_lkN A (n - 2 - i)) l b < (bs_ax (bs_lkf A (bs_lkN A (n - 2 - i)) l) (A 0)).2) ∧ bs_lkN A (n - 1 - i) l = (bs_ax (bs_lkf A (bs_lkN A (n - 2 - i)) l) (A 0)).2 := by
  have e := bs_lkN_e A (k := n - 1 - i) (by omega) l
  rw [show n - 1 - i - 1 = n - 2 - i by omega] at e
  have hpos := hl.2
  rw [e] at hpos
  rcases bs_ax_p (bs_lkf A (bs_lkN A (n - 2 - i)) l) w0.1 with ⟨q, _⟩ | ⟨q1, q2, q3, q4, q5⟩
  · omega
  · refine ⟨q1, ⟨⟨q2, q3⟩, ?_⟩, q4, q5, e⟩
    generalize (bs_ax (bs_lkf A (bs_lkN A (n - 2 - i)) l) (A 0)).1 = t at q2 q3 q4
    have nb := bs_lkN_b w0.1 hwg (k := n - 2 - i) (by omega) (by omega) t q2 q3
    by_cases z : bs_lkN A (n - 2 - i) t = 0
    · have : bs_lkf A (bs_lkN A (n - 2 - i)) l t = A (134 + 5 * l + t) * bs_lkN A (n - 2 - i) t := rfl
      rw [z, Int.mul_zero] at this
      omega
    · omega
theorem bs_lkp_r {A : Int → Int} (w0 : 0 ≤ A 0 ∧ A 0 ≤ 5) (hwg : bs_WG A) {n : Int} (hn : 1 ≤ n ∧ n ≤ 8) (hp : (bs_ax (bs_lkN A (n - 1)) (A 0)).2 ≠ 0) : ∀ m : Nat, (m : Int) < n → (0 ≤ bs_lkp A n m ∧ bs_lkp A n m < A 0) ∧ 0 < bs_lkN A (n - 1 - m) (bs_lkp A n m)
  | 0, _ => by
    rcases bs_ax_p (bs_lkN A (n - 1)) w0.1 with ⟨q, _⟩ | ⟨q1, q2, q3, q4, q5⟩
    · exact absurd q hp
    · show (0 ≤ (bs_ax (bs_lkN A (n - 1)) (A 0)).1 ∧ (bs_ax (bs_lkN A (n - 1)) (A 0)).1 < A 0) ∧ 0 < bs_lkN A (n - 1 - 0) (bs_ax (bs_lkN A (n - 1)) (A 0)).1
      rw [Int.sub_zero]
      exact ⟨⟨q2, q3⟩, by omega⟩
  | m + 1, hm => by
    have ih := bs_lkp_r w0 hwg hn hp m (by omega)
    have t := bs_lkp_st w0 hwg (i := (m : Int)) hn.2 (by omega) (by omega) ih
    rw [show ((m + 1 : Nat) : Int) = (m : Int) + 1 by omega, bs_lkp_s A n (by omega), show n - 1 - ((m : Int) + 1) = n - 2 - m by omega]
    exact t.2.1
theorem bs_lkp_i {A : Int → Int} (w0 : 0 ≤ A 0 ∧ A 0 ≤ 5) (hwg : bs_WG A) {n : Int} (hn : 1 ≤ n ∧ n ≤ 8) (hp : (bs_ax (bs_lkN A (n - 1)) (A 0)).2 ≠ 0) {i : Int} (i0 : 0 ≤ i) (i1 : i < n) : (0 ≤ bs_lkp A n i ∧ bs_lkp A n i < A 0) ∧ 0 < bs_lkN A (n - 1 - i) (bs_lkp A n i) := by
  have t := bs_lkp_r w0 hwg hn hp i.toNat (by omega)
  rw [show ((i.toNat : Nat) : Int) = i by omega] at t
  exact t
theorem bc_c_inBest {d : Nat} {c n k : Int} {h : bc_H} {A : Int → Int} {K : Int → bc_H → Prop} (hc : 24 ≤ c ∧ c ≤ 130) (n0 : h (c + 1) 0 = A 0) (hg : bs_Cg h c A) (w0 : 0 ≤ A 0 ∧ A 0 ≤ 5) (hwg : bs_WG A) (hn : 1 ≤ n ∧ n ≤ 8) (hk : 0 ≤ k ∧ k < n) (hr : ∀ i b, 0 ≤ i → i < n → 0 ≤ b → b < A 0 → h 23 (i * 5 + b) = bs_lkN A i b) (hp : (bs_ax (bs_lkN A (n - 1)) (A 0)).2 ≠ 0) (hK : K (bs_lkp A n k) h) : bf_Beasts_inBestRow d (c + 1) n k h (bc_I K) := by
  refine rv_Beasts_inBestRow ?_
  have lp := bc_lup (P := fun i => bl_Beasts_inBestRow_4 d (c + 1) n k (if i = 0 then -1 else bs_lkp A n (i - 1)) i h (bc_I K)) (n := k + 1) ?_ (fun i i0 i1 ih => ?_) (Int.le_refl 0) (by omega)
  · exact lp
  · refine rv_Beasts_inBestRow_4 ⟨fun _ => ?_, fun q => absurd q (by omega)⟩
    rw [if_neg (by omega), show k + 1 - 1 = k by omega]
    exact hK
  · rw [if_neg (by omega), show i + 1 - 1 = i by omega] at ih
    refine rv_Beasts_inBestRow_4 ⟨fun q => absurd q (by omega), fun _ => ⟨fun q => absurd q (by omega), fun _ => ?_⟩⟩
    by_cases ei : i = 0
    · subst ei
      rw [if_pos rfl]
      refine bc_lup (P := fun b => bl_Beasts_inBestRow_16 d (c + 1) n k (-1) 0 (bs_ax (bs_lkN A (n - 1)) b).2 (bs_ax (bs_lkN A (n - 1)) b).1 b h (bc_I K)) (n := A 0) ?_ (fun b b0 b1 ihb => ?_) (Int.le_refl 0) w0.1
      · refine rv_Beasts_inBestRow_16 ⟨fun _ => ?_, fun q => absurd q (by omega)⟩
        rw [bc_wi (by omega) (by omega)]
        exact ih
      · have nb := bs_lkN_b w0.1 hwg (k := n - 1) (by omega) (by omega) b b0 b1
        refine rv_Beasts_inBestRow_16 ⟨fun q => absurd q (by omega), fun _ => ⟨fun q => absurd rfl q, fun _ => ?_⟩⟩
        simp (disch := omega) only [bc_wi, Int.add_zero]
        rw [show n - 1 - 0 = n - 1 by omega, hr (n - 1) b (by omega) (by omega) b0 b1, Int.one_mul, bc_wi (x := bs_lkN A (n - 1) b) (by omega) (by omega)]
        rw [bs_ax_s _ b0] at ihb
        refine ⟨by omega, fun z => ?_, fun z => ?_⟩
        · rw [if_neg (by omega)] at ihb; exact ihb
        · rw [if_pos z] at ihb; exact ihb
    · rw [if_neg ei]
      have pr := bs_lkp_i w0 hwg hn hp (i := i - 1) (by omega) (by omega)
      have es := bs_lkp_s A n (i := i - 1) (by omega)
      rw [show i - 1 + 1 = i by omega, show n - 2 - (i - 1) = n - 1 - i by omega] at es
      rw [es] at ih
      generalize bs_lkp A n (i - 1) = l at ih pr ⊢
      refine bc_lup (P := fun b => bl_Beasts_inBestRow_16 d (c + 1) n k l i (bs_ax (bs_lkf A (bs_lkN A (n - 1 - i)) l) b).2 (bs_ax (bs_lkf A (bs_lkN A (n - 1 - i)) l) b).1 b h (bc_I K)) (n := A 0) ?_ (fun b b0 b1 ihb => ?_) (Int.le_refl 0) w0.1
      · refine rv_Beasts_inBestRow_16 ⟨fun _ => ?_, fun q => absurd q (by omega)⟩
        rw [bc_wi (by omega) (by omega)]
        exact ih
      · have pb := bs_lkf_b w0.1 hwg (k := n - 1 - i) (by omega) (by omega) pr.1.1 pr.1.2 b0 b1
        refine rv_Beasts_inBestRow_16 ⟨fun q => absurd q (by omega), fun _ => ⟨fun _ => ?_, fun q => absurd q (by omega)⟩⟩
        simp (disch := omega) only [bc_wi, Int.add_zero]
        rw [hg l b pr.1.1 pr.1.2 b0 b1, hr (n - 1 - i) b (by omega) (by omega) b0 b1, bc_wi (x := A (134 + 5 * l + b) * bs_lkN A (n - 1 - i) b) (by omega) (by omega)]
        rw [bs_ax_s _ b0] at ihb
        refine ⟨by omega, by omega, fun z => ?_, fun z => ?_⟩
        · rw [if_neg (show ¬ (bs_ax (bs_lkf A (bs_lkN A (n - 1 - i)) l) b).2 < bs_lkf A (bs_lkN A (n - 1 - i)) l b from Int.not_lt.mpr z)] at ihb; exact ihb
        · rw [if_pos (show (bs_ax (bs_lkf A (bs_lkN A (n - 1 - i)) l) b).2 < bs_lkf A (bs_lkN A (n - 1 - i)) l b from z)] at ihb; exact ihb
theorem bc_m_laysLikeliest {d : Nat} {n : Int} {h : bc_H} {A : Int → Int} {K : Int → bc_H → Prop} (eA : h 157 = A) (w0 : 0 ≤ A 0 ∧ A 0 ≤ 5) (hwg : bs_WG A) (hn : 1 ≤ n ∧ n ≤ 8) (hK : ∀ h', (∀ x, x ≠ 173 → h' x = h x) → (∀ i b, 1 ≤ i → i < n + 1 → 0 ≤ b → b < A 0 → h' 173 (5 * i + b) = bs_lkN A (i - 1) b) → K (bs_ax (bs_lkN A (n - 1)) (A 0)).1 h') : bf_M_laysLikeliest (d + 1) n h (bc_I K) := by
  refine rv_M_laysLikeliest ?_
  have g7 : ∀ g : bc_H, (∀ x, x ≠ 173 → g x = h x) → g 157 = A := fun g b1 => by rw [b1 _ (by decide)]; exact eA
  have lp : ∀ g, (∀ x, x ≠ 173 → g x = h x) → (∀ i b, 1 ≤ i → i < 2 → 0 ≤ b → b < A 0 → g 173 (5 * i + b) = bs_lkN A (i - 1) b) → bl_M_laysLikeliest_19 (d + 1) n 2 g (bc_I K) := by
    refine bc_lupF (P := fun i => ∀ g, (∀ x, x ≠ 173 → g x = h x) → (∀ j b, 1 ≤ j → j < i → 0 ≤ b → b < A 0 → g 173 (5 * j + b) = bs_lkN A (j - 1) b) → bl_M_laysLikeliest_19 (d + 1) n i g (bc_I K)) (a := 2) (n := n + 1) (fun g a1 a2 => ?_) (fun i i0 i1 ih g a1 a2 => ?_) (Int.le_refl 2) (by omega)
    · refine rv_M_laysLikeliest_19 ⟨fun _ => ?_, fun q => absurd q (by omega)⟩
      refine bc_lup (P := fun b => bl_M_laysLikeliest_91 (d + 1) n (bs_ax (bs_lkN A (n - 1)) b).1 (bs_ax (bs_lkN A (n - 1)) b).2 b g (bc_I K)) (n := A 0) ?_ (fun b b0 b1 ihb => ?_) (Int.le_refl 0) w0.1
      · exact rv_M_laysLikeliest_91 ⟨fun _ => hK g a1 a2, fun q => absurd q (by rw [g7 g a1]; omega)⟩
      · refine rv_M_laysLikeliest_91 ⟨fun q => absurd q (by rw [g7 g a1]; omega), fun _ => ?_⟩
        simp (disch := omega) only [bc_wi, Int.add_zero]
        rw [a2 n b (by omega) (by omega) b0 b1]
        rw [bs_ax_s _ b0] at ihb
        refine ⟨by omega, fun z => ⟨by omega, ?_⟩, fun z => ?_⟩
        · rw [if_pos z] at ihb; exact ihb
        · rw [if_neg (by omega)] at ihb; exact ihb
    · refine rv_M_laysLikeliest_19 ⟨fun q => absurd q (by omega), fun _ => ?_⟩
      refine bc_lup (P := fun b => ∀ g, (∀ x, x ≠ 173 → g x = h x) → (∀ j b, 1 ≤ j → j < i → 0 ≤ b → b < A 0 → g 173 (5 * j + b) = bs_lkN A (j - 1) b) → (∀ u, 0 ≤ u → u < b → g 173 (5 * i + u) = bs_lkN A (i - 1) u) → bl_M_laysLikeliest_24 (d + 1) n i b g (bc_I K)) (n := A 0) (fun g b1 b2 b3 => ?_) (fun b b0 b4 ihb g b1 b2 b3 => ?_) (Int.le_refl 0) w0.1 g a1 a2 (fun u u0 u1 => absurd u1 (by omega))
      · refine rv_M_laysLikeliest_24 ⟨fun _ => ?_, fun q => absurd q (by rw [g7 g b1]; omega)⟩
        rw [bc_wi (by omega) (by omega)]
        refine ih g b1 (fun j b j0 j1 b0 b4 => ?_)
        by_cases e : j = i
        · subst e; exact b3 b b0 b4
        · exact b2 j b j0 (by omega) b0 b4
      · refine rv_M_laysLikeliest_24 ⟨fun q => absurd q (by rw [g7 g b1]; omega), fun _ => ?_⟩
        simp (disch := omega) only [bc_wi, Int.add_zero]
        refine ⟨by omega, ?_⟩
        refine bc_lup (P := fun a => ∀ g, (∀ x, x ≠ 173 → g x = h x) → (∀ j b, 1 ≤ j → j < i → 0 ≤ b → b < A 0 → g 173 (5 * j + b) = bs_lkN A (j - 1) b) → (∀ u, 0 ≤ u → u < b → g 173 (5 * i + u) = bs_lkN A (i - 1) u) → g 173 (5 * i + b) = (bs_ax (bs_lkf A (bs_lkN A (i - 1 - 1)) b) a).2 → bl_M_laysLikeliest_41 (d + 1) n i b a g (bc_I K)) (n := A 0) (fun g c1 c2 c3 c4 => ?_) (fun a a0 a4 iha g c1 c2 c3 c4 => ?_) (Int.le_refl 0) w0.1 _ (fun x x1 => by rw [bc_urow x1]; exact b1 x x1) (fun j u j0 j1 u0 u1 => by rw [bc_uj (by omega)]; exact b2 j u j0 j1 u0 u1) (fun u u0 u1 => by rw [bc_uj (by omega)]; exact b3 u u0 u1) (by rw [bc_uu]; rfl)
        · refine rv_M_laysLikeliest_41 ⟨fun _ => ?_, fun q => absurd q (by rw [g7 g c1]; omega)⟩
          rw [bc_wi (by omega) (by omega)]
          refine ihb g c1 c2 (fun u u0 u1 => ?_)
          by_cases e : u = b
          · subst e; rw [c4]; exact (bs_lkN_e A (by omega) u).symm
          · exact c3 u u0 (by omega)
        · have pb := bs_lkf_b w0.1 hwg (k := i - 1 - 1) (by omega) (by omega) b0 b4 a0 a4
          refine rv_M_laysLikeliest_41 ⟨fun q => absurd q (by rw [g7 g c1]; omega), fun _ => ?_⟩
          simp (disch := omega) only [bc_wi, Int.add_zero]
          rw [g7 g c1, c2 (i - 1) a (by omega) (by omega) a0 a4, c4, bc_wi (x := A (134 + 5 * b + a) * bs_lkN A (i - 1 - 1) a) (by omega) (by omega)]
          refine ⟨by omega, by omega, by omega, by omega, fun h2 e2 => ?_⟩
          subst e2
          refine iha _ (fun x x1 => by rw [bc_urow x1]; exact c1 x x1) (fun j u j0 j1 u0 u1 => by rw [bc_uj (by omega)]; exact c2 j u j0 j1 u0 u1) (fun u u0 u1 => by rw [bc_uj (by omega)]; exact c3 u u0 u1) ?_
          rw [bc_uu, bs_ax_s _ a0]
          show (if (bs_ax (bs_lkf A (bs_lkN A (i - 1 - 1)) b) a).2 < bs_lkf A (bs_lkN A (i - 1 - 1)) b a then bs_lkf A (bs_lkN A (i - 1 - 1)) b a else (bs_ax (bs_lkf A (bs_lkN A (i - 1 - 1)) b) a).2) = _
          split <;> rfl
  refine bc_lup (P := fun i => ∀ g, (∀ x, x ≠ 173 → g x = h x) → (∀ b, 0 ≤ b → b < i → g 173 (5 + b) = 1) → bl_M_laysLikeliest_2 (d + 1) n i g (bc_I K)) (n := A 0) (fun g a1 a2 => ?_) (fun i i0 i1 ih g a1 a2 => ?_) (Int.le_refl 0) w0.1 h (fun _ _ => rfl) (fun b b0 b1 => absurd b1 (by omega))
  · refine rv_M_laysLikeliest_2 ⟨fun _ => lp g a1 (fun i b i0 i1 b0 b1 => ?_), fun q => absurd q (by rw [g7 g a1]; omega)⟩
    rw [show i = 1 by omega, show 5 * 1 + b = 5 + b by omega, a2 b b0 b1]; rfl
  · refine rv_M_laysLikeliest_2 ⟨fun q => absurd q (by rw [g7 g a1]; omega), fun _ => ?_⟩
    simp (disch := omega) only [bc_wi, Int.add_zero]
    refine ⟨by omega, ih _ (fun x x1 => by rw [bc_urow x1]; exact a1 x x1) (fun b b0 b1 => ?_)⟩
    by_cases e : b = i
    · rw [e, bc_uu]
    · rw [bc_uj (by omega)]; exact a2 b b0 (by omega)
theorem bs_lfin {S : Int → Int} {L c s p q : Int} {h : bc_H} (hR : bs_R S L c s p q h) {h1 h2 : bc_H} {v : Int} (f1 : ∀ x, x ≠ 23 → h1 x = h x) (f2 : ∀ x, x ≠ 173 → h2 x = bc_upd h1 0 0 v x) : bs_R S L c s p q (bc_upd h2 156 2 v) := by
  refine bs_R_F hR (fun x y k => ?_) (by rw [bc_uu, bc_ur (by decide), f2 0 (by decide), bc_uu])
  have kf := bs_kf k
  rw [bc_un2 kf.2, f2 x (fun e => by subst e; exact bs_nk (by omega) k), bc_un2 kf.1, f1 x (fun e => by subst e; exact bs_nk (by omega) k)]
theorem bs_o_likeliest {d : Nat} {n : Int} {S : Int → Int} {L c s p q : Int} {h : bc_H} (hR : bs_R S L c s p q h) {P : Int → Int → bc_H → Prop} {Q1 : Int → bc_H → Prop} (hQ : ∀ y h1, h1 (-2) = h (-2) → h1 (-3) = h (-3) → bf_M_likeliest (d + 4) n h1 (bc_I fun y2 h2 => P y y2 h2) → Q1 y h1) (hK : ∀ y h2, bs_R S L c s p q h2 → P y y h2) : bf_X_likeliest (d + 4) n h (bc_I Q1) := by
  obtain ⟨⟨hcs, hpq⟩, ⟨e12, e13, e14, e15⟩, hS, est, efr, htr, htp, hfa, hlv, hlo, hrs, hmk, ⟨hC, hW, hck, hN, hP⟩⟩ := id hR
  obtain ⟨⟨n4, n5, n6, n2, n0, n1, n3⟩, hw, hd, hg, hf, hm⟩ := id hC
  obtain ⟨⟨w0, w1, w2, w3, w4, w5, w7⟩, hww, hwy, hwv, hwf, hwg⟩ := id hW
  have hq : ∀ y v, P y y (bc_upd (bc_upd h 0 0 v) 156 2 v) := fun y v => hK _ _ (bs_R_st hR v)
  refine rv_X_likeliest (d := d + 3) ⟨fun zn => ?_, fun zn => ?_⟩
  · rw [e12]
    refine ⟨by omega, ?_⟩
    refine bc_c_bestProduct (by omega) n0 hg w0 hwg zn (fun h1 f1 f2 => ⟨fun z => ?_, fun z => ?_⟩)
    · refine hQ _ _ (by rw [bc_urow (by decide), f1 _ (by decide)]) (by rw [bc_urow (by decide), f1 _ (by decide)]) ?_
      refine rv_M_likeliest (d := d + 3) ⟨fun _ => ?_, fun q => absurd zn q⟩
      refine bc_m_laysLikeliest (d := d + 2) (A := h 157) (by rw [bc_urow (by decide), f1 _ (by decide)]) w0 hwg zn (fun h2 g1 g2 => ?_)
      rcases bs_ax_p (bs_lkN (h 157) (n - 1)) w0.1 with ⟨q, _⟩ | ⟨q1, q2, q3, q4, q5⟩
      · exact absurd q z
      · refine ⟨fun _ => ?_, fun q => absurd q (by omega)⟩
        simp (disch := omega) only [bc_wi, Int.add_zero]
        rw [g2 n _ (by omega) (by omega) q2 q3, q4]
        exact ⟨by omega, hK _ _ (bs_lfin hR f1 g1)⟩
    · refine hQ _ _ (by rw [bc_urow (by decide), f1 _ (by decide)]) (by rw [bc_urow (by decide), f1 _ (by decide)]) ?_
      refine rv_M_likeliest (d := d + 3) ⟨fun _ => ?_, fun q => absurd zn q⟩
      refine bc_m_laysLikeliest (d := d + 2) (A := h 157) (by rw [bc_urow (by decide), f1 _ (by decide)]) w0 hwg zn (fun h2 g1 g2 => ?_)
      rcases bs_ax_p (bs_lkN (h 157) (n - 1)) w0.1 with ⟨q, qq⟩ | ⟨q1, q2, q3, q4, q5⟩
      · exact ⟨fun q => absurd qq q, fun _ => hK _ _ (bs_lfin hR f1 g1)⟩
      · omega
  · refine hQ _ _ (by first | rfl | exact bc_urow (by decide)) (by first | rfl | exact bc_urow (by decide)) ?_
    exact rv_M_likeliest (d := d + 3) ⟨fun q => absurd q zn, fun _ => hq _ _⟩
theorem bs_o_likeliestAt {d : Nat} {n k : Int} {S : Int → Int} {L c s p q : Int} {h : bc_H} (hR : bs_R S L c s p q h) {P : Int → Int → bc_H → Prop} {Q1 : Int → bc_H → Prop} (hQ : ∀ y h1, h1 (-2) = h (-2) → h1 (-3) = h (-3) → bf_M_likeliestAt (d + 4) n k h1 (bc_I fun y2 h2 => P y y2 h2) → Q1 y h1) (hK : ∀ y h2, bs_R S L c s p q h2 → P y y h2) : bf_X_likeliestAt (d + 4) n k h (bc_I Q1) := by
  obtain ⟨⟨hcs, hpq⟩, ⟨e12, e13, e14, e15⟩, hS, est, efr, htr, htp, hfa, hlv, hlo, hrs, hmk, ⟨hC, hW, hck, hN, hP⟩⟩ := id hR
  obtain ⟨⟨n4, n5, n6, n2, n0, n1, n3⟩, hw, hd, hg, hf, hm⟩ := id hC
  obtain ⟨⟨w0, w1, w2, w3, w4, w5, w7⟩, hww, hwy, hwv, hwf, hwg⟩ := id hW
  have hq : ∀ y v, P y y (bc_upd (bc_upd h 0 0 v) 156 2 v) := fun y v => hK _ _ (bs_R_st hR v)
  refine rv_X_likeliestAt (d := d + 3) ⟨fun zn => ⟨fun zk => ⟨fun zq => ?_, fun zq => ?_⟩, fun zk => ?_⟩, fun zn => ?_⟩
  · refine hQ _ _ (by first | rfl | exact bc_urow (by decide)) (by first | rfl | exact bc_urow (by decide)) ?_
    refine rv_M_likeliestAt (d := d + 3) ⟨fun _ => ⟨fun _ => ?_, fun q => absurd q (by omega)⟩, fun q => absurd zn q⟩
    refine bc_m_laysLikeliest (d := d + 2) (A := h 157) (bc_urow (by decide)) w0 hwg zn (fun h2 g1 g2 => ?_)
    have fin : P (-1) (-1) (bc_upd h2 156 2 6) := hK _ _ (bs_lfin hR (fun _ _ => rfl) g1)
    exact ⟨fun _ => fin, fun _ => ⟨fun q => absurd q (by omega), fun _ => fin⟩⟩
  · rw [e12]
    refine ⟨by omega, ?_⟩
    refine bc_c_bestProduct (by omega) n0 hg w0 hwg zn (fun h1 f1 f2 => ⟨fun z => ?_, fun z => ?_⟩)
    · rw [f1 0 (by decide), e12]
      refine ⟨by omega, ?_⟩
      refine bc_c_inBest (A := h 157) (by omega) (by rw [f1 _ (by omega)]; exact n0) (fun a b a0 a1 b0 b1 => by rw [f1 _ (by omega)]; exact hg a b a0 a1 b0 b1) w0 hwg zn ⟨zk, zq⟩ f2 z ?_
      refine hQ _ _ (by rw [bc_urow (by decide), f1 _ (by decide)]) (by rw [bc_urow (by decide), f1 _ (by decide)]) ?_
      refine rv_M_likeliestAt (d := d + 3) ⟨fun _ => ⟨fun _ => ?_, fun q => absurd q (by omega)⟩, fun q => absurd zn q⟩
      refine bc_m_laysLikeliest (d := d + 2) (A := h 157) (by rw [bc_urow (by decide), f1 _ (by decide)]) w0 hwg zn (fun h2 g1 g2 => ?_)
      have p0 := bs_lkp_i w0 hwg zn z (Int.le_refl 0) (by omega)
      have p0' : (0 ≤ (bs_ax (bs_lkN (h 157) (n - 1)) (h 157 0)).1 ∧ (bs_ax (bs_lkN (h 157) (n - 1)) (h 157 0)).1 < h 157 0) := p0.1
      have h7 : h2 157 = h 157 := by rw [g1 _ (by decide), bc_urow (by decide), f1 _ (by decide)]
      refine ⟨fun q => absurd q (by omega), fun _ => ⟨fun _ => ?_, fun q => absurd q (by omega)⟩⟩
      refine bc_lup (P := fun i => bl_M_likeliestAt_28 (d + 4) n k (bs_lkp (h 157) n i) i h2 (bc_I fun y2 h2 => P (bs_lkp (h 157) n k) y2 h2)) (n := k) ?_ (fun i i0 i1 ih => ?_) (Int.le_refl 0) zk
      · exact rv_M_likeliestAt_28 (d := d + 3) ⟨fun _ => hK _ _ (bs_lfin hR f1 g1), fun q => absurd q (by omega)⟩
      · refine rv_M_likeliestAt_28 (d := d + 3) ⟨fun q => absurd q (by omega), fun _ => ?_⟩
        have pr := bs_lkp_i w0 hwg zn z (i := i) i0 (by omega)
        obtain ⟨t1, t2, t3, t4, t5⟩ := bs_lkp_st w0 hwg zn.2 i0 (by omega) pr
        rw [bs_lkp_s _ _ i0] at ih
        generalize bs_lkp (h 157) n i = l at *
        refine bc_lup (P := fun b => bl_M_likeliestAt_33 (d + 4) n k l i b h2 (bc_I fun y2 h2 => P (bs_lkp (h 157) n k) y2 h2)) (n := (bs_ax (bs_lkf (h 157) (bs_lkN (h 157) (n - 2 - i)) l) (h 157 0)).1) ?_ (fun b b0 b1 ihb => ?_) (Int.le_refl 0) t2.1.1
        · have pb := bs_lkf_b w0.1 hwg (k := n - 2 - i) (by omega) (by omega) pr.1.1 pr.1.2 t2.1.1 t2.1.2
          refine rv_M_likeliestAt_33 (d := d + 3) ?_
          generalize (bs_ax (bs_lkf (h 157) (bs_lkN (h 157) (n - 2 - i)) l) (h 157 0)).1 = t at *
          simp (disch := omega) only [bc_wi, Int.add_zero]
          rw [h7, g2 (n - i - 1) t (by omega) (by omega) t2.1.1 t2.1.2, g2 (n - i) l (by omega) (by omega) pr.1.1 pr.1.2, show n - i - 1 - 1 = n - 2 - i by omega, show n - i - 1 = n - 1 - i by omega, bc_wi (x := h 157 (134 + 5 * l + t) * bs_lkN (h 157) (n - 2 - i) t) (by omega) (by omega), t5]
          exact ⟨by omega, by omega, by omega, fun _ => ih, fun q => absurd t3 q⟩
        · have pb := bs_lkf_b w0.1 hwg (k := n - 2 - i) (by omega) (by omega) pr.1.1 pr.1.2 b0 (show b < h 157 0 by omega)
          have lt := t4 b b0 b1
          refine rv_M_likeliestAt_33 (d := d + 3) ?_
          simp (disch := omega) only [bc_wi, Int.add_zero]
          rw [h7, g2 (n - i - 1) b (by omega) (by omega) b0 (by omega), g2 (n - i) l (by omega) (by omega) pr.1.1 pr.1.2, show n - i - 1 - 1 = n - 2 - i by omega, show n - i - 1 = n - 1 - i by omega, bc_wi (x := h 157 (134 + 5 * l + b) * bs_lkN (h 157) (n - 2 - i) b) (by omega) (by omega), t5]
          exact ⟨by omega, by omega, by omega, fun q => absurd (show bs_lkf (h 157) (bs_lkN (h 157) (n - 2 - i)) l b = _ from q) (by omega), fun _ => ihb⟩
    · refine hQ _ _ (by rw [bc_urow (by decide), f1 _ (by decide)]) (by rw [bc_urow (by decide), f1 _ (by decide)]) ?_
      refine rv_M_likeliestAt (d := d + 3) ⟨fun _ => ⟨fun _ => ?_, fun q => absurd q (by omega)⟩, fun q => absurd zn q⟩
      refine bc_m_laysLikeliest (d := d + 2) (A := h 157) (by rw [bc_urow (by decide), f1 _ (by decide)]) w0 hwg zn (fun h2 g1 g2 => ?_)
      rcases bs_ax_p (bs_lkN (h 157) (n - 1)) w0.1 with ⟨q, qq⟩ | ⟨q1, q2, q3, q4, q5⟩
      · exact ⟨fun _ => hK _ _ (bs_lfin hR f1 g1), fun q => absurd qq q⟩
      · omega
  · refine hQ _ _ (by first | rfl | exact bc_urow (by decide)) (by first | rfl | exact bc_urow (by decide)) ?_
    exact rv_M_likeliestAt (d := d + 3) ⟨fun _ => ⟨fun q => absurd q (by omega), fun _ => hq _ _⟩, fun q => absurd zn q⟩
  · refine hQ _ _ (by first | rfl | exact bc_urow (by decide)) (by first | rfl | exact bc_urow (by decide)) ?_
    exact rv_M_likeliestAt (d := d + 3) ⟨fun q => absurd q zn, fun _ => hq _ _⟩
