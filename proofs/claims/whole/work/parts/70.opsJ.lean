/-! ===== rows of beasts ===== -/
def bs_rwS (A f : Int → Int) : Int → Int := fun b => bc_it (fun a x => x + (if 0 < A (134 + 5 * a + b) then f a else 0)) 0 (A 0)
def bs_rwN (A : Int → Int) (k : Int) : Int → Int := bc_it (fun _ f => bs_rwS A f) (fun _ => 1) k
def bs_rwP (A f : Int → Int) (b i : Int) : Int := bc_it (fun a x => x + (if 0 < A (134 + 5 * a + b) then f a else 0)) 0 i
theorem bs_rwP_s (A f : Int → Int) (b : Int) {i : Int} (h : 0 ≤ i) : bs_rwP A f b (i + 1) = bs_rwP A f b i + (if 0 < A (134 + 5 * i + b) then f i else 0) := bc_its _ _ h
theorem bs_rwN_s (A : Int → Int) {k : Int} (h : 0 ≤ k) : bs_rwN A (k + 1) = bs_rwS A (bs_rwN A k) := bc_its _ _ h
theorem bs_rwP_r {A f : Int → Int} {b M : Int} (hf : ∀ a, 0 ≤ f a ∧ f a ≤ M) {i : Int} (h : 0 ≤ i) : 0 ≤ bs_rwP A f b i ∧ bs_rwP A f b i ≤ i * M := by
  refine bc_it_ind (fun i x => 0 ≤ x ∧ x ≤ i * M) (by rw [Int.zero_mul]; omega) (fun i x i0 ih => ?_) h
  have := hf i
  rw [Int.add_mul, Int.one_mul]
  split <;> omega
theorem bs_rwN_r {A : Int → Int} (h0 : 0 ≤ A 0) (h5 : A 0 ≤ 5) : ∀ m : Nat, ∀ a, 0 ≤ bs_rwN A (m : Int) a ∧ bs_rwN A (m : Int) a ≤ ((5 ^ m : Nat) : Int)
  | 0, a => by show (0 : Int) ≤ 1 ∧ (1 : Int) ≤ ((5 ^ 0 : Nat) : Int); decide
  | m + 1, a => by
    have ih := bs_rwN_r h0 h5 m
    rw [show ((m + 1 : Nat) : Int) = (m : Int) + 1 by omega, bs_rwN_s A (by omega)]
    have t := bs_rwP_r (A := A) (f := bs_rwN A (m : Int)) (b := a) (M := ((5 ^ m : Nat) : Int)) ih (i := A 0) h0
    have e : bs_rwS A (bs_rwN A (m : Int)) a = bs_rwP A (bs_rwN A (m : Int)) a (A 0) := rfl
    rw [e, Nat.pow_succ]
    generalize 5 ^ m = M at t ⊢
    have t1 : A 0 * (M : Int) ≤ 5 * (M : Int) := Int.mul_le_mul_of_nonneg_right h5 (Int.natCast_nonneg M)
    have t2 : ((M * 5 : Nat) : Int) = 5 * (M : Int) := by omega
    omega
theorem bs_rwN_b {A : Int → Int} (h0 : 0 ≤ A 0) (h5 : A 0 ≤ 5) {k : Int} (k0 : 0 ≤ k) (k1 : k ≤ 11) (a : Int) : 0 ≤ bs_rwN A k a ∧ bs_rwN A k a ≤ 48828125 := by
  have t := bs_rwN_r h0 h5 k.toNat a
  rw [show ((k.toNat : Nat) : Int) = k by omega] at t
  have p : 5 ^ k.toNat ≤ 5 ^ 11 := Nat.pow_le_pow_right (by decide) (by omega)
  have q : (5 : Nat) ^ 11 = 48828125 := by decide
  omega
theorem bc_c_countRows {d : Nat} {c n : Int} {h : bc_H} {A : Int → Int} {K : bc_H → Prop} (hc : 24 ≤ c ∧ c ≤ 130) (n0 : h (c + 1) 0 = A 0) (hg : bs_Cg h c A) (w0 : 0 ≤ A 0 ∧ A 0 ≤ 5) (hn : 1 ≤ n ∧ n ≤ 12) (hK : ∀ h', (∀ x, x ≠ 23 → h' x = h x) → (∀ b, 0 ≤ b → b < A 0 → h' 23 b = bs_rwN A (n - 1) b) → K h') : bf_Beasts_countRows d (c + 1) n h (bc_U K) := by
  refine rv_Beasts_countRows ?_
  have lp : ∀ g, (∀ x, x ≠ 23 → g x = h x) → (∀ b, 0 ≤ b → b < A 0 → g 23 b = bs_rwN A (1 - 1) b) → bl_Beasts_countRows_14 d (c + 1) n 1 g (bc_U K) := by
    refine bc_lupF (P := fun i => ∀ g, (∀ x, x ≠ 23 → g x = h x) → (∀ b, 0 ≤ b → b < A 0 → g 23 b = bs_rwN A (i - 1) b) → bl_Beasts_countRows_14 d (c + 1) n i g (bc_U K)) (a := 1) (n := n) (fun g a1 a2 => ?_) (fun i i0 i1 ih g a1 a2 => ?_) (Int.le_refl 1) hn.1
    · exact rv_Beasts_countRows_14 ⟨fun _ => hK g a1 a2, fun q => absurd q (by omega)⟩
    · refine rv_Beasts_countRows_14 ⟨fun q => absurd q (by omega), fun _ => ?_⟩
      refine (bc_lup (P := fun b => ∀ g, (∀ x, x ≠ 23 → g x = h x) → (∀ b, 0 ≤ b → b < A 0 → g 23 b = bs_rwN A (i - 1) b) → (∀ u, 0 ≤ u → u < b → g 23 (5 + u) = bs_rwN A i u) → bl_Beasts_countRows_19 d (c + 1) n i b g (bc_U K)) (n := A 0) (fun g b1 b2 b3 => ?_) (fun b b0 b4 ihb g b1 b2 b3 => ?_) (Int.le_refl 0) w0.1) g a1 a2 (fun u u0 u1 => absurd u1 (by omega))
      · refine rv_Beasts_countRows_19 ⟨fun _ => ?_, fun q => absurd q (by rw [b1 _ (by omega)]; omega)⟩
        rw [bc_wi (by omega) (by omega)]
        refine ih _ (fun x x1 => by rw [bc_br x1]; exact b1 x x1) (fun b b0 b1 => ?_)
        rw [bc_bi b0 (by omega), Int.sub_zero, b3 b b0 b1, show i + 1 - 1 = i by omega]
      · refine rv_Beasts_countRows_19 ⟨fun q => absurd q (by rw [b1 _ (by omega)]; omega), fun _ => ?_⟩
        refine (bc_lup (P := fun a => bl_Beasts_countRows_27 d (c + 1) n i b (bs_rwP A (bs_rwN A (i - 1)) b a) a g (bc_U K)) (n := A 0) ?_ (fun a a0 a4 iha => ?_) (Int.le_refl 0) w0.1)
        · refine rv_Beasts_countRows_27 ⟨fun _ => ?_, fun q => absurd q (by rw [b1 _ (by omega)]; omega)⟩
          simp (disch := omega) only [bc_wi, Int.add_zero]
          refine ⟨by omega, ihb _ (fun x x1 => by rw [bc_urow x1]; exact b1 x x1) (fun u u0 u1 => by rw [bc_uj (by omega)]; exact b2 u u0 u1) (fun u u0 u1 => ?_)⟩
          by_cases e : u = b
          · rw [e, bc_uu, show bs_rwN A i = bs_rwS A (bs_rwN A (i - 1)) by rw [← bs_rwN_s A (by omega), show i - 1 + 1 = i by omega]]; rfl
          · rw [bc_uj (by omega)]; exact b3 u u0 (by omega)
        · have rb := fun x => bs_rwN_b (A := A) w0.1 w0.2 (k := i - 1) (by omega) (by omega) x
          have pb := bs_rwP_r (A := A) (b := b) (M := 48828125) rb (i := a) a0
          have ra := rb a
          rw [bs_rwP_s _ _ _ a0] at iha
          refine rv_Beasts_countRows_27 ⟨fun q => absurd q (by rw [b1 _ (by omega)]; omega), fun _ => ?_⟩
          simp (disch := omega) only [bc_wi, Int.add_zero]
          rw [b1 (c + 1 + 1) (by omega), hg a b a0 a4 b0 b4, b2 a a0 a4]
          refine ⟨by omega, fun z => ?_, fun z => ⟨by omega, ?_⟩⟩
          · rw [if_neg (by omega), Int.add_zero] at iha; exact iha
          · rw [if_pos z] at iha
            rw [bc_wi (by omega) (by omega)]; exact iha
  refine (bc_lup (P := fun i => ∀ g, (∀ x, x ≠ 23 → g x = h x) → (∀ b, 0 ≤ b → b < i → g 23 b = 1) → bl_Beasts_countRows_2 d (c + 1) n i g (bc_U K)) (n := A 0) (fun g a1 a2 => ?_) (fun i i0 i1 ih g a1 a2 => ?_) (Int.le_refl 0) w0.1) h (fun _ _ => rfl) (fun b b0 b1 => absurd b1 (by omega))
  · exact rv_Beasts_countRows_2 ⟨fun _ => lp g a1 a2, fun q => absurd q (by rw [a1 _ (by omega)]; omega)⟩
  · refine rv_Beasts_countRows_2 ⟨fun q => absurd q (by rw [a1 _ (by omega)]; omega), fun _ => ⟨by omega, ?_⟩⟩
    simp (disch := omega) only [bc_wi, Int.add_zero]
    refine ih _ (fun x x1 => by rw [bc_urow x1]; exact a1 x x1) (fun b b0 b1 => ?_)
    by_cases e : b = i
    · rw [e, bc_uu]
    · rw [bc_uj e]; exact a2 b b0 (by omega)
theorem bc_m_laysRows {d : Nat} {n : Int} {h : bc_H} {A : Int → Int} {K : bc_H → Prop} (eA : h 157 = A) (w0 : 0 ≤ A 0 ∧ A 0 ≤ 5) (hn : 1 ≤ n ∧ n ≤ 12) (hK : ∀ h', (∀ x, x ≠ 171 → x ≠ 172 → h' x = h x) → (∀ b, 0 ≤ b → b < A 0 → h' 171 b = bs_rwN A (n - 1) b) → (∀ b, A 0 ≤ b → b < 5 → h' 171 b = 0) → K h') : bf_M_laysRows (d + 1) n h (bc_U K) := by
  refine rv_M_laysRows ?_
  have lp : ∀ g, (∀ x, x ≠ 171 → x ≠ 172 → g x = h x) → (∀ b, 0 ≤ b → b < A 0 → g 171 b = bs_rwN A (1 - 1) b) → (∀ b, A 0 ≤ b → b < 5 → g 171 b = 0) → bl_M_laysRows_22 (d + 1) n 1 g (bc_U K) := by
    refine bc_lupF (P := fun i => ∀ g, (∀ x, x ≠ 171 → x ≠ 172 → g x = h x) → (∀ b, 0 ≤ b → b < A 0 → g 171 b = bs_rwN A (i - 1) b) → (∀ b, A 0 ≤ b → b < 5 → g 171 b = 0) → bl_M_laysRows_22 (d + 1) n i g (bc_U K)) (a := 1) (n := n) (fun g a1 a2 a3 => ?_) (fun i i0 i1 ih g a1 a2 a3 => ?_) (Int.le_refl 1) hn.1
    · exact rv_M_laysRows_22 ⟨fun _ => hK g a1 a2 a3, fun q => absurd q (by omega)⟩
    · have g7 : ∀ g : bc_H, (∀ x, x ≠ 171 → x ≠ 172 → g x = h x) → g 157 = A := fun g b1 => by rw [b1 _ (by decide) (by decide)]; exact eA
      refine rv_M_laysRows_22 ⟨fun q => absurd q (by omega), fun _ => ?_⟩
      refine (bc_lup (P := fun b => ∀ g, (∀ x, x ≠ 171 → x ≠ 172 → g x = h x) → (∀ b, 0 ≤ b → b < A 0 → g 171 b = bs_rwN A (i - 1) b) → (∀ b, A 0 ≤ b → b < 5 → g 171 b = 0) → (∀ u, 0 ≤ u → u < b → g 172 u = bs_rwN A i u) → bl_M_laysRows_27 (d + 1) n i b g (bc_U K)) (n := A 0) (fun g b1 b2 b5 b3 => ?_) (fun b b0 b4 ihb g b1 b2 b5 b3 => ?_) (Int.le_refl 0) w0.1) g a1 a2 a3 (fun u u0 u1 => absurd u1 (by omega))
      · refine rv_M_laysRows_27 ⟨fun _ => ?_, fun q => absurd q (by rw [g7 g b1]; omega)⟩
        refine (bc_lup (P := fun b => ∀ g, (∀ x, x ≠ 171 → x ≠ 172 → g x = h x) → (∀ u, 0 ≤ u → u < A 0 → g 172 u = bs_rwN A i u) → (∀ b, A 0 ≤ b → b < 5 → g 171 b = 0) → (∀ u, 0 ≤ u → u < b → g 171 u = bs_rwN A i u) → bl_M_laysRows_70 (d + 1) n i b g (bc_U K)) (n := A 0) (fun g c1 c2 c5 c3 => ?_) (fun b b0 b4 ihb g c1 c2 c5 c3 => ?_) (Int.le_refl 0) w0.1) g b1 b3 b5 (fun u u0 u1 => absurd u1 (by omega))
        · refine rv_M_laysRows_70 ⟨fun _ => ?_, fun q => absurd q (by rw [g7 g c1]; omega)⟩
          rw [bc_wi (by omega) (by omega)]
          exact ih _ c1 (fun u u0 u1 => by rw [c3 u u0 u1, show i + 1 - 1 = i by omega]) c5
        · refine rv_M_laysRows_70 ⟨fun q => absurd q (by rw [g7 g c1]; omega), fun _ => ⟨by omega, by omega, ?_⟩⟩
          rw [bc_wi (by omega) (by omega)]
          refine ihb _ (fun x x1 x2 => by rw [bc_urow x1]; exact c1 x x1 x2) (fun u u0 u1 => by rw [bc_ur (by decide)]; exact c2 u u0 u1) (fun u u0 u1 => by rw [bc_uj (by omega)]; exact c5 u u0 u1) (fun u u0 u1 => ?_)
          by_cases e : u = b
          · rw [e, bc_uu]; exact c2 b b0 b4
          · rw [bc_uj e]; exact c3 u u0 (by omega)
      · refine rv_M_laysRows_27 ⟨fun q => absurd q (by rw [g7 g b1]; omega), fun _ => ⟨by omega, ?_⟩⟩
        refine (bc_lup (P := fun a => ∀ g, (∀ x, x ≠ 171 → x ≠ 172 → g x = h x) → (∀ b, 0 ≤ b → b < A 0 → g 171 b = bs_rwN A (i - 1) b) → (∀ b, A 0 ≤ b → b < 5 → g 171 b = 0) → (∀ u, 0 ≤ u → u < b → g 172 u = bs_rwN A i u) → g 172 b = bs_rwP A (bs_rwN A (i - 1)) b a → bl_M_laysRows_40 (d + 1) n i b a g (bc_U K)) (n := A 0) (fun g c1 c2 c5 c3 c6 => ?_) (fun a a0 a4 iha g c1 c2 c5 c3 c6 => ?_) (Int.le_refl 0) w0.1) _ (fun x x1 x2 => by rw [bc_urow x2]; exact b1 x x1 x2) (fun u u0 u1 => by rw [bc_ur (by decide)]; exact b2 u u0 u1) (fun u u0 u1 => by rw [bc_ur (by decide)]; exact b5 u u0 u1) (fun u u0 u1 => by rw [bc_uj (by omega)]; exact b3 u u0 u1) (by rw [bc_uu]; rfl)
        · refine rv_M_laysRows_40 ⟨fun _ => ?_, fun q => absurd q (by rw [g7 g c1]; omega)⟩
          rw [bc_wi (by omega) (by omega)]
          refine ihb _ c1 c2 c5 (fun u u0 u1 => ?_)
          by_cases e : u = b
          · rw [e, c6, show bs_rwN A i = bs_rwS A (bs_rwN A (i - 1)) by rw [← bs_rwN_s A (by omega), show i - 1 + 1 = i by omega]]; rfl
          · exact c3 u u0 (by omega)
        · have rb := fun x => bs_rwN_b (A := A) w0.1 w0.2 (k := i - 1) (by omega) (by omega) x
          have pb := bs_rwP_r (A := A) (b := b) (M := 48828125) rb (i := a) a0
          have ra := rb a
          rw [bs_rwP_s _ _ _ a0] at iha
          refine rv_M_laysRows_40 ⟨fun q => absurd q (by rw [g7 g c1]; omega), fun _ => ?_⟩
          simp (disch := omega) only [bc_wi, Int.add_zero]
          rw [g7 g c1, c6, c2 a a0 a4]
          refine ⟨by omega, by omega, fun z => ⟨by omega, ?_⟩, fun z => ⟨by omega, by omega, ?_⟩⟩
          · rw [bc_wl (by omega) (by omega)]
            refine iha _ (fun x x1 x2 => by rw [bc_urow x2]; exact c1 x x1 x2) (fun u u0 u1 => by rw [bc_ur (by decide)]; exact c2 u u0 u1) (fun u u0 u1 => by rw [bc_ur (by decide)]; exact c5 u u0 u1) (fun u u0 u1 => by rw [bc_uj (by omega)]; exact c3 u u0 u1) ?_
            rw [bc_uu, if_neg (by omega), Int.add_zero]
          · rw [bc_wl (by omega) (by omega)]
            refine iha _ (fun x x1 x2 => by rw [bc_urow x2]; exact c1 x x1 x2) (fun u u0 u1 => by rw [bc_ur (by decide)]; exact c2 u u0 u1) (fun u u0 u1 => by rw [bc_ur (by decide)]; exact c5 u u0 u1) (fun u u0 u1 => by rw [bc_uj (by omega)]; exact c3 u u0 u1) ?_
            rw [bc_uu, if_pos z]
  refine (bc_lup (P := fun i => ∀ g, (∀ x, x ≠ 171 → x ≠ 172 → g x = h x) → (∀ b, 0 ≤ b → b < i → g 171 b = (if b < A 0 then 1 else 0)) → bl_M_laysRows_2 (d + 1) n i g (bc_U K)) (n := 5) (fun g a1 a2 => ?_) (fun i i0 i1 ih g a1 a2 => ?_) (Int.le_refl 0) (by decide)) h (fun _ _ _ => rfl) (fun b b0 b1 => absurd b1 (by omega))
  · refine rv_M_laysRows_2 ⟨fun _ => lp g a1 (fun b b0 b1 => ?_) (fun b b0 b1 => ?_), fun q => absurd q (by omega)⟩
    · rw [a2 b b0 (by omega), if_pos b1]; rfl
    · rw [a2 b (by omega) b1, if_neg (by omega)]
  · refine rv_M_laysRows_2 ⟨fun q => absurd q (by omega), fun _ => ?_⟩
    rw [a1 157 (by decide) (by decide), eA, bc_wi (by omega) (by omega)]
    have st : ∀ v, v = (if i < A 0 then 1 else 0) → bl_M_laysRows_2 (d + 1) n (i + 1) (bc_upd g 171 i v) (bc_U K) := fun v ev => ih _ (fun x x1 x2 => by rw [bc_urow x1]; exact a1 x x1 x2) (fun b b0 b1 => by
      by_cases e : b = i
      · rw [e, bc_uu, ev]
      · rw [bc_uj e]; exact a2 b b0 (by omega))
    exact ⟨fun z => ⟨by omega, st 0 (by rw [if_neg (by omega)])⟩, fun z => ⟨by omega, st 1 (by rw [if_pos z])⟩⟩
theorem bs_rfin {S : Int → Int} {L c s p q : Int} {h : bc_H} (hR : bs_R S L c s p q h) {h1 h2 : bc_H} {v : Int} (f1 : ∀ x, x ≠ 23 → h1 x = h x) (f2 : ∀ x, x ≠ 171 → x ≠ 172 → h2 x = bc_upd h1 0 0 v x) : bs_R S L c s p q (bc_upd h2 156 2 v) := by
  refine bs_R_F hR (fun x y k => ?_) (by rw [bc_uu, bc_ur (by decide), f2 0 (by decide) (by decide), bc_uu])
  have kf := bs_kf k
  rw [bc_un2 kf.2, f2 x (fun e => by subst e; exact bs_nk (by omega) k) (fun e => by subst e; exact bs_nk (by omega) k), bc_un2 kf.1, f1 x (fun e => by subst e; exact bs_nk (by omega) k)]
def bs_rsum (A : Int → Int) (k n : Int) : Int := bc_it (fun b x => x + bs_rwN A k b) 0 n
theorem bs_rsum_r {A : Int → Int} (w0 : 0 ≤ A 0 ∧ A 0 ≤ 5) {k : Int} (k0 : 0 ≤ k) (k1 : k ≤ 11) {i : Int} (h : 0 ≤ i) : 0 ≤ bs_rsum A k i ∧ bs_rsum A k i ≤ i * 48828125 := by
  refine bc_it_ind (fun i x => 0 ≤ x ∧ x ≤ i * 48828125) (by omega) (fun i x i0 ih => ?_) h
  have := bs_rwN_b w0.1 w0.2 k0 k1 i
  omega
theorem bs_o_rows {d : Nat} {n : Int} {S : Int → Int} {L c s p q : Int} {h : bc_H} (hR : bs_R S L c s p q h) {P : Int → Int → bc_H → Prop} {Q1 : Int → bc_H → Prop} (hQ : ∀ y h1, h1 (-2) = h (-2) → h1 (-3) = h (-3) → bf_M_rows (d + 4) n h1 (bc_J fun y2 h2 => P y y2 h2) → Q1 y h1) (hK : ∀ y h2, bs_R S L c s p q h2 → P y y h2) : bf_X_rows (d + 4) n h (bc_J Q1) := by
  obtain ⟨⟨hcs, hpq⟩, ⟨e12, e13, e14, e15⟩, hS, est, efr, htr, htp, hfa, hlv, hlo, hrs, hmk, ⟨hC, hW, hck, hN, hP⟩⟩ := id hR
  obtain ⟨⟨n4, n5, n6, n2, n0, n1, n3⟩, hw, hd, hg, hf, hm⟩ := id hC
  obtain ⟨⟨w0, w1, w2, w3, w4, w5, w7⟩, hww, hwy, hwv, hwf, hwg⟩ := id hW
  have hq : ∀ y v, P y y (bc_upd (bc_upd h 0 0 v) 156 2 v) := fun y v => hK _ _ (bs_R_st hR v)
  refine rv_X_rows (d := d + 3) ⟨fun zn => ?_, fun zn => ?_⟩
  · rw [e12]
    refine ⟨by omega, ?_⟩
    refine bc_c_countRows (by omega) n0 hg w0 zn (fun h1 f1 f2 => ?_)
    refine bc_lup (P := fun i => bl_X_rows_21 (d + 4) (bs_rsum (h 157) (n - 1) i) i h1 (bc_J Q1)) (n := h 157 0) ?_ (fun i i0 hi ih => ?_) (Int.le_refl 0) w0.1
    · refine rv_X_rows_21 (d := d + 3) ?_
      rw [f1 0 (by decide), e12, f1 _ (by omega), n0]
      refine ⟨by omega, fun _ => ?_, fun q => absurd q (by omega)⟩
      refine hQ _ _ (by rw [bc_urow (by decide), f1 _ (by decide)]) (by rw [bc_urow (by decide), f1 _ (by decide)]) ?_
      refine rv_M_rows (d := d + 3) ⟨fun _ => ?_, fun q => absurd zn q⟩
      have e1571 : bc_upd h1 0 0 0 157 = h 157 := by rw [bc_urow (by decide), f1 _ (by decide)]
      refine bc_m_laysRows (d := d + 2) e1571 w0 zn (fun h2 g1 g2 g3 => ?_)
      refine bc_lup (P := fun i => bl_M_rows_18 (d + 4) (bs_rsum (h 157) (n - 1) (if i ≤ h 157 0 then i else h 157 0)) i h2 (bc_J fun y2 h2 => P (bs_rsum (h 157) (n - 1) (h 157 0)) y2 h2)) (n := 5) ?_ (fun i i0 hi ih => ?_) (Int.le_refl 0) (by decide) |> fun t => by rw [if_pos w0.1] at t; exact t
      · refine rv_M_rows_18 (d := d + 3) ⟨fun _ => ?_, fun q => absurd q (by decide)⟩
        rw [show (if 5 ≤ h 157 0 then 5 else h 157 0) = h 157 0 by split <;> omega]
        exact hK _ _ (bs_rfin hR f1 g1)
      · refine rv_M_rows_18 (d := d + 3) ⟨fun q => absurd q (by omega), fun _ => ⟨by omega, ?_⟩⟩
        rw [bc_wi (by omega) (by omega)]
        by_cases z : i < h 157 0
        · have t := bs_rsum_r (A := h 157) w0 (k := n - 1) (by omega) (by omega) i0
          have u := bs_rwN_b (A := h 157) w0.1 w0.2 (k := n - 1) (by omega) (by omega) i
          rw [if_pos (by omega), show bs_rsum (h 157) (n - 1) (i + 1) = bs_rsum (h 157) (n - 1) i + bs_rwN (h 157) (n - 1) i from bc_its _ _ i0] at ih
          rw [if_pos (by omega), g2 i i0 z, bc_wl (by omega) (by omega)]
          exact ih
        · have t := bs_rsum_r (A := h 157) w0 (k := n - 1) (by omega) (by omega) w0.1
          rw [if_neg (by omega)] at ih
          rw [show (if i ≤ h 157 0 then i else h 157 0) = h 157 0 by split <;> omega, g3 i (by omega) hi, Int.add_zero, bc_wl (by omega) (by omega)]
          exact ih
    · refine rv_X_rows_21 (d := d + 3) ?_
      rw [f1 0 (by decide), e12, f1 _ (by omega), n0]
      refine ⟨by omega, fun q => absurd q (by omega), fun _ => ⟨by omega, ?_⟩⟩
      have t := bs_rsum_r (A := h 157) w0 (k := n - 1) (by omega) (by omega) i0
      have u := bs_rwN_b (A := h 157) w0.1 w0.2 (k := n - 1) (by omega) (by omega) i
      rw [show bs_rsum (h 157) (n - 1) (i + 1) = bs_rsum (h 157) (n - 1) i + bs_rwN (h 157) (n - 1) i from bc_its _ _ i0] at ih
      rw [f2 i i0 hi, bc_wi (by omega) (by omega), bc_wi (by omega) (by omega)]
      exact ih
  · refine hQ _ _ (by first | rfl | exact bc_urow (by decide)) (by first | rfl | exact bc_urow (by decide)) ?_
    exact rv_M_rows (d := d + 3) ⟨fun q => absurd q zn, fun _ => hq _ _⟩
theorem bs_o_rowsTo {d : Nat} {n b : Int} {S : Int → Int} {L c s p q : Int} {h : bc_H} (hR : bs_R S L c s p q h) {P : Int → Int → bc_H → Prop} {Q1 : Int → bc_H → Prop} (hQ : ∀ y h1, h1 (-2) = h (-2) → h1 (-3) = h (-3) → bf_M_rowsTo (d + 4) n b h1 (bc_J fun y2 h2 => P y y2 h2) → Q1 y h1) (hK : ∀ y h2, bs_R S L c s p q h2 → P y y h2) : bf_X_rowsTo (d + 4) n b h (bc_J Q1) := by
  obtain ⟨⟨hcs, hpq⟩, ⟨e12, e13, e14, e15⟩, hS, est, efr, htr, htp, hfa, hlv, hlo, hrs, hmk, ⟨hC, hW, hck, hN, hP⟩⟩ := id hR
  obtain ⟨⟨n4, n5, n6, n2, n0, n1, n3⟩, hw, hd, hg, hf, hm⟩ := id hC
  obtain ⟨⟨w0, w1, w2, w3, w4, w5, w7⟩, hww, hwy, hwv, hwf, hwg⟩ := id hW
  have hq : ∀ y v, P y y (bc_upd (bc_upd h 0 0 v) 156 2 v) := fun y v => hK _ _ (bs_R_st hR v)
  have e157 : ∀ v, bc_upd h 0 0 v 157 = h 157 := fun v => bc_urow (by decide)
  refine rv_X_rowsTo (d := d + 2) ⟨fun zn => ?_, fun zn => ?_⟩
  · rw [e12, n0, bc_wi (x := h 157 0 - 1) (by omega) (by omega)]
    refine ⟨by omega, fun zb => ⟨by omega, ?_⟩, fun zb => ?_⟩
    · refine bc_c_countRows (by omega) n0 hg w0 zn (fun h1 f1 f2 => ⟨by omega, ?_⟩)
      rw [f2 b zb.1 (by omega)]
      refine hQ _ _ (by rw [bc_urow (by decide), f1 _ (by decide)]) (by rw [bc_urow (by decide), f1 _ (by decide)]) ?_
      have e1571 : bc_upd h1 0 0 0 157 = h 157 := by rw [bc_urow (by decide), f1 _ (by decide)]
      refine rv_M_rowsTo (d := d + 3) ?_
      rw [e1571]
      refine ⟨fun _ => ⟨fun _ => ?_, fun q => absurd (by omega) q⟩, fun q => absurd zn q⟩
      refine bc_m_laysRows (d := d + 2) e1571 w0 zn (fun h2 g1 g2 g3 => ⟨by omega, ?_⟩)
      rw [g2 b zb.1 (by omega)]
      exact hK _ _ (bs_rfin hR f1 g1)
    · refine hQ _ _ (by first | rfl | exact bc_urow (by decide)) (by first | rfl | exact bc_urow (by decide)) ?_
      refine rv_M_rowsTo (d := d + 3) ?_
      rw [e157]
      exact ⟨fun _ => ⟨fun q => absurd q (by omega), fun _ => hq _ _⟩, fun q => absurd zn q⟩
  · refine hQ _ _ (by first | rfl | exact bc_urow (by decide)) (by first | rfl | exact bc_urow (by decide)) ?_
    exact rv_M_rowsTo (d := d + 3) ⟨fun q => absurd q zn, fun _ => hq _ _⟩
