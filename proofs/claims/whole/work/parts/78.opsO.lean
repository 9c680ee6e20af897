/-! ===== hand ===== -/
theorem bs_shl_le {f k : Int} (f0 : 0 ≤ f) (fk : f < k) (k8 : k ≤ 8) : 2 * bc_shl 1 f ≤ bc_shl 1 k := by
  rw [bs_shl f0 (by omega), bs_shl (by omega) k8]
  have t : 2 ^ (f.toNat + 1) ≤ 2 ^ k.toNat := Nat.pow_le_pow_right (by decide) (by omega)
  rw [Nat.pow_succ] at t
  omega
theorem bc_c_likeSets {d : Nat} {c n : Int} {h : bc_H} {A : Int → Int} {K : bc_H → Prop} (hc : 24 ≤ c ∧ c ≤ 130) (n3 : h (c + 8) 0 = A 3) (hf : bs_Cf h c A) (w3 : 0 ≤ A 3 ∧ A 3 ≤ 8) (hwf : bs_WF A) (hK : ∀ h', (∀ x, x ≠ 23 → h' x = h x) → (∀ s, 0 ≤ s → s < bc_shl 1 (A 3) → (h' 23 s = 1 ∧ bs_lh A n s) ∨ (h' 23 s = 0 ∧ ¬ bs_lh A n s)) → K h') : bf_Figures_findLikeSets (d + 2) (c + 8) n h (bc_U K) := by
  refine rv_Figures_findLikeSets (d := d + 1) ?_
  refine bc_lup (P := fun f => ∀ g, (∀ x, x ≠ 23 → g x = h x) → (∀ s, 0 ≤ s → s < bc_shl 1 f → (g 23 s = 1 ∧ bs_lh A n s) ∨ (g 23 s = 0 ∧ ¬ bs_lh A n s)) → bl_Figures_findLikeSets_6 (d + 2) (c + 8) n f g (bc_U K)) (n := A 3) (fun g a1 a2 => ?_) (fun f f0 f1 ih g a1 a2 => ?_) (Int.le_refl 0) w3.1 _ (fun x x1 => bc_urow x1) (fun s s0 s1 => ?_)
  · exact rv_Figures_findLikeSets_6 (d := d + 1) ⟨fun _ => hK g a1 a2, fun q => absurd q (by rw [a1 _ (by omega)]; omega)⟩
  · refine rv_Figures_findLikeSets_6 (d := d + 1) ⟨fun q => absurd q (by rw [a1 _ (by omega)]; omega), fun _ => ?_⟩
    have r1 := bs_shl_r f0 (show f ≤ 8 by omega)
    have r2 := bs_shl_s f0 (show f < 8 by omega)
    have r3 := bs_shl_r (n := f + 1) (by omega) (by omega)
    refine bc_lup (P := fun r => ∀ g, (∀ x, x ≠ 23 → g x = h x) → (∀ s, 0 ≤ s → s < bc_shl 1 f → (g 23 s = 1 ∧ bs_lh A n s) ∨ (g 23 s = 0 ∧ ¬ bs_lh A n s)) → (∀ s, 0 ≤ s → s < r → (g 23 (bc_shl 1 f + s) = 1 ∧ bs_lh A n (bc_shl 1 f + s)) ∨ (g 23 (bc_shl 1 f + s) = 0 ∧ ¬ bs_lh A n (bc_shl 1 f + s))) → bl_Figures_findLikeSets_12 (d + 2) (c + 8) n f r g (bc_U K)) (n := bc_shl 1 f) (fun g b1 b2 b3 => ?_) (fun r r0 r4 ihr g b1 b2 b3 => ?_) (Int.le_refl 0) (by omega) g a1 a2 (fun s s0 s1 => absurd s1 (by omega))
    · refine rv_Figures_findLikeSets_12 (d := d + 1) ⟨fun _ => ?_, fun q => absurd q (by omega)⟩
      rw [bc_wi (by omega) (by omega)]
      refine ih g b1 (fun s s0 s1 => ?_)
      by_cases z : s < bc_shl 1 f
      · exact b2 s s0 z
      · have t := b3 (s - bc_shl 1 f) (by omega) (by omega)
        rw [show bc_shl 1 f + (s - bc_shl 1 f) = s by omega] at t
        exact t
    · have tp := (bs_top (r := r) f0 (by omega) r0 r4).1
      have nx : ∀ v, ((v = 1 ∧ bs_lh A n (bc_shl 1 f + r)) ∨ (v = 0 ∧ ¬ bs_lh A n (bc_shl 1 f + r))) → bl_Figures_findLikeSets_12 (d + 2) (c + 8) n f (bc_w32 (r + 1)) (bc_upd g 23 (bc_or (bc_shl 1 f) r) v) (bc_U K) := fun v hv => by
        rw [tp, bc_wi (by omega) (by omega)]
        refine ihr _ (fun x x1 => by rw [bc_urow x1]; exact b1 x x1) (fun s s0 s1 => by rw [bc_uj (by omega)]; exact b2 s s0 s1) (fun s s0 s1 => ?_)
        by_cases e : s = r
        · subst e; rw [bc_uu]; exact hv
        · rw [bc_uj (by omega)]; exact b3 s s0 (by omega)
      have lt := bs_lh_top (A := A) (n := n) (r := r) w3.2 f0 f1 r0 r4
      have rng : 0 ≤ bc_or (bc_shl 1 f) r ∧ bc_or (bc_shl 1 f) r < 512 := by rw [tp]; omega
      refine rv_Figures_findLikeSets_12 (d := d + 1) ⟨fun q => absurd q (by omega), fun _ => ⟨by omega, fun z => ⟨rng, nx 0 ?_⟩, fun z => ?_⟩⟩
      · rcases b2 r r0 r4 with q | q
        · exact absurd q.1 z
        · exact Or.inr ⟨rfl, fun l => q.2 (lt.1 l).1⟩
      · have lr : bs_lh A n r := by
          rcases b2 r r0 r4 with q | q
          · exact q.2
          · omega
        refine bc_c_isLikeAll (A := A) (by rw [b1 _ (by omega)]; exact n3) (fun i i0 i1 => ?_) w3 hwf r0 (by omega) f0 f1 (fun q => ⟨rng, nx 1 (Or.inl ⟨rfl, lt.2 ⟨lr, q⟩⟩)⟩) (fun q => ⟨rng, nx 0 (Or.inr ⟨rfl, fun l => q (lt.1 l).2⟩)⟩)
        rw [b1 _ (by omega), b1 _ (by omega), b1 _ (by omega), b1 _ (by omega)]
        exact hf i i0 i1
  · rw [show bc_shl 1 0 = 1 by decide] at s1
    rw [show s = 0 by omega, bc_uu]
    exact Or.inl ⟨rfl, bs_lh0 w3.2⟩
theorem bc_m_isHand {d : Nat} {s n : Int} {h : bc_H} {P N : bc_H → Prop} (w3 : 0 ≤ h 157 3 ∧ h 157 3 ≤ 8) (hwf : bs_WF (h 157)) (s0 : 0 ≤ s) (s1 : s < 256) (hP : bs_lh (h 157) n s → P h) (hN : ¬ bs_lh (h 157) n s → N h) : bf_M_isHand (d + 3) s n h (bc_B P N) := by
  refine rv_M_isHand (d := d + 2) ?_
  refine bc_lup (P := fun k => (∀ i j, 0 ≤ i → i < k → i < j → j < h 157 3 → bs_b s i → bs_b s j → bs_df (h 157) i j ≤ n) → bl_M_isHand_2 (d + 3) s n k h (bc_B P N)) (n := h 157 3) (fun a => ?_) (fun i i0 i1 ih a => ?_) (Int.le_refl 0) w3.1 (fun i j i0 i1 => absurd i1 (by omega))
  · exact rv_M_isHand_2 (d := d + 2) ⟨fun _ => hP (fun i j i0 i1 j1 => a i j i0 (by omega) i1 j1), fun q => absurd q (by omega)⟩
  · refine rv_M_isHand_2 (d := d + 2) ⟨fun q => absurd q (by omega), fun _ => ?_⟩
    rw [bc_wi (x := i + 1) (by omega) (by omega)]
    refine bc_lupF (P := fun k => (∀ j, i < j → j < k → bs_b s i → bs_b s j → bs_df (h 157) i j ≤ n) → bl_M_isHand_12 (d + 3) s n i k h (bc_B P N)) (a := i + 1) (n := h 157 3) (fun b => ?_) (fun j j0 j1 ihj b => ?_) (Int.le_refl _) (by omega) (fun j j0 j1 => absurd j1 (by omega))
    · refine rv_M_isHand_12 (d := d + 2) ⟨fun _ => ?_, fun q => absurd q (by omega)⟩
      rw [bc_wi (x := i + 1) (by omega) (by omega)]
      refine ih (fun i' j i0' i1' ij j1 bi bj => ?_)
      by_cases e : i' = i
      · subst e; exact b j ij j1 bi bj
      · exact a i' j i0' (by omega) ij j1 bi bj
    · have nx : (bs_b s i → bs_b s j → bs_df (h 157) i j ≤ n) → bl_M_isHand_12 (d + 3) s n i (bc_w32 (j + 1)) h (bc_B P N) := fun q => by
        rw [bc_wi (by omega) (by omega)]
        refine ihj (fun j' j0' j1' bi bj => ?_)
        by_cases e : j' = j
        · subst e; exact q bi bj
        · exact b j' j0' (by omega) bi bj
      refine rv_M_isHand_12 (d := d + 2) ⟨fun q => absurd q (by omega), fun _ => ⟨fun bi => ⟨fun bj => ?_, fun z => nx (fun _ q => absurd q z)⟩, fun z => nx (fun q _ => absurd q z)⟩⟩
      exact bc_m_differ (d := d) w3 hwf i0 i1 (by omega) j1 ⟨fun z => nx (fun _ _ => z), fun z => hN (fun l => absurd (l i j i0 (by omega) j1 bi bj) (by omega))⟩
def bs_hb (t : Int → Int) (s : Int) : Int := bc_it (fun s b => if t s = 1 ∧ bs_pn b < bs_pn s then s else b) 0 s
theorem bs_hb_s (t : Int → Int) {s : Int} (h : 0 ≤ s) : bs_hb t (s + 1) = if t s = 1 ∧ bs_pn (bs_hb t s) < bs_pn s then s else bs_hb t s := bc_its _ _ h
theorem bs_hb_1 (t : Int → Int) : bs_hb t 1 = 0 := by
  have e := bs_hb_s t (Int.le_refl 0)
  rw [Int.zero_add] at e
  rw [e]
  show (if t 0 = 1 ∧ bs_pn 0 < bs_pn 0 then (0 : Int) else 0) = 0
  split <;> rfl
theorem bs_hb_r (t : Int → Int) {s : Int} (h : 1 ≤ s) : 0 ≤ bs_hb t s ∧ bs_hb t s < s := by
  have key : ∀ m : Nat, 0 ≤ bs_hb t ((m : Int) + 1) ∧ bs_hb t ((m : Int) + 1) < (m : Int) + 1 := by
    intro m
    induction m with
    | zero => rw [show ((0 : Nat) : Int) + 1 = 1 by omega, bs_hb_1]; omega
    | succ m ih =>
      rw [show ((m + 1 : Nat) : Int) + 1 = (m : Int) + 1 + 1 by omega, bs_hb_s t (by omega)]
      split <;> omega
  have := key (s - 1).toNat
  rw [show (((s - 1).toNat : Nat) : Int) + 1 = s by omega] at this
  exact this
theorem bs_hfin {S : Int → Int} {L c s p q : Int} {h : bc_H} (hR : bs_R S L c s p q h) {h1 h2 : bc_H} {v : Int} (f1 : ∀ x, x ≠ 23 → h1 x = h x) (f2 : ∀ x, x ≠ 170 → h2 x = bc_upd h1 0 0 v x) : bs_R S L c s p q (bc_upd h2 156 2 v) := by
  refine bs_R_F hR (fun x y k => ?_) (by rw [bc_uu, bc_ur (by decide), f2 0 (by decide), bc_uu])
  have kf := bs_kf k
  rw [bc_un2 kf.2, f2 x (fun e => by subst e; exact bs_nk (by omega) k), bc_un2 kf.1, f1 x (fun e => by subst e; exact bs_nk (by omega) k)]
theorem bs_o_hand {d : Nat} {n : Int} {S : Int → Int} {L c s p q : Int} {h : bc_H} (hR : bs_R S L c s p q h) {P : Int → Int → bc_H → Prop} {Q1 : Int → bc_H → Prop} (hQ : ∀ y h1, h1 (-2) = h (-2) → h1 (-3) = h (-3) → bf_M_hand (d + 6) n h1 (bc_I fun y2 h2 => P y y2 h2) → Q1 y h1) (hK : ∀ y h2, bs_R S L c s p q h2 → P y y h2) : bf_X_hand (d + 6) n h (bc_I Q1) := by
  obtain ⟨⟨hcs, hpq⟩, ⟨e12, e13, e14, e15⟩, hS, est, efr, htr, htp, hfa, hlv, hlo, hrs, hmk, ⟨hC, hW, hck, hN, hP⟩⟩ := id hR
  obtain ⟨⟨n4, n5, n6, n2, n0, n1, n3⟩, hw, hd, hg, hf, hm⟩ := id hC
  obtain ⟨⟨w0, w1, w2, w3, w4, w5, w7⟩, hww, hwy, hwv, hwf, hwg⟩ := id hW
  have hq : ∀ y v, P y y (bc_upd (bc_upd h 0 0 v) 156 2 v) := fun y v => hK _ _ (bs_R_st hR v)
  have sr := bs_shl_r w3.1 w3.2
  refine rv_X_hand (d := d + 5) ⟨fun zn => ?_, fun zn => ?_⟩
  · rw [e12]
    refine ⟨by omega, ?_⟩
    refine rv_Figures_greatestSet (d := d + 4) ?_
    refine bc_c_likeSets (d := d + 2) (A := h 157) (by omega) n3 hf w3 hwf (fun h1 f1 f2 => ?_)
    refine bc_lupF (P := fun k => bl_Figures_greatestSet_8 (d + 5) (c + 8) (bs_hb (h1 23) k) k h1 (bc_I fun y4 h2 => Q1 y4 (bc_upd h2 0 0 0))) (a := 1) (n := bc_shl 1 (h 157 3)) ?_ (fun k k0 k1 ih => ?_) (Int.le_refl 1) sr.1 |> fun t => by rw [bs_hb_1] at t; exact t
    · refine rv_Figures_greatestSet_8 (d := d + 4) ⟨fun _ => ?_, fun q => absurd q (by rw [f1 _ (by omega), n3]; omega)⟩
      refine hQ _ _ (by rw [bc_urow (by decide), f1 _ (by decide)]) (by rw [bc_urow (by decide), f1 _ (by decide)]) ?_
      have e157 : bc_upd h1 0 0 0 157 = h 157 := by rw [bc_urow (by decide), f1 _ (by decide)]
      refine rv_M_hand (d := d + 5) ⟨fun _ => ?_, fun q => absurd zn q⟩
      refine bc_lupF (P := fun k => bl_M_hand_14 (d + 6) n (bs_hb (h1 23) k) k (bc_upd h1 0 0 0) (bc_I fun y2 h2 => P (bs_hb (h1 23) (bc_shl 1 (h 157 3))) y2 h2)) (a := 1) (n := bc_shl 1 (h 157 3)) ?_ (fun k k0 k1 ih => ?_) (Int.le_refl 1) sr.1 |> fun t => by rw [bs_hb_1] at t; exact t
      · exact rv_M_hand_14 (d := d + 5) ⟨fun _ => hK _ _ (bs_hfin hR f1 (fun _ _ => rfl)), fun q => absurd q (by rw [e157]; omega)⟩
      · have hr := bs_hb_r (h1 23) k0
        rw [bs_hb_s _ (by omega)] at ih
        refine rv_M_hand_14 (d := d + 5) ⟨fun q => absurd q (by rw [e157]; omega), fun _ => ?_⟩
        refine bc_m_bitsN (by omega) (by omega) (bc_m_bitsN (by omega) (by omega) ⟨fun z => ?_, fun z => ?_⟩)
        · rw [bc_wi (by omega) (by omega)]
          rw [if_neg (by omega)] at ih; exact ih
        · refine bc_m_isHand (d := d + 2) (by rw [e157]; exact w3) (by rw [e157]; exact hwf) (by omega) (by omega) (fun l => ?_) (fun l => ?_)
          · rw [e157] at l
            rcases f2 k (by omega) k1 with q | q
            · rw [if_pos ⟨q.1, z⟩] at ih
              rw [bc_wi (by omega) (by omega)]; exact ih
            · exact absurd l q.2
          · rw [e157] at l
            rcases f2 k (by omega) k1 with q | q
            · exact absurd q.2 l
            · rw [if_neg (by omega)] at ih
              rw [bc_wi (by omega) (by omega)]; exact ih
    · have hr := bs_hb_r (h1 23) k0
      rw [bs_hb_s _ (by omega)] at ih
      refine rv_Figures_greatestSet_8 (d := d + 4) ⟨fun q => absurd q (by rw [f1 _ (by omega), n3]; omega), fun _ => ⟨by omega, fun z => ?_, fun z => ?_⟩⟩
      · rw [if_neg (fun q => z q.1)] at ih
        rw [bc_wi (by omega) (by omega)]; exact ih
      · refine bc_bitCount (bc_bitCount ?_)
        rw [bc_wi (by omega) (by omega)]
        by_cases y : bs_pn (bs_hb (h1 23) k) < bs_pn k
        · rw [if_pos ⟨z, y⟩] at ih
          rw [if_neg (by omega)]; exact ih
        · rw [if_neg (fun q => y q.2)] at ih
          rw [if_pos (by omega)]; exact ih
  · refine hQ _ _ (by first | rfl | exact bc_urow (by decide)) (by first | rfl | exact bc_urow (by decide)) ?_
    exact rv_M_hand (d := d + 5) ⟨fun q => absurd q zn, fun _ => hq _ _⟩
