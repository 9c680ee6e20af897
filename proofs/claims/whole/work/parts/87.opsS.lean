/-! ===== hands, the calls ===== -/
theorem bs_sbI {p s : Int} (p0 : 0 ≤ p) (p1 : p < 256) (s0 : 0 ≤ s) (s1 : s < 256) : bc_and p (bc_xor s (-1)) = 0 ↔ bs_sb p s := by
  have t := bs_subF p.toNat (by omega) s.toNat (by omega)
  rw [show ((p.toNat : Nat) : Int) = p by omega, show ((s.toNat : Nat) : Int) = s by omega] at t
  exact t
theorem bs_hd1 {p s : Int} (p0 : 0 ≤ p) (p1 : p < 256) (s0 : 0 ≤ s) (s1 : s < 256) (h : bs_sb p s) : bc_xor s p = s - p ∧ bc_and s (bc_xor p (-1)) = s - p ∧ p ≤ s := by
  have t := bs_hd1F s.toNat (by omega) p.toNat (by omega) h
  rw [show ((p.toNat : Nat) : Int) = p by omega, show ((s.toNat : Nat) : Int) = s by omega] at t
  exact ⟨t.1, t.2.1, by omega⟩
theorem bs_hd2 {p s : Int} (p0 : 1 ≤ p) (p1 : p < 256) (s0 : 0 ≤ s) (s1 : s < 256) (h : bs_sb p s) : (0 ≤ bc_and (bc_w32 (p - 1)) s ∧ bc_and (bc_w32 (p - 1)) s < p ∧ bs_sb (bc_and (bc_w32 (p - 1)) s) s) ∧ ∀ q, bc_and (bc_w32 (p - 1)) s < q → q < p → ¬ bs_sb q s := by
  have t := bs_hd2F s.toNat (by omega) p.toNat (by omega) h (by omega)
  rw [show ((p.toNat : Nat) : Int) = p by omega, show ((s.toNat : Nat) : Int) = s by omega] at t
  have le : (p.toNat - 1) &&& s.toNat ≤ p.toNat - 1 := Nat.and_le_left
  refine ⟨⟨by omega, by omega, ?_⟩, fun q q0 q1 hq => ?_⟩
  · unfold bs_sb
    rw [t, show ((((p.toNat - 1) &&& s.toNat : Nat) : Int)).toNat = (p.toNat - 1) &&& s.toNat by omega, Nat.and_assoc, Nat.and_self]
  · rw [t] at q0
    have u := bs_gap (s := s.toNat) (p := p.toNat) (j := q.toNat - 1 - ((p.toNat - 1) &&& s.toNat)) (by omega) (by omega) h (by omega)
    rw [show ((p.toNat - 1) &&& s.toNat) + 1 + (q.toNat - 1 - ((p.toNat - 1) &&& s.toNat)) = q.toNat by omega] at u
    exact u hq
theorem bs_lh1 {A : Int → Int} {n f : Int} (w3 : A 3 ≤ 8) (f0 : 0 ≤ f) (f1 : f < A 3) : bs_lh A n (bc_shl 1 f) := by
  have r := bs_shl_r f0 (show f ≤ 8 by omega)
  have t := (bs_lh_top (A := A) (n := n) (f := f) (r := 0) w3 f0 f1 (Int.le_refl 0) (by omega)).2 ⟨bs_lh0 w3, fun i i0 i1 bi => by
    have := bs_b0 i.toNat (by omega)
    rw [show ((i.toNat : Nat) : Int) = i by omega] at this
    unfold bs_b at bi
    omega⟩
  rw [Int.add_zero] at t; exact t
theorem bs_hd3 {A : Int → Int} {n s : Int} (w3 : 0 ≤ A 3 ∧ A 3 ≤ 8) (s0 : 1 ≤ s) (s1 : s < bc_shl 1 (A 3)) : ∃ p, 1 ≤ p ∧ p ≤ s ∧ bs_sb p s ∧ bs_lh A n p ∧ bs_pn (s - p) + 1 = bs_pn s := by
  have r := bs_shl_r w3.1 w3.2
  have t := bs_hd3F s.toNat (by omega) (by omega)
  have e : ∃ f : Nat, f < 8 ∧ (2 ^ f &&& s.toNat = 2 ^ f ∧ bs_pn ((s.toNat : Int) - ((2 ^ f : Nat) : Int)) + 1 = bs_pn (s.toNat : Int)) := by
    refine Classical.byContradiction (fun z => t (fun f f1 q => z ⟨f, f1, q⟩))
  obtain ⟨f, f1, q1, q2⟩ := e
  rw [show ((s.toNat : Nat) : Int) = s by omega] at q2
  have pf := bs_shl (n := (f : Int)) (by omega) (by omega)
  rw [show ((f : Int)).toNat = f by omega] at pf
  have rf := bs_shl_r (n := (f : Int)) (by omega) (by omega)
  have le : (2 : Nat) ^ f ≤ s.toNat := by rw [← q1]; exact Nat.and_le_right
  have fA : (f : Int) < A 3 := by
    by_cases z : (f : Int) < A 3
    · exact z
    · rw [bs_shl w3.1 w3.2] at s1
      have : (2 : Nat) ^ (A 3).toNat ≤ 2 ^ f := Nat.pow_le_pow_right (by decide) (by omega)
      omega
  refine ⟨bc_shl 1 (f : Int), rf.1, by omega, ?_, bs_lh1 w3.2 (by omega) fA, by rw [pf]; exact q2⟩
  unfold bs_sb
  rw [pf, show (((2 ^ f : Nat) : Int)).toNat = 2 ^ f by omega]
  exact q1
def bs_hl (A : Int → Int) (n : Int) (t : Int → Int) (s v : Int) (w : Int → Prop) : Prop := ∀ p, 1 ≤ p → p ≤ s → w p → bs_sb p s → bs_lh A n p → v ≤ 1 + t (s - p)
def bs_ha (A : Int → Int) (n : Int) (t : Int → Int) (s v : Int) : Prop := ∃ p, 1 ≤ p ∧ p ≤ s ∧ bs_sb p s ∧ bs_lh A n p ∧ v = 1 + t (s - p)
def bs_hc (A : Int → Int) (n : Int) (t : Int → Int) (s v : Int) : Prop := bs_hl A n t s v (fun _ => True) ∧ bs_ha A n t s v
theorem bs_hc_u {A : Int → Int} {n : Int} {t : Int → Int} {s v w : Int} (h1 : bs_hc A n t s v) (h2 : bs_hc A n t s w) : v = w := by
  obtain ⟨a1, p, p0, p1, p2, p3, p4⟩ := h1
  obtain ⟨a2, q, q0, q1, q2, q3, q4⟩ := h2
  have := a1 q q0 q1 trivial q2 q3
  have := a2 p p0 p1 trivial p2 p3
  omega
theorem bs_hc_c {A : Int → Int} {n : Int} {t t' : Int → Int} {s v : Int} (e : ∀ x, 0 ≤ x → x < s → t x = t' x) (h : bs_hc A n t s v) : bs_hc A n t' s v := by
  obtain ⟨a1, p, p0, p1, p2, p3, p4⟩ := h
  refine ⟨fun q q0 q1 _ q2 q3 => ?_, p, p0, p1, p2, p3, ?_⟩
  · rw [← e (s - q) (by omega) (by omega)]; exact a1 q q0 q1 trivial q2 q3
  · rw [← e (s - p) (by omega) (by omega)]; exact p4
def bs_hT (A : Int → Int) (n : Int) (t : Int → Int) (k : Int) : Prop := t 0 = 0 ∧ ∀ s, 1 ≤ s → s < k → bs_hc A n t s (t s) ∧ 0 ≤ t s ∧ t s ≤ bs_pn s
theorem bs_hT_s {A : Int → Int} {n : Int} {t t' : Int → Int} {k : Int} (k0 : 1 ≤ k) (h : bs_hT A n t k) (e : ∀ x, 0 ≤ x → x < k → t' x = t x) (c : bs_hc A n t k (t' k)) (r : 0 ≤ t' k ∧ t' k ≤ bs_pn k) : bs_hT A n t' (k + 1) := by
  refine ⟨by rw [e 0 (by omega) (by omega)]; exact h.1, fun s s0 s1 => ?_⟩
  by_cases z : s = k
  · subst z
    exact ⟨bs_hc_c (fun x x0 x1 => (e x x0 x1).symm) c, r⟩
  · have q := h.2 s s0 (by omega)
    rw [e s (by omega) (by omega)]
    exact ⟨bs_hc_c (fun x x0 x1 => (e x x0 (by omega)).symm) q.1, q.2⟩
theorem bs_hT_r {A : Int → Int} {n : Int} {t : Int → Int} {k : Int} (h : bs_hT A n t k) (k8 : k ≤ 256) {s : Int} (s0 : 0 ≤ s) (s1 : s < k) : 0 ≤ t s ∧ t s ≤ bs_pn s ∧ bs_pn s ≤ 8 := by
  have u := (bs_pnI (s := s) s0 (by omega)).1
  by_cases z : s = 0
  · subst z; rw [h.1]; omega
  · have q := (h.2 s (by omega) s1).2
    omega
theorem bc_c_fewestSets {d : Nat} {c n : Int} {h : bc_H} {A : Int → Int} {K : Int → bc_H → Prop} (hc : 24 ≤ c ∧ c ≤ 130) (n3 : h (c + 8) 0 = A 3) (hf : bs_Cf h c A) (w3 : 0 ≤ A 3 ∧ A 3 ≤ 8) (hwf : bs_WF A) (hK : ∀ h', (∀ x, x ≠ 23 → h' x = h x) → ∀ t : Int → Int, bs_hT A n t (bc_shl 1 (A 3)) → K (t (bc_shl 1 (A 3) - 1)) h') : bf_Figures_fewestSets (d + 3) (c + 8) n h (bc_I K) := by
  have sr := bs_shl_r w3.1 w3.2
  refine rv_Figures_fewestSets (d := d + 2) (bc_c_likeSets (d := d) hc n3 hf w3 hwf (fun h1 f1 f2 => ?_))
  rw [f1 _ (by omega), n3]
  refine ⟨by omega, ?_⟩
  refine bc_lupF (P := fun k => ∀ g : bc_H, (∀ x, x ≠ 23 → g x = h x) → (∀ s, 0 ≤ s → s < bc_shl 1 (A 3) → g 23 s = h1 23 s) → bs_hT A n (fun s => g 23 (bc_shl 1 (A 3) + s)) k → bl_Figures_fewestSets_15 (d + 3) (bc_shl 1 (A 3)) k g (bc_I K)) (a := 1) (n := bc_shl 1 (A 3)) (fun g g1 g2 g3 => ?_) (fun k k0 k1 ih g g1 g2 g3 => ?_) (Int.le_refl 1) sr.1 _ (fun x x1 => by rw [bc_urow x1]; exact f1 x x1) (fun s s0 s1 => bc_uj (by omega)) ⟨by show bc_upd h1 23 (bc_shl 1 (A 3)) 0 23 (bc_shl 1 (A 3) + 0) = 0; rw [Int.add_zero, bc_uu], fun s s0 s1 => absurd s1 (by omega)⟩
  · refine rv_Figures_fewestSets_15 (d := d + 2) ⟨fun _ => ?_, fun q => absurd q (by omega)⟩
    rw [bc_wi (x := bc_shl 1 (A 3) + bc_shl 1 (A 3)) (by omega) (by omega), bc_wi (by omega) (by omega)]
    refine ⟨by omega, ?_⟩
    have := hK g g1 _ g3
    rw [show bc_shl 1 (A 3) + bc_shl 1 (A 3) - 1 = bc_shl 1 (A 3) + (bc_shl 1 (A 3) - 1) by omega]
    exact this
  · refine rv_Figures_fewestSets_15 (d := d + 2) ⟨fun q => absurd q (by omega), fun _ => ?_⟩
    obtain ⟨sp, sp0, sp1, sp2, sp3, sp4⟩ := bs_hd3 (A := A) (n := n) w3 k0 k1
    have tr : ∀ x, 0 ≤ x → x < k → 0 ≤ g 23 (bc_shl 1 (A 3) + x) ∧ g 23 (bc_shl 1 (A 3) + x) ≤ bs_pn x ∧ bs_pn x ≤ 8 := fun x x0 x1 => bs_hT_r g3 (by omega) x0 x1
    have pk := (bs_pnI (s := k) (by omega) (by omega)).1
    refine bc_lupF (P := fun p => ∀ v : Int, 0 ≤ v → v ≤ 8 → bs_hl A n (fun s => g 23 (bc_shl 1 (A 3) + s)) k v (fun q => q < p) → (v = 8 ∨ bs_ha A n (fun s => g 23 (bc_shl 1 (A 3) + s)) k v) → bl_Figures_fewestSets_22 (d + 3) (bc_shl 1 (A 3)) k v p g (bc_I K)) (a := 1) (n := k + 1) (fun v v0 v8 va vb => ?_) (fun p p0 p1 ihp v v0 v8 va vb => ?_) (Int.le_refl 1) (by omega) 8 (by omega) (by omega) (fun p p0 _ p1 _ _ => absurd p1 (by omega)) (Or.inl rfl)
    · refine rv_Figures_fewestSets_22 (d := d + 2) ⟨fun _ => ?_, fun q => absurd q (by omega)⟩
      rw [bc_wi (x := bc_shl 1 (A 3) + k) (by omega) (by omega), bc_wi (x := k + 1) (by omega) (by omega)]
      refine ⟨by omega, ?_⟩
      have v1 := va sp sp0 sp1 (by omega) sp2 sp3
      have v2 := tr (k - sp) (by omega) (by omega)
      have v3 : v ≤ bs_pn k := by
        have : v ≤ 1 + g 23 (bc_shl 1 (A 3) + (k - sp)) := v1
        omega
      refine ih _ (fun x x1 => by rw [bc_urow x1]; exact g1 x x1) (fun s s0 s1 => by rw [bc_uj (by omega)]; exact g2 s s0 s1) (bs_hT_s k0 g3 (fun x x0 x1 => bc_uj (by omega)) ?_ (by show 0 ≤ bc_upd g 23 (bc_shl 1 (A 3) + k) v 23 (bc_shl 1 (A 3) + k) ∧ bc_upd g 23 (bc_shl 1 (A 3) + k) v 23 (bc_shl 1 (A 3) + k) ≤ bs_pn k; rw [bc_uu]; omega))
      show bs_hc A n _ k (bc_upd g 23 (bc_shl 1 (A 3) + k) v 23 (bc_shl 1 (A 3) + k))
      rw [bc_uu]
      refine ⟨fun p p0 p1 _ p2 p3 => va p p0 p1 (by omega) p2 p3, ?_⟩
      rcases vb with e | q
      · refine ⟨sp, sp0, sp1, sp2, sp3, ?_⟩
        show v = 1 + g 23 (bc_shl 1 (A 3) + (k - sp))
        have : v ≤ 1 + g 23 (bc_shl 1 (A 3) + (k - sp)) := v1
        omega
      · exact q
    · have skip : (bs_sb p k → bs_lh A n p → False) → bl_Figures_fewestSets_22 (d + 3) (bc_shl 1 (A 3)) k v (bc_w32 (p + 1)) g (bc_I K) := fun no => by
        rw [bc_wi (by omega) (by omega)]
        refine ihp v v0 v8 (fun q q0 q1 q2 q3 q4 => ?_) vb
        by_cases e : q = p
        · subst e; exact (no q3 q4).elim
        · exact va q q0 q1 (by omega) q3 q4
      refine rv_Figures_fewestSets_22 (d := d + 2) ⟨fun q => absurd q (by omega), fun _ => ⟨fun z => skip (fun q _ => z ((bs_sbI (by omega) (by omega) (by omega) (by omega)).2 q)), fun z => ?_⟩⟩
      have sb := (bs_sbI (p := p) (s := k) (by omega) (by omega) (by omega) (by omega)).1 z
      have hd := bs_hd1 (p := p) (s := k) (by omega) (by omega) (by omega) (by omega) sb
      refine ⟨by omega, fun z => skip (fun _ l => ?_), fun z => ?_⟩
      · rw [g2 p (by omega) (by omega)] at z
        rcases f2 p (by omega) (by omega) with q | q
        · exact z q.1
        · exact q.2 l
      · rw [g2 p (by omega) (by omega)] at z
        have l : bs_lh A n p := by
          rcases f2 p (by omega) (by omega) with q | q
          · exact q.2
          · omega
        have tr1 := tr (k - p) (by omega) (by omega)
        rw [hd.1, bc_wi (x := bc_shl 1 (A 3) + (k - p)) (by omega) (by omega), bc_wi (x := 1 + g 23 (bc_shl 1 (A 3) + (k - p))) (by omega) (by omega), bc_wi (x := p + 1) (by omega) (by omega)]
        refine ⟨by omega, ?_⟩
        by_cases lt : 1 + g 23 (bc_shl 1 (A 3) + (k - p)) < v
        · rw [if_pos lt]
          refine ihp _ (by omega) (by omega) (fun q q0 q1 q2 q3 q4 => ?_) (Or.inr ⟨p, p0, by omega, sb, l, rfl⟩)
          by_cases e : q = p
          · subst e; exact Int.le_refl _
          · have := va q q0 q1 (by omega) q3 q4
            omega
        · rw [if_neg lt]
          refine ihp v v0 v8 (fun q q0 q1 q2 q3 q4 => ?_) vb
          by_cases e : q = p
          · subst e; show v ≤ 1 + g 23 (bc_shl 1 (A 3) + (k - q)); omega
          · exact va q q0 q1 (by omega) q3 q4
theorem bc_m_hands36 {d : Nat} {n k : Int} {h : bc_H} {t : Int → Int} {K : Int → bc_H → Prop} (w3 : 0 ≤ h 157 3 ∧ h 157 3 ≤ 8) (hwf : bs_WF (h 157)) (k0 : 1 ≤ k) (k1 : k < bc_shl 1 (h 157 3)) (hT : bs_hT (h 157) n t (bc_shl 1 (h 157 3))) (x2 : Int) (hK : ∀ g : bc_H, (∀ x, x ≠ 170 → g x = h x) → (∀ s, 0 ≤ s → s ≤ k → g 170 s = t s) → bl_M_hands_26 (d + 4) n x2 (bc_w32 (k + 1)) g (bc_I K)) : ∀ (m : Nat) (p : Int), p ≤ m → 0 ≤ p → p ≤ k → bs_sb p k → ∀ g : bc_H, (∀ x, x ≠ 170 → g x = h x) → (∀ s, 0 ≤ s → s < k → g 170 s = t s) → bs_hl (h 157) n t k (g 170 k) (fun q => p < q) → (g 170 k = 1000000 ∨ bs_ha (h 157) n t k (g 170 k)) → bl_M_hands_36 (d + 4) n x2 k p g (bc_I K) := by
  have sr := bs_shl_r w3.1 w3.2
  have ck := (hT.2 k k0 k1).1
  have fin : ∀ g : bc_H, (∀ x, x ≠ 170 → g x = h x) → (∀ s, 0 ≤ s → s < k → g 170 s = t s) → bs_hl (h 157) n t k (g 170 k) (fun q => 0 < q) → (g 170 k = 1000000 ∨ bs_ha (h 157) n t k (g 170 k)) → bl_M_hands_26 (d + 4) n x2 (bc_w32 (k + 1)) g (bc_I K) := fun g g1 g2 g3 g4 => by
    refine hK g g1 (fun s s0 s1 => ?_)
    by_cases e : s = k
    · subst e
      refine bs_hc_u (A := h 157) (n := n) (t := t) (s := s) ⟨fun q q0 q1 _ q2 q3 => g3 q q0 q1 (by omega) q2 q3, ?_⟩ ck
      rcases g4 with e | q
      · obtain ⟨q, q0, q1, q2, q3, q4⟩ := ck.2
        have a := g3 q q0 q1 (by omega) q2 q3
        have b := bs_hT_r hT (by omega) (s := s - q) (by omega) (by omega)
        omega
      · exact q
    · exact g2 s s0 (by omega)
  intro m
  induction m with
  | zero =>
    intro p pm p0 pk sb g g1 g2 g3 g4
    have e : p = 0 := by omega
    subst e
    exact rv_M_hands_36 (d := d + 3) ⟨fun _ => fin g g1 g2 g3 g4, fun q => absurd q (by omega)⟩
  | succ m ih =>
    intro p pm p0 pk sb g g1 g2 g3 g4
    by_cases z : p ≤ 0
    · have e : p = 0 := by omega
      subst e
      exact rv_M_hands_36 (d := d + 3) ⟨fun _ => fin g g1 g2 g3 g4, fun q => absurd q (by omega)⟩
    · refine rv_M_hands_36 (d := d + 3) ⟨fun q => absurd q z, fun _ => ?_⟩
      have hd := bs_hd1 (p := p) (s := k) (by omega) (by omega) (by omega) (by omega) sb
      obtain ⟨⟨nx0, nx1, nx2⟩, nx3⟩ := bs_hd2 (p := p) (s := k) (by omega) (by omega) (by omega) (by omega) sb
      have tr := bs_hT_r hT (by omega) (s := k - p) (by omega) (by omega)
      rw [hd.2.1, g2 (k - p) (by omega) (by omega), bc_wi (x := t (k - p) + 1) (by omega) (by omega)]
      have keep : (bs_lh (h 157) n p → g 170 k ≤ 1 + t (k - p)) → bl_M_hands_36 (d + 4) n x2 k (bc_and (bc_w32 (p - 1)) k) g (bc_I K) := fun le => by
        refine ih _ (by omega) nx0 (by omega) nx2 g g1 g2 (fun q q0 q1 q2 q3 q4 => ?_) g4
        by_cases e : q = p
        · subst e; exact le q4
        · by_cases lt : q < p
          · exact absurd q3 (nx3 q q2 lt)
          · exact g3 q q0 q1 (by omega) q3 q4
      refine ⟨by omega, by omega, fun le => keep (fun _ => by omega), fun lt => ?_⟩
      have e157 : g 157 = h 157 := g1 157 (by decide)
      refine bc_m_isHand (d := d) (by rw [e157]; exact w3) (by rw [e157]; exact hwf) (by omega) (by omega) (fun l => ⟨by omega, by omega, ?_⟩) (fun l => keep (fun q => absurd q (by rw [e157] at l; exact l)))
      rw [e157] at l
      rw [g2 (k - p) (by omega) (by omega), bc_wi (x := t (k - p) + 1) (by omega) (by omega)]
      refine ih _ (by omega) nx0 (by omega) nx2 _ (fun x x1 => by rw [bc_urow x1]; exact g1 x x1) (fun s s0 s1 => by rw [bc_uj (by omega)]; exact g2 s s0 s1) (fun q q0 q1 q2 q3 q4 => ?_) ?_
      · rw [bc_uu]
        by_cases e : q = p
        · subst e; omega
        · by_cases ltq : q < p
          · exact absurd q3 (nx3 q q2 ltq)
          · have := g3 q q0 q1 (by omega) q3 q4
            omega
      · rw [bc_uu]
        exact Or.inr ⟨p, by omega, pk, sb, l, by omega⟩
theorem bs_o_hands {d : Nat} {n : Int} {S : Int → Int} {L c s p q : Int} {h : bc_H} (hR : bs_R S L c s p q h) {P : Int → Int → bc_H → Prop} {Q1 : Int → bc_H → Prop} (hQ : ∀ y h1, h1 (-2) = h (-2) → h1 (-3) = h (-3) → bf_M_hands (d + 6) n h1 (bc_I fun y2 h2 => P y y2 h2) → Q1 y h1) (hK : ∀ y h2, bs_R S L c s p q h2 → P y y h2) : bf_X_hands (d + 6) n h (bc_I Q1) := by
  obtain ⟨⟨hcs, hpq⟩, ⟨e12, e13, e14, e15⟩, hS, est, efr, htr, htp, hfa, hlv, hlo, hrs, hmk, ⟨hC, hW, hck, hN, hP⟩⟩ := id hR
  obtain ⟨⟨n4, n5, n6, n2, n0, n1, n3⟩, hw, hd, hg, hf, hm⟩ := id hC
  obtain ⟨⟨w0, w1, w2, w3, w4, w5, w7⟩, hww, hwy, hwv, hwf, hwg⟩ := id hW
  have hq : ∀ y v, P y y (bc_upd (bc_upd h 0 0 v) 156 2 v) := fun y v => hK _ _ (bs_R_st hR v)
  have sr := bs_shl_r w3.1 w3.2
  refine rv_X_hands (d := d + 5) ⟨fun zn => ?_, fun zn => ?_⟩
  · rw [e12]
    refine ⟨by omega, ?_⟩
    refine bc_c_fewestSets (d := d + 2) (A := h 157) (by omega) n3 hf w3 hwf (fun h1 f1 t hT => ?_)
    refine hQ _ _ (by rw [bc_urow (by decide), f1 _ (by decide)]) (by rw [bc_urow (by decide), f1 _ (by decide)]) ?_
    have e157 : bc_upd h1 0 0 0 157 = h 157 := by rw [bc_urow (by decide), f1 _ (by decide)]
    refine rv_M_hands (d := d + 5) ⟨fun _ => ?_, fun q => absurd zn q⟩
    rw [e157, bc_wi (x := bc_shl 1 (h 157 3) - 1) (by omega) (by omega)]
    refine bc_lupF (P := fun k => ∀ g : bc_H, (∀ x, x ≠ 170 → g x = bc_upd h1 0 0 0 x) → (∀ s, 0 ≤ s → s < k → g 170 s = t s) → bl_M_hands_26 (d + 6) n (bc_shl 1 (h 157 3) - 1) k g (bc_I fun y2 h2 => P (t (bc_shl 1 (h 157 3) - 1)) y2 h2)) (a := 1) (n := bc_shl 1 (h 157 3)) (fun g g1 g2 => ?_) (fun k k0 k1 ih g g1 g2 => ?_) (Int.le_refl 1) sr.1 _ (fun x x1 => bc_urow x1) (fun s s0 s1 => by rw [show s = 0 by omega, bc_uu, hT.1])
    · refine rv_M_hands_26 (d := d + 5) ⟨fun _ => ⟨by omega, ?_⟩, fun q => absurd q (by omega)⟩
      rw [g2 _ (by omega) (by omega)]
      exact hK _ _ (bs_hfin hR f1 g1)
    · have g157 : g 157 = h 157 := by rw [g1 157 (by decide), e157]
      have k157 : bc_upd g 170 k 1000000 157 = h 157 := by rw [bc_urow (by decide), g157]
      refine rv_M_hands_26 (d := d + 5) ⟨fun q => absurd q (by omega), fun _ => ⟨by omega, ?_⟩⟩
      refine bc_m_hands36 (d := d + 2) (t := t) (by rw [k157]; exact w3) (by rw [k157]; exact hwf) k0 (by rw [k157]; exact k1) (by rw [k157]; exact hT) _ (fun g' g1' g2' => ?_) k.toNat k (by omega) (by omega) (Int.le_refl _) (bs_sb_rf k) _ (fun _ _ => rfl) (fun s s0 s1 => by rw [bc_uj (by omega)]; exact g2 s s0 s1) (fun q q0 q1 q2 _ _ => absurd q2 (by omega)) (Or.inl (by rw [bc_uu]))
      rw [bc_wi (by omega) (by omega)]
      exact ih g' (fun x x1 => by rw [g1' x x1, bc_urow x1]; exact g1 x x1) (fun s s0 s1 => g2' s s0 (by omega))
  · refine hQ _ _ (by first | rfl | exact bc_urow (by decide)) (by first | rfl | exact bc_urow (by decide)) ?_
    exact rv_M_hands (d := d + 5) ⟨fun q => absurd q zn, fun _ => hq _ _⟩
