/-! ===== who looks how: measures, in class and reference ===== -/
theorem bs_gr_congr {f g : Int → Int} (h : ∀ b, 0 ≤ b → b < 5 → f b = g b) : bs_gr f = bs_gr g := bc_it_congr (fun i x h0 h1 => by rw [h i h0 h1])
def bs_fmN (f : Int → Int) (n : Int) : Int := bc_it (fun b x => if f b ≤ f x then x else b) 0 n
def bs_fm (f : Int → Int) : Int := bs_fmN f 5
def bs_ix (f : Int → Int) (n : Int) : Int := bc_it (fun b x => if x = -1 then b else if f b ≤ f x then x else b) (-1) n
theorem bs_ix_s (f : Int → Int) {n : Int} (h : 0 ≤ n) : bs_ix f (n + 1) = (if bs_ix f n = -1 then n else if f n ≤ f (bs_ix f n) then bs_ix f n else n) := bc_its _ _ h
theorem bs_fmN_1 (f : Int → Int) : bs_fmN f 1 = 0 := by
  unfold bs_fmN
  rw [show (1 : Int) = 0 + 1 from rfl, bc_its _ _ (Int.le_refl 0), bc_it0, if_pos (Int.le_refl _)]
theorem bs_fmN_s (f : Int → Int) {n : Int} (h : 0 ≤ n) : bs_fmN f (n + 1) = (if f n ≤ f (bs_fmN f n) then bs_fmN f n else n) := bc_its _ _ h
theorem bs_fmN_p (f : Int → Int) {n : Int} (hn : 1 ≤ n) : (0 ≤ bs_fmN f n ∧ bs_fmN f n < n) ∧ (∀ b, 0 ≤ b → b < n → f b ≤ f (bs_fmN f n)) ∧ ∀ b, 0 ≤ b → b < bs_fmN f n → f b < f (bs_fmN f n) := by
  have key : ∀ m : Nat, (0 ≤ bs_fmN f ((m : Int) + 1) ∧ bs_fmN f ((m : Int) + 1) < (m : Int) + 1) ∧ (∀ b, 0 ≤ b → b < (m : Int) + 1 → f b ≤ f (bs_fmN f ((m : Int) + 1))) ∧ ∀ b, 0 ≤ b → b < bs_fmN f ((m : Int) + 1) → f b < f (bs_fmN f ((m : Int) + 1)) := by
    intro m
    induction m with
    | zero =>
      rw [show ((0 : Nat) : Int) + 1 = 1 from rfl, bs_fmN_1]
      exact ⟨by omega, fun b h0 h1 => by rw [show b = 0 by omega]; exact Int.le_refl _, fun b h0 h1 => absurd h1 (by omega)⟩
    | succ m ih =>
      obtain ⟨h1, h2, h3⟩ := ih
      rw [show ((m + 1 : Nat) : Int) + 1 = ((m : Int) + 1) + 1 by omega, bs_fmN_s f (by omega)]
      split
      · rename_i q
        refine ⟨by omega, fun b p0 p1 => ?_, h3⟩
        by_cases e : b = (m : Int) + 1
        · rw [e]; exact q
        · exact h2 b p0 (by omega)
      · rename_i q
        refine ⟨by omega, fun b p0 p1 => ?_, fun b p0 p1 => ?_⟩
        · by_cases e : b = (m : Int) + 1
          · rw [e]; exact Int.le_refl _
          · have := h2 b p0 (by omega); omega
        · have := h2 b p0 (by omega); omega
  have := key (n - 1).toNat
  rw [show (((n - 1).toNat : Nat) : Int) + 1 = n by omega] at this
  exact this
theorem bs_ix_eq (f : Int → Int) {n : Int} (hn : 1 ≤ n) : bs_ix f n = bs_fmN f n := by
  have key : ∀ m : Nat, bs_ix f ((m : Int) + 1) = bs_fmN f ((m : Int) + 1) := by
    intro m
    induction m with
    | zero =>
      rw [show ((0 : Nat) : Int) + 1 = 0 + 1 from rfl]
      unfold bs_ix bs_fmN
      rw [bc_its _ _ (Int.le_refl 0), bc_its _ _ (Int.le_refl 0), bc_it0, bc_it0, if_pos rfl, if_pos (Int.le_refl _)]
    | succ m ih =>
      have hp := (bs_fmN_p f (n := (m : Int) + 1) (by omega)).1
      rw [show ((m + 1 : Nat) : Int) + 1 = ((m : Int) + 1) + 1 by omega, bs_fmN_s f (by omega)]
      unfold bs_ix at ih ⊢
      rw [bc_its _ _ (by omega), ih, if_neg (by omega)]
  have := key (n - 1).toNat
  rw [show (((n - 1).toNat : Nat) : Int) + 1 = n by omega] at this
  exact this
theorem bs_gr_p (f : Int → Int) : 0 ≤ bs_gr f ∧ (∀ b, 0 ≤ b → b < 5 → f b ≤ bs_gr f) ∧ (bs_gr f = 0 ∨ ∃ b, (0 ≤ b ∧ b < 5) ∧ bs_gr f = f b) := by
  have key := bc_it_ind (f := fun b x => if x < f b then f b else x) (a := 0) (fun n x => 0 ≤ x ∧ (∀ b, 0 ≤ b → b < n → f b ≤ x) ∧ (x = 0 ∨ ∃ b, (0 ≤ b ∧ b < n) ∧ x = f b)) ⟨Int.le_refl _, fun b p0 p1 => absurd p1 (by omega), Or.inl rfl⟩ (fun i x h0 ih => by
    obtain ⟨h1, h2, h3⟩ := ih
    split
    · rename_i q
      refine ⟨by omega, fun b p0 p1 => ?_, Or.inr ⟨i, by omega, rfl⟩⟩
      by_cases e : b = i
      · rw [e]; exact Int.le_refl _
      · have := h2 b p0 (by omega); omega
    · rename_i q
      refine ⟨h1, fun b p0 p1 => ?_, ?_⟩
      · by_cases e : b = i
        · rw [e]; omega
        · exact h2 b p0 (by omega)
      · rcases h3 with h3 | ⟨b, hb, e⟩
        · exact Or.inl h3
        · exact Or.inr ⟨b, by omega, e⟩) (n := 5) (by omega)
  exact key
/-- the greatest of five, by the first that has it of those that there are -/
theorem bs_gr_ix {f : Int → Int} {n : Int} (h0 : 0 ≤ n) (h5 : n ≤ 5) (hf : ∀ b, 0 ≤ b → b < 5 → 0 ≤ f b) (hz : ∀ b, n ≤ b → b < 5 → f b = 0) : (if bs_ix f n = -1 then 0 else f (bs_ix f n)) = bs_gr f := by
  obtain ⟨g1, g2, g3⟩ := bs_gr_p f
  by_cases e : n = 0
  · subst e
    rw [show bs_ix f 0 = -1 from rfl, if_pos rfl]
    rcases g3 with g3 | ⟨b, hb, e⟩
    · omega
    · rw [e, hz b hb.1 hb.2]
  · obtain ⟨p1, p2, p3⟩ := bs_fmN_p f (n := n) (by omega)
    rw [bs_ix_eq f (by omega), if_neg (by omega)]
    have q1 := g2 _ p1.1 (by omega)
    rcases g3 with g3 | ⟨b, hb, e⟩
    · have := hf _ p1.1 (by omega); omega
    · by_cases hbn : b < n
      · have := p2 b hb.1 hbn; omega
      · have := hz b (by omega) hb.2
        have := hf _ p1.1 (by omega); omega
theorem bs_ix_fm {f : Int → Int} {n : Int} (h0 : 0 ≤ n) (h5 : n ≤ 5) (hz : ∀ b, n ≤ b → b < 5 → f b = 0) (hg : 0 < bs_gr f) : bs_ix f n = bs_fm f ∧ 0 ≤ bs_fm f ∧ bs_fm f < n ∧ f (bs_fm f) = bs_gr f := by
  obtain ⟨g1, g2, g3⟩ := bs_gr_p f
  obtain ⟨r1, r2, r3⟩ := bs_fmN_p f (n := 5) (by omega)
  rcases g3 with g3 | ⟨b, hb, e⟩
  · omega
  · have hbn : b < n := by
      by_cases q : b < n
      · exact q
      · have := hz b (by omega) hb.2; omega
    obtain ⟨p1, p2, p3⟩ := bs_fmN_p f (n := n) (by omega)
    have a1 := p2 b hb.1 hbn
    have a2 := r2 b hb.1 hb.2
    have a3 := g2 _ p1.1 (by omega)
    have a4 := g2 _ r1.1 (by omega)
    have hy : bs_fmN f 5 < n := by
      by_cases q : bs_fmN f 5 < n
      · exact q
      · have := hz _ (by omega) r1.2; omega
    rw [bs_ix_eq f (by omega)]
    unfold bs_fm
    have he : bs_fmN f n = bs_fmN f 5 := by
      by_cases q1 : bs_fmN f n < bs_fmN f 5
      · have := r3 _ p1.1 q1; omega
      · by_cases q2 : bs_fmN f 5 < bs_fmN f n
        · have := p3 _ r1.1 q2; omega
        · omega
    exact ⟨he, r1.1, hy, by omega⟩
theorem bc_c_foremost {d n : Nat} {r o : Int} {h : bc_H} {K : Int → bc_H → Prop} (ho : 0 ≤ o) (hn : o + 5 ≤ n) (hb : n ≤ 1000) (hK : K (bs_fm (fun b => h r (o + b))) h) : bf_Cave_foremost d n r o h (bc_I K) := by
  refine rv_Cave_foremost ?_
  have key : bl_Cave_foremost_4 d n r o (bs_fmN (fun b => h r (o + b)) 1) 1 h (bc_I K) := by
    refine bc_lupF (P := fun i => bl_Cave_foremost_4 d n r o (bs_fmN (fun b => h r (o + b)) i) i h (bc_I K)) (a := 1) (n := 5) ?_ (fun i h0 hi ih => ?_) (Int.le_refl 1) (by omega)
    · exact rv_Cave_foremost_4 ⟨fun _ => hK, fun q => absurd q (by omega)⟩
    · refine rv_Cave_foremost_4 ⟨fun q => absurd q (by omega), fun _ => ?_⟩
      have hp := (bs_fmN_p (fun b => h r (o + b)) (n := i) h0).1
      simp (disch := omega) only [bc_wi]
      refine ⟨by omega, by omega, ?_⟩
      rw [bs_fmN_s _ (by omega)] at ih
      exact ih
  rw [bs_fmN_1] at key
  exact key
theorem bs_most_h {h : bc_H} {c : Int} {A : Int → Int} {v : Int} (hC : bs_Cm h c A) (h0 : 0 ≤ v) (hv : v < A 2) : bs_gr (fun b => h (c + 16) (v * 5 + b)) = bs_most A v := bs_gr_congr (fun b p0 p1 => (hC v h0 hv).2.2.2 b p0 p1)
theorem bc_c_greatestOf {d : Nat} {c v : Int} {h : bc_H} {A : Int → Int} {K : Int → bc_H → Prop} (hC : bs_Cm h c A) (h0 : 0 ≤ v) (hv : v < A 2) (h6 : A 2 ≤ 6) (hK : K (bs_most A v) h) : bf_Cave_greatestOf (d + 1) c v h (bc_I K) := by
  refine rv_Cave_greatestOf ?_
  simp (disch := omega) only [bc_wi]
  refine bc_c_greatest (by omega) (by omega) (by omega) ?_
  rw [bs_most_h hC h0 hv]
  exact hK
theorem bc_c_isTurned {d : Nat} {c v : Int} {h : bc_H} {A : Int → Int} {P N : bc_H → Prop} (hC : bs_Cm h c A) (h0 : 0 ≤ v) (hv : v < A 2) (h6 : A 2 ≤ 6) (hP : bs_turned A v → P h) (hN : ¬ bs_turned A v → N h) : bf_Cave_isTurned (d + 1) c v h (bc_B P N) := by
  refine rv_Cave_isTurned ?_
  simp (disch := omega) only [bc_wi]
  refine bc_c_greatest (by omega) (by omega) (by omega) ?_
  rw [bs_most_h hC h0 hv, (hC v h0 hv).1]
  exact ⟨by omega, hP, hN⟩
theorem bs_bset_s {p : Int → Prop} [DecidablePred p] {n : Int} (h : 0 ≤ n) : bs_bset p (n + 1) = (if p n then bc_or (bs_bset p n) (bc_shl 1 n) else bc_or (bs_bset p n) 0) := bc_its _ _ h
theorem bc_c_turnedOnes {d : Nat} {c : Int} {h : bc_H} {A : Int → Int} {K : Int → bc_H → Prop} (hC : bs_Cm h c A) (he : h c 3 = A 2) (hp : 0 ≤ A 2) (h6 : A 2 ≤ 6) (hK : K (bs_bset (bs_turned A) (A 2)) h) : bf_Cave_turnedOnes (d + 2) c h (bc_I K) := by
  refine rv_Cave_turnedOnes ?_
  refine bc_lup (P := fun i => bl_Cave_turnedOnes_4 (d + 2) c (bs_bset (bs_turned A) i) i h (bc_I K)) (n := A 2) ?_ (fun i h0 hi ih => ?_) (Int.le_refl 0) hp
  · exact rv_Cave_turnedOnes_4 (d := d + 1) ⟨fun _ => hK, fun q => absurd q (by omega)⟩
  · refine rv_Cave_turnedOnes_4 (d := d + 1) ⟨fun q => absurd q (by omega), fun _ => ?_⟩
    rw [bs_bset_s h0] at ih
    simp (disch := omega) only [bc_wi]
    refine bc_c_isTurned hC h0 hi h6 (fun q => ?_) (fun q => ?_)
    · rw [if_pos q] at ih; exact ih
    · rw [if_neg q] at ih; exact ih
theorem bc_c_goingOnes {d : Nat} {c : Int} {h : bc_H} {A : Int → Int} {K : Int → bc_H → Prop} (hC : bs_Cm h c A) (he : h c 3 = A 2) (hp : 0 ≤ A 2) (h6 : A 2 ≤ 6) (hK : K (bs_bset (fun v => 0 < A (54 + 8 * v + 2)) (A 2)) h) : bf_Cave_goingOnes d c h (bc_I K) := by
  refine rv_Cave_goingOnes ?_
  refine bc_lup (P := fun i => bl_Cave_goingOnes_4 d c (bs_bset (fun v => 0 < A (54 + 8 * v + 2)) i) i h (bc_I K)) (n := A 2) ?_ (fun i h0 hi ih => ?_) (Int.le_refl 0) hp
  · exact rv_Cave_goingOnes_4 ⟨fun _ => hK, fun q => absurd q (by omega)⟩
  · refine rv_Cave_goingOnes_4 ⟨fun q => absurd q (by omega), fun _ => ?_⟩
    rw [bs_bset_s h0] at ih
    rw [(hC i h0 hi).2.2.1]
    simp (disch := omega) only [bc_wi]
    refine ⟨by omega, ?_⟩
    by_cases q : 0 < A (54 + 8 * i + 2)
    · rw [if_pos q] at ih; rw [if_neg (by omega)]; exact ih
    · rw [if_neg q] at ih; rw [if_pos (by omega)]; exact ih
/-! the reference -/
theorem bc_m_greatestOf {d : Nat} {v : Int} {h : bc_H} {A : Int → Int} {K : Int → bc_H → Prop} (eA : h 157 = A) (h0 : 0 ≤ v) (hv : v < 6) (hb : 0 ≤ A 0 ∧ A 0 ≤ 5) (hK : K (bs_ix (fun b => A (54 + 8 * v + (3 + b))) (A 0)) h) : bf_M_greatestOf (d + 2) v h (bc_I K) := by
  subst eA
  refine rv_M_greatestOf ?_
  have key : ∀ i, 0 ≤ i → i ≤ h 157 0 → -1 ≤ bs_ix (fun b => h 157 (54 + 8 * v + (3 + b))) i ∧ bs_ix (fun b => h 157 (54 + 8 * v + (3 + b))) i < i ∨ i = 0 ∧ bs_ix (fun b => h 157 (54 + 8 * v + (3 + b))) i = -1 := by
    intro i h0 hi
    by_cases e : i = 0
    · subst e; exact Or.inr ⟨rfl, rfl⟩
    · rw [bs_ix_eq _ (by omega)]
      have := (bs_fmN_p (fun b => h 157 (54 + 8 * v + (3 + b))) (n := i) (by omega)).1
      exact Or.inl (by omega)
  refine bc_lup (P := fun i => bl_M_greatestOf_4 (d + 2) v (bs_ix (fun b => h 157 (54 + 8 * v + (3 + b))) i) i h (bc_I K)) (n := h 157 0) ?_ (fun i h0 hi ih => ?_) (Int.le_refl 0) hb.1
  · exact rv_M_greatestOf_4 ⟨fun _ => hK, fun q => absurd q (by omega)⟩
  · refine rv_M_greatestOf_4 ⟨fun q => absurd q (by omega), fun _ => ?_⟩
    have hx := key i h0 (by omega)
    rw [bs_ix_s _ h0] at ih
    simp (disch := omega) only [bc_wi]
    refine ⟨fun q => ?_, fun q => ⟨by omega, by omega, ?_⟩⟩
    · rw [if_pos q] at ih; exact ih
    · rw [if_neg q] at ih; exact ih
theorem bc_m_mostOf {d : Nat} {v : Int} {h : bc_H} {A : Int → Int} {K : Int → bc_H → Prop} (eA : h 157 = A) (hW : bs_W A) (h0 : 0 ≤ v) (hv : v < A 2) (hK : K (bs_most A v) h) : bf_M_mostOf (d + 3) v h (bc_I K) := by
  have hb := hW.1.1
  have h6 := hW.1.2.2.1
  have hV := hW.2.2.2.1 v h0 hv
  refine rv_M_mostOf (d := d + 1) ?_
  refine bc_m_greatestOf (d := d) eA h0 (by omega) hb ?_
  have e := bs_gr_ix (f := fun b => A (54 + 8 * v + (3 + b))) hb.1 hb.2 (fun b p0 p1 => (hV.2.2.2 b p0 p1).1.1) (fun b p0 p1 => (hV.2.2.2 b (by omega) p1).2 p0)
  rw [eA]
  have hx : -1 ≤ bs_ix (fun b => A (54 + 8 * v + (3 + b))) (A 0) ∧ bs_ix (fun b => A (54 + 8 * v + (3 + b))) (A 0) < 5 := by
    by_cases q : A 0 = 0
    · rw [q]; show (-1 : Int) ≤ -1 ∧ (-1 : Int) < 5; decide
    · rw [bs_ix_eq _ (by omega)]
      have := (bs_fmN_p (fun b => A (54 + 8 * v + (3 + b))) (n := A 0) (by omega)).1
      omega
  refine ⟨fun q => ?_, fun q => ?_⟩
  · simp (disch := omega) only [bc_wi]
    rw [if_neg q] at e
    refine ⟨by omega, ?_⟩
    rw [e]; exact hK
  · rw [if_pos q] at e
    rw [show (0 : Int) = bs_most A v from e]; exact hK
theorem bc_m_isTurned {d : Nat} {v : Int} {h : bc_H} {A : Int → Int} {P N : bc_H → Prop} (eA : h 157 = A) (hW : bs_W A) (h0 : 0 ≤ v) (hv : v < A 2) (hP : bs_turned A v → P h) (hN : ¬ bs_turned A v → N h) : bf_M_isTurned (d + 4) v h (bc_B P N) := by
  have h6 := hW.1.2.2.1
  refine rv_M_isTurned (d := d + 2) ?_
  refine bc_m_mostOf (d := d) eA hW h0 hv ?_
  simp (disch := omega) only [bc_wi, Int.add_zero]
  rw [eA]
  exact ⟨by omega, hP, hN⟩
theorem bc_m_whoIs {d : Nat} {v : Int} {h : bc_H} {A : Int → Int} {K : Int → bc_H → Prop} (eA : h 157 = A) (hW : bs_W A) (h0 : 0 ≤ v) (hv : v < A 2) (hP : bs_turned A v → K (bs_fm (fun b => A (54 + 8 * v + (3 + b)))) h) (hN : ¬ bs_turned A v → K (-1) h) : bf_M_whoIs (d + 5) v h (bc_I K) := by
  have hb := hW.1.1
  have h6 := hW.1.2.2.1
  have hV := hW.2.2.2.1 v h0 hv
  refine rv_M_whoIs (d := d + 4) ?_
  refine bc_m_isTurned (d := d) eA hW h0 hv (fun q => ?_) hN
  refine bc_m_greatestOf (d := d + 2) eA h0 (by omega) hb ?_
  have hm : 0 < bs_gr (fun b => A (54 + 8 * v + (3 + b))) := by
    have q : A (54 + 8 * v) < bs_gr (fun b => A (54 + 8 * v + (3 + b))) := q
    have := hV.1
    omega
  rw [(bs_ix_fm hb.1 hb.2 (fun b p0 p1 => (hV.2.2.2 b (by omega) p1).2 p0) hm).1]
  exact hP q
theorem bc_m_visitorsThat0 {d : Nat} {h : bc_H} {A : Int → Int} {K : Int → bc_H → Prop} (eA : h 157 = A) (hW : bs_W A) (hK : K (bs_bset (bs_turned A) (A 2)) h) : bf_M_visitorsThat (d + 5) 0 h (bc_I K) := by
  have h6 := hW.1.2.2.1
  refine rv_M_visitorsThat (d := d + 3) ?_
  refine bc_lup (P := fun i => bl_M_visitorsThat_4 (d + 5) 0 (bs_bset (bs_turned A) i) i h (bc_I K)) (n := A 2) ?_ (fun i h0 hi ih => ?_) (Int.le_refl 0) h6.1
  · exact rv_M_visitorsThat_4 (d := d + 3) ⟨fun _ => hK, fun q => absurd q (by rw [eA]; omega)⟩
  · refine rv_M_visitorsThat_4 (d := d + 3) ⟨fun q => absurd q (by rw [eA]; omega), fun _ => ⟨fun q => absurd rfl q, fun _ => ?_⟩⟩
    rw [bs_bset_s h0] at ih
    simp (disch := omega) only [bc_wi]
    refine bc_m_isTurned (d := d) eA hW h0 hi (fun q => ?_) (fun q => ?_)
    · rw [if_pos q] at ih; exact ih
    · rw [if_neg q] at ih; exact ih
theorem bc_m_visitorsThat1 {d : Nat} {h : bc_H} {A : Int → Int} {K : Int → bc_H → Prop} (eA : h 157 = A) (h6 : 0 ≤ A 2 ∧ A 2 ≤ 6) (hK : K (bs_bset (fun v => 0 < A (54 + 8 * v + 2)) (A 2)) h) : bf_M_visitorsThat (d + 2) 1 h (bc_I K) := by
  refine rv_M_visitorsThat ?_
  refine bc_lup (P := fun i => bl_M_visitorsThat_4 (d + 2) 1 (bs_bset (fun v => 0 < A (54 + 8 * v + 2)) i) i h (bc_I K)) (n := A 2) ?_ (fun i h0 hi ih => ?_) (Int.le_refl 0) h6.1
  · exact rv_M_visitorsThat_4 ⟨fun _ => hK, fun q => absurd q (by rw [eA]; omega)⟩
  · refine rv_M_visitorsThat_4 ⟨fun q => absurd q (by rw [eA]; omega), fun _ => ⟨fun _ => ?_, fun q => absurd q (by decide)⟩⟩
    rw [bs_bset_s h0] at ih
    simp (disch := omega) only [bc_wi]
    rw [eA]
    refine ⟨by omega, fun q => ?_, fun q => ?_⟩
    · rw [if_pos q] at ih; exact ih
    · rw [if_neg q] at ih; exact ih
