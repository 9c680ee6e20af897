/-! ===== a minute goes by ===== -/
theorem bs_pass_lo {A : Int → Int} {k : Int} (h : k < 54) (h4 : k ≠ 4) (h6 : k ≠ 6) : bs_pass A k = A k := by
  unfold bs_pass; rw [if_neg h4, if_neg h6, if_neg (by omega)]
theorem bs_pass_hi {A : Int → Int} {k : Int} (h : 54 ≤ k) (h2 : 54 + 8 * A 2 ≤ k) : bs_pass A k = A k := by
  unfold bs_pass; rw [if_neg (by omega), if_neg (by omega), if_neg (by omega)]
theorem bs_pass_4 (A : Int → Int) : bs_pass A 4 = (if 0 < A 4 then A 4 - 1 else 0) := by unfold bs_pass; rw [if_pos rfl]
theorem bs_pass_6 (A : Int → Int) : bs_pass A 6 = A 6 + 1 := by unfold bs_pass; rw [if_neg (by decide), if_pos rfl]
theorem bs_pass_se {A : Int → Int} {v : Int} (h0 : 0 ≤ v) (h : v < A 2) : bs_pass A (54 + 8 * v) = A (54 + 8 * v) := by
  unfold bs_pass
  rw [if_neg (by omega), if_neg (by omega), if_pos (by omega), if_neg (by omega), if_neg (by omega)]
theorem bs_pass_at {A : Int → Int} {v : Int} (h0 : 0 ≤ v) (h : v < A 2) : bs_pass A (54 + 8 * v + 1) = A (54 + 8 * v + 1) := by
  unfold bs_pass
  rw [if_neg (by omega), if_neg (by omega), if_pos (by omega), if_neg (by omega), if_neg (by omega)]
theorem bs_pass_go {A : Int → Int} {v : Int} (h0 : 0 ≤ v) (h : v < A 2) : bs_pass A (54 + 8 * v + 2) = (if 0 < A (54 + 8 * v + 2) then A (54 + 8 * v + 2) - 1 else 0) := by
  unfold bs_pass
  rw [if_neg (by omega), if_neg (by omega), if_pos (by omega), if_pos (by omega)]
theorem bs_pass_ms {A : Int → Int} {v b : Int} (h0 : 0 ≤ v) (h : v < A 2) (b0 : 0 ≤ b) (b5 : b < 5) : bs_pass A (54 + 8 * v + (3 + b)) = (if b < A 0 then bs_chg (A (54 + 8 * v + (3 + b))) b (bs_mb A v) (A (10 + 2 * A (54 + 8 * v + 1) + 1)) else A (54 + 8 * v + (3 + b))) := by
  unfold bs_pass
  rw [if_neg (by omega), if_neg (by omega), if_pos (by omega), if_neg (by omega)]
  rw [show (54 + 8 * v + (3 + b) - 54) / 8 = v by omega, show (54 + 8 * v + (3 + b) - 54) % 8 - 3 = b by omega]
  split
  · rw [if_pos (by omega)]
  · rw [if_neg (by omega)]
theorem bs_mb_lt {A : Int → Int} {v : Int} (hW : bs_W A) (h0 : 0 ≤ v) (h : v < A 2) : -1 ≤ bs_mb A v ∧ bs_mb A v < A 0 ∧ (bs_mb A v ≠ -1 → bs_mb A v = A (10 + 2 * A (54 + 8 * v + 1)) ∧ A (10 + 2 * A (54 + 8 * v + 1)) ≠ -1) := by
  have hV := hW.2.2.2.1 v h0 h
  have hw := hW.2.1 _ hV.2.1.1 hV.2.1.2
  have hb := hW.1.1
  unfold bs_mb
  split
  · exact ⟨by omega, by omega, fun q => ⟨rfl, q⟩⟩
  · exact ⟨by omega, by omega, fun q => absurd rfl q⟩
/-- all five, with nothing where there is no beast -/
theorem bs_pass_m5 {A : Int → Int} {v b : Int} (hW : bs_W A) (h0 : 0 ≤ v) (h : v < A 2) (b0 : 0 ≤ b) (b5 : b < 5) : bs_pass A (54 + 8 * v + (3 + b)) = bs_chg (A (54 + 8 * v + (3 + b))) b (bs_mb A v) (A (10 + 2 * A (54 + 8 * v + 1) + 1)) := by
  rw [bs_pass_ms h0 h b0 b5]
  split
  · rfl
  · rename_i q
    have hV := (hW.2.2.2.1 v h0 h).2.2.2 b b0 b5
    have hm := bs_mb_lt hW h0 h
    have e := hV.2 (by omega)
    unfold bs_chg bs_dn
    rw [if_neg (by omega), e, if_neg (by omega)]
theorem bs_chg_n {x b be p p' : Int} (h : b ≠ be ∨ p = p') : bs_chg x b be p = bs_chg x b be p' := by
  rcases h with h | h
  · unfold bs_chg; rw [if_neg h, if_neg h]
  · rw [h]
theorem bs_chg_r {x b be p : Int} (h0 : 0 ≤ x) (h9 : x ≤ 99) (hp : 0 ≤ p ∨ b ≠ be) : 0 ≤ bs_chg x b be p ∧ bs_chg x b be p ≤ 99 := by
  unfold bs_chg bs_up bs_dn
  split
  · rcases hp with hp | hp
    · split <;> omega
    · omega
  · split <;> omega
theorem bs_W_pass {A : Int → Int} (hW : bs_W A) : bs_W (bs_pass A) := by
  obtain ⟨⟨w0, w1, w2, w3, w4, w5, w7⟩, hw, hy, hv, hf, hg⟩ := hW
  have hW : bs_W A := ⟨⟨w0, w1, w2, w3, w4, w5, w7⟩, hw, hy, hv, hf, hg⟩
  have e0 : bs_pass A 0 = A 0 := bs_pass_lo (by decide) (by decide) (by decide)
  have e1 : bs_pass A 1 = A 1 := bs_pass_lo (by decide) (by decide) (by decide)
  have e2 : bs_pass A 2 = A 2 := bs_pass_lo (by decide) (by decide) (by decide)
  have e3 : bs_pass A 3 = A 3 := bs_pass_lo (by decide) (by decide) (by decide)
  have e5 : bs_pass A 5 = A 5 := bs_pass_lo (by decide) (by decide) (by decide)
  have e7 : bs_pass A 7 = A 7 := bs_pass_lo (by decide) (by decide) (by decide)
  refine ⟨?_, ?_, ?_, ?_, ?_, ?_⟩
  · rw [e0, e1, e2, e3, e5, e7, bs_pass_4]
    exact ⟨w0, w1, w2, w3, by split <;> omega, w5, w7⟩
  · intro w h0 h1
    rw [e1] at h1
    rw [bs_pass_lo (by omega) (by omega) (by omega), bs_pass_lo (k := 10 + 2 * w + 1) (by omega) (by omega) (by omega), e0]
    exact hw w h0 h1
  · intro k h0 h1
    rw [e7] at h1
    rw [bs_pass_lo (by omega) (by omega) (by omega), bs_pass_lo (k := 24 + 3 * k + 1) (by omega) (by omega) (by omega), bs_pass_lo (k := 24 + 3 * k + 2) (by omega) (by omega) (by omega), e1]
    exact hy k h0 h1
  · intro v h0 h1
    rw [e2] at h1
    have q := hv v h0 h1
    rw [bs_pass_se h0 h1, bs_pass_at h0 h1, bs_pass_go h0 h1, e1]
    refine ⟨q.1, q.2.1, by split <;> omega, fun b b0 b5 => ?_⟩
    have q2 := q.2.2.2 b b0 b5
    have hm := bs_mb_lt hW h0 h1
    have hp := hw _ q.2.1.1 q.2.1.2
    rw [e0]
    refine ⟨?_, fun z => ?_⟩
    · rw [bs_pass_m5 hW h0 h1 b0 b5]
      exact bs_chg_r q2.1.1 q2.1.2 (Or.inl hp.2.2.1)
    · rw [bs_pass_ms h0 h1 b0 b5, if_neg (by omega)]
      exact q2.2 z
  · intro f h0 h1
    rw [e3] at h1
    rw [bs_pass_hi (by omega) (by omega), bs_pass_hi (k := 102 + 4 * f + 1) (by omega) (by omega), bs_pass_hi (k := 102 + 4 * f + 2) (by omega) (by omega), bs_pass_hi (k := 102 + 4 * f + 3) (by omega) (by omega), e0, e3]
    exact hf f h0 h1
  · intro a b a0 a1 b0 b1
    rw [e0] at a1 b1
    rw [bs_pass_hi (by omega) (by omega)]
    exact hg a b a0 a1 b0 b1
/-- ways stand in these places alone -/
def bs_wag (A B : Int → Int) : Prop := B 1 = A 1 ∧ B 7 = A 7 ∧ ∀ k, 24 ≤ k → k < 54 → B k = A k
theorem bs_way_congr {A B : Int → Int} (h : bs_wag A B) (h7 : 0 ≤ A 7 ∧ A 7 ≤ 10) (a b : Int) : bs_way B a b = bs_way A a b := by
  unfold bs_way
  rw [h.2.1]
  refine bc_it_congr (fun i x h0 h1 => ?_)
  unfold bs_wayf
  rw [h.2.2 (24 + 3 * i) (by omega) (by omega), h.2.2 (24 + 3 * i + 1) (by omega) (by omega), h.2.2 (24 + 3 * i + 2) (by omega) (by omega)]
theorem bs_far_congr {A B : Int → Int} (h : bs_wag A B) (h7 : 0 ≤ A 7 ∧ A 7 ≤ 10) (a b : Int) : bs_far B a b = bs_far A a b := by
  unfold bs_far bs_farR
  rw [h.1]
  have e : bs_far0 B = bs_far0 A := by
    funext k; unfold bs_far0; rw [bs_way_congr h h7]
  rw [e]
theorem bs_wag_pass (A : Int → Int) : bs_wag A (bs_pass A) := ⟨bs_pass_lo (by decide) (by decide) (by decide), bs_pass_lo (by decide) (by decide) (by decide), fun k h0 h1 => bs_pass_lo (by omega) (by omega) (by omega)⟩
theorem bs_C_pass_parts {h : bc_H} {c : Int} {A : Int → Int} (hW : bs_W A) (hw : bs_Cw h c A) (hd : bs_Cd h c A) (hg : bs_Cg h c A) (hf : bs_Cf h c A) : bs_Cw h c (bs_pass A) ∧ bs_Cd h c (bs_pass A) ∧ bs_Cg h c (bs_pass A) ∧ bs_Cf h c (bs_pass A) := by
  have hn := hW.1
  have e0 : bs_pass A 0 = A 0 := bs_pass_lo (by decide) (by decide) (by decide)
  have e1 : bs_pass A 1 = A 1 := bs_pass_lo (by decide) (by decide) (by decide)
  have e3 : bs_pass A 3 = A 3 := bs_pass_lo (by decide) (by decide) (by decide)
  refine ⟨fun w h0 h1 => ?_, fun a b a0 a1 b0 b1 => ?_, fun a b a0 a1 b0 b1 => ?_, fun f h0 h1 => ?_⟩
  · rw [e1] at h1
    rw [bs_pass_lo (by omega) (by omega) (by omega), bs_pass_lo (k := 10 + 2 * w + 1) (by omega) (by omega) (by omega)]
    exact hw w h0 h1
  · rw [e1] at a1 b1
    rw [bs_way_congr (bs_wag_pass A) hn.2.2.2.2.2.2, bs_far_congr (bs_wag_pass A) hn.2.2.2.2.2.2]
    exact hd a b a0 a1 b0 b1
  · rw [e0] at a1 b1
    rw [bs_pass_hi (by omega) (by omega)]
    exact hg a b a0 a1 b0 b1
  · rw [e3] at h1
    rw [bs_pass_hi (by omega) (by omega), bs_pass_hi (k := 102 + 4 * f + 1) (by omega) (by omega), bs_pass_hi (k := 102 + 4 * f + 2) (by omega) (by omega), bs_pass_hi (k := 102 + 4 * f + 3) (by omega) (by omega)]
    exact hf f h0 h1
/-- how many become turned -/
def bs_new (A : Int → Int) : Int := bs_cnt (fun v => bs_turned (bs_pass A) v ∧ ¬ bs_turned A v) (A 2)
/-! the class -/
def bs_pm (h : bc_H) (c : Int) (A : Int → Int) (v : Int) : bc_H := fun a j => if a = c + 16 ∧ 0 ≤ j ∧ j < 5 * v then bs_pass A (54 + 8 * (j / 5) + (3 + j % 5)) else if a = c + 15 ∧ 0 ≤ j ∧ j < v then bs_pass A (54 + 8 * j + 2) else h a j
theorem bs_pm_0 (h : bc_H) (c : Int) (A : Int → Int) : bs_pm h c A 0 = h := by
  funext a j; unfold bs_pm; rw [if_neg (by omega), if_neg (by omega)]
theorem bs_pm_n {h : bc_H} {c : Int} {A : Int → Int} {v a j : Int} (q : (a ≠ c + 16 ∨ j < 0 ∨ 5 * v ≤ j) ∧ (a ≠ c + 15 ∨ j < 0 ∨ v ≤ j)) : bs_pm h c A v a j = h a j := by
  unfold bs_pm; rw [if_neg (by omega), if_neg (by omega)]
theorem bs_pm_m {h : bc_H} {c : Int} {A : Int → Int} {v u b : Int} (u0 : 0 ≤ u) (u1 : u < v) (b0 : 0 ≤ b) (b5 : b < 5) : bs_pm h c A v (c + 16) (u * 5 + b) = bs_pass A (54 + 8 * u + (3 + b)) := by
  unfold bs_pm; rw [if_pos (by omega), show (u * 5 + b) / 5 = u by omega, show (u * 5 + b) % 5 = b by omega]
theorem bs_pm_g {h : bc_H} {c : Int} {A : Int → Int} {v u : Int} (u0 : 0 ≤ u) (u1 : u < v) : bs_pm h c A v (c + 15) u = bs_pass A (54 + 8 * u + 2) := by
  unfold bs_pm; rw [if_neg (by omega), if_pos (by omega)]
theorem bs_pm_s {h : bc_H} {c : Int} {A : Int → Int} {v be p x : Int} (v0 : 0 ≤ v) (hb : ∀ b, 0 ≤ b → b < 5 → bs_chg (h (c + 16) (v * 5 + b)) b be p = bs_pass A (54 + 8 * v + (3 + b))) (hx : x = bs_pass A (54 + 8 * v + 2)) : bc_upd (bs_chr (bs_pm h c A v) (c + 16) (v * 5) be p 5) (c + 15) v x = bs_pm h c A (v + 1) := by
  funext a j
  by_cases q : a = c + 15 ∧ j = v
  · obtain ⟨rfl, rfl⟩ := q
    rw [bc_uu, bs_pm_g v0 (by omega), hx]
  · rw [bc_un2 (by omega)]
    by_cases q2 : a = c + 16 ∧ v * 5 ≤ j ∧ j < v * 5 + 5
    · obtain ⟨rfl, q3, q4⟩ := q2
      have e : j = v * 5 + (j - v * 5) := by omega
      rw [e, bs_chr_y (by omega) (by omega), bs_pm_n (by omega), bs_pm_m v0 (by omega) (by omega) (by omega)]
      exact hb _ (by omega) (by omega)
    · rw [bs_chr_n (by omega)]
      unfold bs_pm
      (repeat' split) <;> first | rfl | (exfalso; omega)
/-- whether one is turned, by his own places alone -/
theorem bc_c_isTurnedG {d : Nat} {c v m s : Int} {h : bc_H} {P N : bc_H → Prop} (h0 : 0 ≤ v) (h6 : v < 6) (hm : bs_gr (fun b => h (c + 16) (v * 5 + b)) = m) (hs : h (c + 13) v = s) (hP : s < m → P h) (hN : ¬ s < m → N h) : bf_Cave_isTurned (d + 1) c v h (bc_B P N) := by
  refine rv_Cave_isTurned ?_
  simp (disch := omega) only [bc_wi]
  refine bc_c_greatest (by omega) (by omega) (by omega) ?_
  rw [hm, hs]
  exact ⟨by omega, hP, hN⟩
def bs_vf (h h' : bc_H) (c : Int) : Prop := (∀ a, a ≠ c → a ≠ c + 13 → a ≠ c + 14 → a ≠ c + 15 → a ≠ c + 16 → h' a = h a) ∧ h' c 11 = h c 11
theorem bc_c_passMinute {d : Nat} {c : Int} {h : bc_H} {A : Int → Int} {K : Int → bc_H → Prop} (hC : bs_C h c A) (hW : bs_W A) (h6 : 0 ≤ A 6 ∧ A 6 ≤ 1000000) (hK : ∀ h', bs_vf h h' c → bs_C h' c (bs_pass A) → K (bs_new A) h') : bf_Cave_passMinute (d + 2) c h (bc_I K) := by
  obtain ⟨⟨n4, n5, n6, n2, n0, n1, n3⟩, hw, hd, hg, hf, hm⟩ := hC
  have hn := hW.1
  refine rv_Cave_passMinute ?_
  have key : bl_Cave_passMinute_4 (d + 2) c (bs_cnt (fun v => bs_turned (bs_pass A) v ∧ ¬ bs_turned A v) 0) 0 (bs_pm h c A 0) (bc_I K) := by
    refine bc_lup (P := fun i => bl_Cave_passMinute_4 (d + 2) c (bs_cnt (fun v => bs_turned (bs_pass A) v ∧ ¬ bs_turned A v) i) i (bs_pm h c A i) (bc_I K)) (n := A 2) ?_ (fun i h0 hi ih => ?_) (Int.le_refl 0) hn.2.2.1.1
    · refine rv_Cave_passMinute_4 (d := d + 1) ⟨fun _ => ?_, fun q => absurd q (by rw [bs_pm_n (by omega)]; omega)⟩
      intro hz ez
      rw [bs_pm_n (by omega), n4] at ez
      rw [bc_uj (by decide), bs_pm_n (by omega), n6, bc_wi (by omega) (by omega), bc_wi (by omega) (by omega)] at ez
      have er : ∀ a, a ≠ c → a ≠ c + 15 → a ≠ c + 16 → hz a = h a := fun a a1 a4 a5 => by
        rw [ez, bc_urow a1, bc_urow a1]
        funext j; exact bs_pm_n (by omega)
      have ec : ∀ j, j ≠ 0 → j ≠ 2 → hz c j = h c j := fun j j1 j2 => by
        rw [ez, bc_uj j2, bc_uj j1, bs_pm_n (by omega)]
      refine hK _ ⟨fun a a1 a2 a3 a4 a5 => er a a1 a4 a5, ec 11 (by decide) (by decide)⟩ ?_
      obtain ⟨g1, g2, g3, g4⟩ := bs_C_pass_parts hW hw hd hg hf
      have e0 : bs_pass A 0 = A 0 := bs_pass_lo (by decide) (by decide) (by decide)
      have e1 : bs_pass A 1 = A 1 := bs_pass_lo (by decide) (by decide) (by decide)
      have e2 : bs_pass A 2 = A 2 := bs_pass_lo (by decide) (by decide) (by decide)
      have e3 : bs_pass A 3 = A 3 := bs_pass_lo (by decide) (by decide) (by decide)
      have e5 : bs_pass A 5 = A 5 := bs_pass_lo (by decide) (by decide) (by decide)
      refine ⟨⟨?_, ?_, ?_, ?_, ?_, ?_, ?_⟩, fun w w0 w1 => ?_, fun a b a0 a1 b0 b1 => ?_, fun a b a0 a1 b0 b1 => ?_, fun f f0 f1 => ?_, fun v v0 v1 => ?_⟩
      · rw [ez, bc_uj (by decide), bc_uu, bs_pass_4]; split <;> split <;> omega
      · rw [ec 1 (by decide) (by decide), e5, n5]
      · rw [ez, bc_uu, bs_pass_6]
      · rw [ec 3 (by decide) (by decide), e2, n2]
      · rw [er _ (by omega) (by omega) (by omega), e0, n0]
      · rw [er _ (by omega) (by omega) (by omega), e1, n1]
      · rw [er _ (by omega) (by omega) (by omega), e3, n3]
      · rw [er (c + 3 + 1) (by omega) (by omega) (by omega), er (c + 3 + 2) (by omega) (by omega) (by omega)]
        exact g1 w w0 w1
      · rw [er (c + 3 + 3) (by omega) (by omega) (by omega), er (c + 3 + 4) (by omega) (by omega) (by omega)]
        exact g2 a b a0 a1 b0 b1
      · rw [er (c + 1 + 1) (by omega) (by omega) (by omega)]
        exact g3 a b a0 a1 b0 b1
      · rw [er (c + 8 + 1) (by omega) (by omega) (by omega), er (c + 8 + 2) (by omega) (by omega) (by omega), er (c + 8 + 3) (by omega) (by omega) (by omega), er (c + 8 + 4) (by omega) (by omega) (by omega)]
        exact g4 f f0 f1
      · rw [e2] at v1
        rw [er (c + 13) (by omega) (by omega) (by omega), er (c + 14) (by omega) (by omega) (by omega)]
        refine ⟨?_, ?_, ?_, fun b b0 b5 => ?_⟩
        · rw [bs_pass_se v0 v1]; exact (hm v v0 v1).1
        · rw [bs_pass_at v0 v1]; exact (hm v v0 v1).2.1
        · rw [ez, bc_urow (by omega), bc_urow (by omega), bs_pm_g v0 v1]
        · rw [ez, bc_urow (by omega), bc_urow (by omega), bs_pm_m v0 v1 b0 b5]
    · have hv := hm i h0 hi
      have hV := hW.2.2.2.1 i h0 hi
      have hp := hW.2.1 _ hV.2.1.1 hV.2.1.2
      have f15 : bs_pm h c A i (c + 15) i = A (54 + 8 * i + 2) := by rw [bs_pm_n (by omega)]; exact hv.2.2.1
      have f14 : bs_pm h c A i (c + 14) i = A (54 + 8 * i + 1) := by rw [bs_pm_n (by omega)]; exact hv.2.1
      have f13 : bs_pm h c A i (c + 13) i = A (54 + 8 * i) := by rw [bs_pm_n (by omega)]; exact hv.1
      have f0 : bs_pm h c A i c 0 = A 4 := by rw [bs_pm_n (by omega)]; exact n4
      have fw := hw _ hV.2.1.1 hV.2.1.2
      have fw1 : bs_pm h c A i (c + 3 + 1) (A (54 + 8 * i + 1)) = A (10 + 2 * A (54 + 8 * i + 1)) := by rw [bs_pm_n (by omega)]; exact fw.1
      have fw2 : A (10 + 2 * A (54 + 8 * i + 1)) ≠ -1 → bs_pm h c A i (c + 3 + 2) (A (54 + 8 * i + 1)) = A (10 + 2 * A (54 + 8 * i + 1) + 1) := fun q => by rw [bs_pm_n (by omega)]; exact fw.2 q
      have fm : ∀ b, 0 ≤ b → b < 5 → bs_pm h c A i (c + 16) (i * 5 + b) = A (54 + 8 * i + (3 + b)) := fun b b0 b5 => by rw [bs_pm_n (by omega)]; exact hv.2.2.2 b b0 b5
      have fh : ∀ b, 0 ≤ b → b < 5 → h (c + 16) (i * 5 + b) = A (54 + 8 * i + (3 + b)) := hv.2.2.2
      have fr : ∀ b, 0 ≤ b → b < 5 → 0 ≤ bs_pm h c A i (c + 16) (i * 5 + b) ∧ bs_pm h c A i (c + 16) (i * 5 + b) ≤ 99 := fun b b0 b5 => by
        have := (hV.2.2.2 b b0 b5).1; have e := fm b b0 b5; omega
      have fg : (if A (54 + 8 * i + 2) - 1 < 0 then 0 else A (54 + 8 * i + 2) - 1) = bs_pass A (54 + 8 * i + 2) := by
        rw [bs_pass_go h0 hi]; split <;> split <;> omega
      have hfr3 : bs_pm h c A i c 3 = A 2 := by rw [bs_pm_n (by omega)]; exact n2
      rw [bs_cnt_s h0] at ih
      have hcn := bs_cnt_le (fun v => bs_turned (bs_pass A) v ∧ ¬ bs_turned A v) h0
      have mg : bs_gr (fun b => bs_pm h c A i (c + 16) (i * 5 + b)) = bs_most A i := bs_gr_congr (fun b b0 b5 => fm b b0 b5)
      have mg' : bs_gr (fun b => bs_pm h c A (i + 1) (c + 16) (i * 5 + b)) = bs_most (bs_pass A) i := bs_gr_congr (fun b b0 b5 => bs_pm_m h0 (by omega) b0 b5)
      have f13' : bs_pm h c A (i + 1) (c + 13) i = bs_pass A (54 + 8 * i) := by rw [bs_pm_n (by omega), bs_pass_se h0 hi]; exact hv.1
      -- after looking, after not
      have st1 : A (54 + 8 * i + 2) = 0 ∧ 0 < A 4 → bc_upd (bs_chr (bs_pm h c A i) (c + 16) (i * 5) (A (10 + 2 * A (54 + 8 * i + 1))) (bs_pm h c A i (c + 3 + 2) (A (54 + 8 * i + 1))) 5) (c + 15) i (bs_pass A (54 + 8 * i + 2)) = bs_pm h c A (i + 1) := fun z => bs_pm_s h0 (fun b b0 b5 => by
        rw [fh b b0 b5, bs_pass_m5 hW h0 hi b0 b5]
        have e : bs_mb A i = A (10 + 2 * A (54 + 8 * i + 1)) := by unfold bs_mb; rw [if_pos z]
        rw [e]
        refine bs_chg_n ?_
        by_cases q : A (10 + 2 * A (54 + 8 * i + 1)) = -1
        · exact Or.inl (by omega)
        · exact Or.inr (fw2 q)) rfl
      have st0 : ¬ (A (54 + 8 * i + 2) = 0 ∧ 0 < A 4) → ∀ p, bc_upd (bs_chr (bs_pm h c A i) (c + 16) (i * 5) (-1) p 5) (c + 15) i (bs_pass A (54 + 8 * i + 2)) = bs_pm h c A (i + 1) := fun z p => bs_pm_s h0 (fun b b0 b5 => by
        rw [fh b b0 b5, bs_pass_m5 hW h0 hi b0 b5]
        have e : bs_mb A i = -1 := by unfold bs_mb; rw [if_neg z]
        rw [e]
        exact bs_chg_n (Or.inl (by omega))) rfl
      have fgo : ∀ be p, bs_chr (bs_pm h c A i) (c + 16) (i * 5) be p 5 (c + 15) i = A (54 + 8 * i + 2) := fun be p => by rw [bs_chr_n (by omega)]; exact f15
      refine rv_Cave_passMinute_4 (d := d + 1) ⟨fun q => absurd q (by omega), fun _ => ?_⟩
      simp (disch := omega) only [bc_wi, Int.add_zero]
      refine bc_c_isTurnedG h0 (by omega) mg f13 (fun ht => ?_) (fun ht => ?_)
      · rw [f15, f0]
        refine ⟨by omega, fun z => ?_, fun z => ?_⟩
        · rw [f14]
          refine ⟨by omega, by omega, by omega, by omega, ?_⟩
          rw [fw1]
          refine bc_c_change (by omega) (by omega) (by omega) fr ?_ ?_
          · by_cases q : A (10 + 2 * A (54 + 8 * i + 1)) = -1
            · exact Or.inr (Or.inl (by omega))
            · exact Or.inl (by rw [fw2 q]; omega)
          refine ⟨by omega, by omega, ?_⟩
          rw [fgo, bc_wi (x := A (54 + 8 * i + 2) - 1) (by omega) (by omega), fg, st1 z]
          rw [if_neg (fun q => q.2 ht), Int.add_zero] at ih
          exact ih
        · rw [f14]
          refine ⟨by omega, by omega, ?_⟩
          refine bc_c_change (by omega) (by omega) (by omega) fr (Or.inr (Or.inl (by decide))) ?_
          refine ⟨by omega, by omega, ?_⟩
          rw [fgo, bc_wi (x := A (54 + 8 * i + 2) - 1) (by omega) (by omega), fg, st0 z]
          rw [if_neg (fun q => q.2 ht), Int.add_zero] at ih
          exact ih
      · rw [f15, f0]
        refine ⟨by omega, fun z => ?_, fun z => ?_⟩
        · rw [f14]
          refine ⟨by omega, by omega, by omega, by omega, ?_⟩
          rw [fw1]
          refine bc_c_change (by omega) (by omega) (by omega) fr ?_ ?_
          · by_cases q : A (10 + 2 * A (54 + 8 * i + 1)) = -1
            · exact Or.inr (Or.inl (by omega))
            · exact Or.inl (by rw [fw2 q]; omega)
          refine ⟨by omega, by omega, ?_⟩
          rw [fgo, bc_wi (x := A (54 + 8 * i + 2) - 1) (by omega) (by omega), fg, st1 z]
          refine bc_c_isTurnedG h0 (by omega) mg' f13' (fun hu => ?_) (fun hu => ?_)
          · rw [if_pos ⟨hu, ht⟩] at ih
            exact ih
          · rw [if_neg (fun q => hu q.1), Int.add_zero] at ih
            exact ih
        · rw [f14]
          refine ⟨by omega, by omega, ?_⟩
          refine bc_c_change (by omega) (by omega) (by omega) fr (Or.inr (Or.inl (by decide))) ?_
          refine ⟨by omega, by omega, ?_⟩
          rw [fgo, bc_wi (x := A (54 + 8 * i + 2) - 1) (by omega) (by omega), fg, st0 z]
          refine bc_c_isTurnedG h0 (by omega) mg' f13' (fun hu => ?_) (fun hu => ?_)
          · rw [if_pos ⟨hu, ht⟩] at ih
            exact ih
          · rw [if_neg (fun q => hu q.1), Int.add_zero] at ih
            exact ih
  rw [bs_pm_0] at key
  exact key
