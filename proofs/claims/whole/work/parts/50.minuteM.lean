/-! ===== a minute goes by, in the reference ===== -/
def bs_lk (B : Int → Int) (v be p n : Int) : Int → Int := fun k => if 54 + 8 * v + 3 ≤ k ∧ k < 54 + 8 * v + 3 + n then bs_chg (B k) (k - (54 + 8 * v + 3)) be p else B k
theorem bs_lk_n {B : Int → Int} {v be p n k : Int} (q : k < 54 + 8 * v + 3 ∨ 54 + 8 * v + 3 + n ≤ k) : bs_lk B v be p n k = B k := by unfold bs_lk; rw [if_neg (by omega)]
theorem bs_lk_0 (B : Int → Int) (v be p : Int) : bs_lk B v be p 0 = B := by funext k; exact bs_lk_n (by omega)
theorem bs_lk_s {B : Int → Int} {v be p n : Int} (hn : 0 ≤ n) : bc_set (bs_lk B v be p n) (54 + 8 * v + 3 + n) (bs_chg (B (54 + 8 * v + 3 + n)) n be p) = bs_lk B v be p (n + 1) := by
  funext k
  unfold bc_set bs_lk
  by_cases q : k = 54 + 8 * v + 3 + n
  · rw [if_pos q, if_pos (by omega), q, show 54 + 8 * v + 3 + n - (54 + 8 * v + 3) = n by omega]
  · rw [if_neg q]
    by_cases q2 : 54 + 8 * v + 3 ≤ k ∧ k < 54 + 8 * v + 3 + n
    · rw [if_pos q2, if_pos (by omega)]
    · rw [if_neg q2, if_neg (by omega)]
theorem bc_m_looksAt {d : Nat} {v w : Int} {h : bc_H} {B : Int → Int} {K : bc_H → Prop} (h0 : 0 ≤ v) (h6 : v < 6) (hb : 0 ≤ B 0 ∧ B 0 ≤ 5) (hw : w = -1 ∨ (0 ≤ w ∧ w < 7 ∧ -1 ≤ B (10 + 2 * w) ∧ (B (10 + 2 * w) ≠ -1 → 0 ≤ B (10 + 2 * w + 1) ∧ B (10 + 2 * w + 1) ≤ 9))) (hm : ∀ b, 0 ≤ b → b < 5 → 0 ≤ B (54 + 8 * v + 3 + b) ∧ B (54 + 8 * v + 3 + b) ≤ 99) (hK : K (bc_row h 157 (bs_lk B v (if w = -1 then -1 else B (10 + 2 * w)) (B (10 + 2 * w + 1)) (B 0)))) : bf_M_looksAt (d + 2) v w (bc_row h 157 B) (bc_U K) := by
  have key : ∀ be, be = (if w = -1 then -1 else B (10 + 2 * w)) → bl_M_looksAt_12 (d + 2) v w be 0 (bc_row h 157 (bs_lk B v be (B (10 + 2 * w + 1)) 0)) (bc_U K) := by
    intro be ebe
    refine bc_lup (P := fun i => bl_M_looksAt_12 (d + 2) v w be i (bc_row h 157 (bs_lk B v be (B (10 + 2 * w + 1)) i)) (bc_U K)) (n := B 0) ?_ (fun i i0 hi ih => ?_) (Int.le_refl 0) hb.1
    · refine rv_M_looksAt_12 ⟨fun _ => ?_, fun q => absurd q (by rw [bs_rr, bs_lk_n (by omega)]; omega)⟩
      rw [ebe]; exact hK
    · have hmi := hm i i0 (by omega)
      rw [← bs_lk_s i0, ← bc_ru] at ih
      refine rv_M_looksAt_12 ⟨fun q => absurd q (by rw [bs_rr, bs_lk_n (by omega)]; omega), fun _ => ⟨fun q => ?_, fun q => ?_⟩⟩
      · simp (disch := omega) only [bc_wi]
        rw [bs_rr, bs_lk_n (by omega)]
        rw [bc_wi (x := B (54 + 8 * v + 3 + i) - 1) (by omega) (by omega)]
        refine ⟨by omega, by omega, fun hz ez => ?_⟩
        rw [ez]
        have e : bs_chg (B (54 + 8 * v + 3 + i)) i be (B (10 + 2 * w + 1)) = (if 0 < B (54 + 8 * v + 3 + i) - 1 then B (54 + 8 * v + 3 + i) - 1 else 0) := by
          unfold bs_chg bs_dn; rw [if_neg q]; split <;> split <;> omega
        rw [e] at ih; exact ih
      · have hw2 : w ≠ -1 := fun z => by rw [if_pos z] at ebe; omega
        rw [if_neg hw2] at ebe
        have hw3 := hw.resolve_left hw2
        have hw4 := hw3.2.2.2 (by omega)
        simp (disch := omega) only [bc_wi]
        rw [bs_rr, bs_lk_n (by omega), bs_lk_n (by omega)]
        rw [bc_wi (x := B (54 + 8 * v + 3 + i) + B (10 + 2 * w + 1)) (by omega) (by omega)]
        refine ⟨by omega, by omega, by omega, fun hz ez => ?_⟩
        rw [ez]
        have e : bs_chg (B (54 + 8 * v + 3 + i)) i be (B (10 + 2 * w + 1)) = (if B (54 + 8 * v + 3 + i) + B (10 + 2 * w + 1) < 99 then B (54 + 8 * v + 3 + i) + B (10 + 2 * w + 1) else 99) := by
          unfold bs_chg bs_up; rw [if_pos q]
        rw [e] at ih; exact ih
  refine rv_M_looksAt ⟨fun q => ?_, fun q => ?_⟩
  · have hw3 := hw.resolve_left q
    simp (disch := omega) only [bc_wi, Int.add_zero]
    rw [bs_rr]
    refine ⟨by omega, ?_⟩
    have := key (B (10 + 2 * w)) (by rw [if_neg q])
    rw [bs_lk_0] at this
    exact this
  · have := key (-1) (by rw [if_pos q])
    rw [bs_lk_0] at this
    exact this
/-- the first visitors' minute is over -/
def bs_pr (A : Int → Int) (v : Int) : Int → Int := fun k => if 54 ≤ k ∧ k < 54 + 8 * v then bs_pass A k else A k
theorem bs_pr_0 (A : Int → Int) : bs_pr A 0 = A := by funext k; unfold bs_pr; rw [if_neg (by omega)]
theorem bs_pr_n {A : Int → Int} {v k : Int} (q : k < 54 ∨ 54 + 8 * v ≤ k) : bs_pr A v k = A k := by unfold bs_pr; rw [if_neg (by omega)]
theorem bs_pr_end {A : Int → Int} : bc_set (bc_set (bs_pr A (A 2)) 4 (bs_pass A 4)) 6 (bs_pass A 6) = bs_pass A := by
  funext k
  unfold bc_set bs_pr
  by_cases q6 : k = 6
  · rw [if_pos q6, q6]
  · rw [if_neg q6]
    by_cases q4 : k = 4
    · rw [if_pos q4, q4]
    · rw [if_neg q4]
      by_cases q : 54 ≤ k ∧ k < 54 + 8 * A 2
      · rw [if_pos q]
      · rw [if_neg q]
        unfold bs_pass
        rw [if_neg q4, if_neg q6, if_neg q]
/-- one visitor's minute -/
theorem bs_pr_s {A : Int → Int} {v be p x : Int} (hW : bs_W A) (h0 : 0 ≤ v) (h : v < A 2) (hbe : be = bs_mb A v) (hp : be = -1 ∨ p = A (10 + 2 * A (54 + 8 * v + 1) + 1)) (hx : x = bs_pass A (54 + 8 * v + 2)) : bs_lk (bc_set (bs_pr A v) (54 + 8 * v + 2) x) v be p (A 0) = bs_pr A (v + 1) := by
  have hb := hW.1.1
  funext k
  by_cases q : k = 54 + 8 * v + 2
  · rw [bs_lk_n (by omega), q, bc_setj, hx]
    unfold bs_pr; rw [if_pos (by omega)]
  · by_cases q2 : 54 + 8 * v + 3 ≤ k ∧ k < 54 + 8 * v + 3 + A 0
    · have e : k = 54 + 8 * v + (3 + (k - (54 + 8 * v + 3))) := by omega
      unfold bs_lk
      rw [if_pos q2, bc_setn q, bs_pr_n (by omega)]
      unfold bs_pr
      rw [if_pos (by omega)]
      have t := bs_pass_ms (A := A) (v := v) (b := k - (54 + 8 * v + 3)) h0 h (by omega) (by omega)
      rw [← e, if_pos (by omega)] at t
      rw [t, hbe]
      refine bs_chg_n ?_
      rcases hp with hp | hp
      · exact Or.inl (by omega)
      · exact Or.inr hp
    · unfold bs_lk
      rw [if_neg q2, bc_setn q]
      unfold bs_pr
      by_cases q3 : 54 ≤ k ∧ k < 54 + 8 * v
      · rw [if_pos q3, if_pos (by omega)]
      · rw [if_neg q3]
        by_cases q4 : 54 ≤ k ∧ k < 54 + 8 * (v + 1)
        · rw [if_pos q4]
          have e : k = 54 + 8 * v ∨ k = 54 + 8 * v + 1 ∨ (A 0 ≤ k - (54 + 8 * v + 3) ∧ k - (54 + 8 * v + 3) < 5) := by omega
          rcases e with e | e | e
          · rw [e, bs_pass_se h0 h]
          · rw [e, bs_pass_at h0 h]
          · have t := bs_pass_ms (A := A) (v := v) (b := k - (54 + 8 * v + 3)) h0 h (by omega) (by omega)
            rw [show 54 + 8 * v + (3 + (k - (54 + 8 * v + 3))) = k by omega, if_neg (by omega)] at t
            rw [t]
        · rw [if_neg q4]
theorem bc_setself {A : Int → Int} {k x : Int} (e : x = A k) : bc_set A k x = A := by
  funext b; unfold bc_set
  split
  · rename_i q; rw [q, e]
  · rfl
theorem bc_m_minuteGoes {d : Nat} {h : bc_H} {A : Int → Int} {K : Int → bc_H → Prop} (hW : bs_W A) (h6 : 0 ≤ A 6 ∧ A 6 ≤ 1000000) (hK : K (bs_new A) (bc_row h 157 (bs_pass A))) : bf_M_minuteGoes (d + 6) (bc_row h 157 A) (bc_I K) := by
  have hn := hW.1
  refine rv_M_minuteGoes (d := d + 4) ?_
  refine bc_m_visitorsThat0 (d := d) (bs_rr h 157 A) hW ?_
  have key : bl_M_minuteGoes_6 (d + 6) (bs_bset (bs_turned A) (A 2)) 0 (bc_row h 157 (bs_pr A 0)) (bc_I K) := by
    refine bc_lup (P := fun i => bl_M_minuteGoes_6 (d + 6) (bs_bset (bs_turned A) (A 2)) i (bc_row h 157 (bs_pr A i)) (bc_I K)) (n := A 2) ?_ (fun i i0 hi ih => ?_) (Int.le_refl 0) hn.2.2.1.1
    · refine rv_M_minuteGoes_6 (d := d + 4) ⟨fun _ => ?_, fun q => absurd q (by rw [bs_rr, bs_pr_n (by omega)]; omega)⟩
      have e2 : bs_pass A 2 = A 2 := bs_pass_lo (by decide) (by decide) (by decide)
      rw [bc_ru, bc_ru, bs_rr, bs_pr_n (by omega), bs_pr_n (by omega), bc_wi (by omega) (by omega), bc_wi (by omega) (by omega)]
      rw [show (if 0 < A 4 - 1 then A 4 - 1 else 0) = bs_pass A 4 by rw [bs_pass_4]; split <;> split <;> omega, ← bs_pass_6 A, bs_pr_end]
      refine bc_m_visitorsThat0 (d := d) (bs_rr h 157 _) (bs_W_pass hW) ?_
      rw [e2, bs_dif_bset (bs_turned A) (bs_turned (bs_pass A)) hn.2.2.1.1 hn.2.2.1.2]
      have hr := bs_bset_ge (fun v => bs_turned (bs_pass A) v ∧ ¬ bs_turned A v) (n := A 2) hn.2.2.1.1 (by omega)
      refine bc_m_bits hr.1 hr.2 ?_
      rw [bs_pc_bset _ hn.2.2.1.1 (by omega)]
      exact hK
    · have hV := hW.2.2.2.1 i i0 hi
      have hp := hW.2.1 _ hV.2.1.1 hV.2.1.2
      have fms : ∀ x b, 0 ≤ b → b < 5 → 0 ≤ bc_set (bs_pr A i) (54 + 8 * i + 2) x (54 + 8 * i + 3 + b) ∧ bc_set (bs_pr A i) (54 + 8 * i + 2) x (54 + 8 * i + 3 + b) ≤ 99 := fun x b b0 b5 => by
        rw [bc_setn (by omega), bs_pr_n (by omega), show 54 + 8 * i + 3 + b = 54 + 8 * i + (3 + b) by omega]
        exact (hV.2.2.2 b b0 b5).1
      have fz : ∀ x, bc_set (bs_pr A i) (54 + 8 * i + 2) x 0 = A 0 := fun x => by rw [bc_setn (by omega), bs_pr_n (by omega)]
      have fs : A (54 + 8 * i + 2) = 0 → bs_pr A i = bc_set (bs_pr A i) (54 + 8 * i + 2) (A (54 + 8 * i + 2)) := fun _ => (bc_setself (by rw [bs_pr_n (by omega)])).symm
      refine rv_M_minuteGoes_6 (d := d + 4) ⟨fun q => absurd q (by rw [bs_rr, bs_pr_n (by omega)]; omega), fun _ => ?_⟩
      simp (disch := omega) only [bc_wi]
      rw [bs_rr, bs_pr_n (by omega), bs_pr_n (by omega), bs_pr_n (by omega)]
      refine ⟨by omega, fun z => ⟨by omega, by omega, fun hz ez => ?_⟩, fun z => ⟨fun zl => ⟨by omega, ?_⟩, fun zl => ?_⟩⟩
      · rw [bc_wi (by omega) (by omega), bc_ru] at ez
        rw [ez]
        refine bc_m_looksAt (d := d + 3) i0 (by omega) (by rw [fz]; exact hn.1) (Or.inl rfl) (fms _) ?_
        rw [if_pos rfl, fz, bs_pr_s hW i0 hi (by unfold bs_mb; rw [if_neg (by omega)]) (Or.inl rfl) (by rw [bs_pass_go i0 hi, if_pos z])]
        exact ih
      · have z0 : A (54 + 8 * i + 2) = 0 := by omega
        rw [fs z0]
        have fa : bc_set (bs_pr A i) (54 + 8 * i + 2) (A (54 + 8 * i + 2)) (10 + 2 * A (54 + 8 * i + 1)) = A (10 + 2 * A (54 + 8 * i + 1)) := by rw [bc_setn (by omega), bs_pr_n (by omega)]
        have fb : bc_set (bs_pr A i) (54 + 8 * i + 2) (A (54 + 8 * i + 2)) (10 + 2 * A (54 + 8 * i + 1) + 1) = A (10 + 2 * A (54 + 8 * i + 1) + 1) := by rw [bc_setn (by omega), bs_pr_n (by omega)]
        refine bc_m_looksAt (d := d + 3) i0 (by omega) (by rw [fz]; exact hn.1) (Or.inr ⟨by omega, by omega, by rw [fa]; omega, by rw [fa, fb]; omega⟩) (fms _) ?_
        rw [if_neg (by omega), fz, fa, fb, bs_pr_s hW i0 hi (by unfold bs_mb; rw [if_pos ⟨z0, by omega⟩]) (Or.inr rfl) (by rw [bs_pass_go i0 hi, if_neg z, z0])]
        exact ih
      · have z0 : A (54 + 8 * i + 2) = 0 := by omega
        rw [fs z0]
        refine bc_m_looksAt (d := d + 3) i0 (by omega) (by rw [fz]; exact hn.1) (Or.inl rfl) (fms _) ?_
        rw [if_pos rfl, fz, bs_pr_s hW i0 hi (by unfold bs_mb; rw [if_neg (by omega)]) (Or.inl rfl) (by rw [bs_pass_go i0 hi, if_neg z, z0])]
        exact ih
  rw [bs_pr_0] at key
  exact key
/-- so many minutes -/
def bs_passN (A : Int → Int) (n : Int) : Int → Int := bc_it (fun _ B => bs_pass B) A n
theorem bs_passN_0 (A : Int → Int) : bs_passN A 0 = A := rfl
theorem bs_passN_s (A : Int → Int) {n : Int} (h : 0 ≤ n) : bs_passN A (n + 1) = bs_pass (bs_passN A n) := bc_its _ _ h
theorem bs_passN_p {A : Int → Int} (hW : bs_W A) {n : Int} (hn : 0 ≤ n) : bs_W (bs_passN A n) ∧ bs_passN A n 6 = A 6 + n ∧ (∀ k, k < 54 → k ≠ 4 → k ≠ 6 → bs_passN A n k = A k) ∧ (∀ k, 54 + 8 * A 2 ≤ k → bs_passN A n k = A k) := by
  refine bc_it_ind (fun n B => bs_W B ∧ B 6 = A 6 + n ∧ (∀ k, k < 54 → k ≠ 4 → k ≠ 6 → B k = A k) ∧ (∀ k, 54 + 8 * A 2 ≤ k → B k = A k)) ⟨hW, by omega, fun _ _ _ _ => rfl, fun _ _ => rfl⟩ (fun i B i0 ih => ?_) hn
  obtain ⟨h1, h2, h3, h4⟩ := ih
  have e2 := h3 2 (by decide) (by decide) (by decide)
  have w2 := hW.1.2.2.1
  refine ⟨bs_W_pass h1, by rw [bs_pass_6, h2]; omega, fun k a b c => by rw [bs_pass_lo a b c]; exact h3 k a b c, fun k a => by rw [bs_pass_hi (by omega) (by rw [e2]; exact a)]; exact h4 k a⟩
def bs_newN (A : Int → Int) (n : Int) : Int := bc_it (fun k s => s + bs_new (bs_passN A k)) 0 n
theorem bs_newN_s (A : Int → Int) {n : Int} (h : 0 ≤ n) : bs_newN A (n + 1) = bs_newN A n + bs_new (bs_passN A n) := bc_its _ _ h
theorem bs_new_le {A : Int → Int} (hW : bs_W A) : 0 ≤ bs_new A ∧ bs_new A ≤ 6 := by
  have := hW.1.2.2.1
  have t := bs_cnt_le (fun v => bs_turned (bs_pass A) v ∧ ¬ bs_turned A v) this.1
  unfold bs_new
  omega
theorem bs_newN_le {A : Int → Int} (hW : bs_W A) {n : Int} (hn : 0 ≤ n) : 0 ≤ bs_newN A n ∧ bs_newN A n ≤ 6 * n := by
  refine bc_it_ind (fun n x => 0 ≤ x ∧ x ≤ 6 * n) (by omega) (fun i x i0 ih => ?_) hn
  have := bs_new_le (bs_passN_p hW i0).1
  omega
theorem bc_m_minutesGo {d : Nat} {n : Int} {h : bc_H} {A : Int → Int} {K : Int → bc_H → Prop} (hW : bs_W A) (h6 : 0 ≤ A 6 ∧ A 6 ≤ 100000) (hn : 0 ≤ n) (hn2 : n ≤ 1000) (hK : K (bs_newN A n) (bc_row h 157 (bs_passN A n))) : bf_M_minutesGo (d + 7) n (bc_row h 157 A) (bc_I K) := by
  refine rv_M_minutesGo (d := d + 6) ?_
  refine bc_lup (P := fun i => bl_M_minutesGo_4 (d + 7) n (bs_newN A i) i (bc_row h 157 (bs_passN A i)) (bc_I K)) (n := n) ?_ (fun i i0 hi ih => ?_) (Int.le_refl 0) hn
  · exact rv_M_minutesGo_4 (d := d + 6) ⟨fun _ => hK, fun q => absurd q (by omega)⟩
  · refine rv_M_minutesGo_4 (d := d + 6) ⟨fun q => absurd q (by omega), fun _ => ?_⟩
    have hp := bs_passN_p hW i0
    have hl := bs_newN_le hW i0
    have hl2 := bs_new_le hp.1
    refine bc_m_minuteGoes (d := d) hp.1 (by omega) ?_
    rw [bc_wi (by omega) (by omega), bc_wi (by omega) (by omega), ← bs_newN_s A i0, ← bs_passN_s A i0]
    exact ih
