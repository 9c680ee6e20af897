/-! ===== days: lines that open and close ===== -/
def bs_nst (ki pa : Int → Int) (n dp : Int) (st : Int → Int) : Prop :=
  (0 ≤ dp ∧ dp ≤ 3) ∧
  (∀ i, 0 ≤ i → i < dp → (0 ≤ st i ∧ st i < n) ∧ bs_op (ki (st i)) ∧ pa (st i) = -1) ∧
  (∀ i j, 0 ≤ i → i < j → j < dp → st i < st j) ∧
  (∀ o, 0 ≤ o → o < n → bs_op (ki o) → (pa o = -1 ∧ ∃ i, 0 ≤ i ∧ i < dp ∧ st i = o) ∨ (o < pa o ∧ pa o < n ∧ ki (pa o) = 25 ∧ pa (pa o) = o)) ∧
  (∀ e, 0 ≤ e → e < n → ki e = 25 → 0 ≤ pa e ∧ pa e < e ∧ bs_op (ki (pa e)) ∧ pa (pa e) = e) ∧
  (∀ o k, 0 ≤ o → o < k → k < pa o → pa o < n → bs_op (ki o) → bs_op (ki k) → pa k ≠ -1 ∧ pa k < pa o) ∧
  (∀ k, 0 ≤ k → k ≤ n → (∀ i, k ≤ i → i < n → ki i = 25) → n - k + dp ≤ 3) ∧
  (∀ k, 0 ≤ k → k + 3 < n → ¬ (ki k = 25 ∧ ki (k + 1) = 25 ∧ ki (k + 2) = 25 ∧ ki (k + 3) = 25))
theorem bs_op25 {x : Int} (h : bs_op x) : x ≠ 25 := by unfold bs_op at h; omega
theorem bs_nst_0 (ki pa st : Int → Int) : bs_nst ki pa 0 0 st := ⟨by decide, fun i i0 i1 => absurd i1 (by omega), fun i j i0 ij j1 => absurd j1 (by omega), fun o o0 o1 => absurd o1 (by omega), fun o o0 o1 => absurd o1 (by omega), fun o k o0 ok kp pn => absurd pn (by omega), fun k k0 k1 _ => by omega, fun k k0 k1 => absurd k1 (by omega)⟩
theorem bs_nst_n {ki pa st : Int → Int} {n dp x : Int} (n0 : 0 ≤ n) (h : bs_nst ki pa n dp st) (x25 : x ≠ 25) :
    (∀ e, 0 ≤ e → e < n + 1 → bc_set ki n x e = 25 → 0 ≤ bc_set pa n (-1) e ∧ bc_set pa n (-1) e < e ∧ bs_op (bc_set ki n x (bc_set pa n (-1) e)) ∧ bc_set pa n (-1) (bc_set pa n (-1) e) = e) ∧
    (∀ o k, 0 ≤ o → o < k → k < bc_set pa n (-1) o → bc_set pa n (-1) o < n + 1 → bs_op (bc_set ki n x o) → bs_op (bc_set ki n x k) → bc_set pa n (-1) k ≠ -1 ∧ bc_set pa n (-1) k < bc_set pa n (-1) o) ∧
    (∀ k, 0 ≤ k → k ≤ n → ¬ ∀ i, k ≤ i → i < n + 1 → bc_set ki n x i = 25) ∧
    (∀ k, 0 ≤ k → k + 3 < n + 1 → ¬ (bc_set ki n x k = 25 ∧ bc_set ki n x (k + 1) = 25 ∧ bc_set ki n x (k + 2) = 25 ∧ bc_set ki n x (k + 3) = 25)) ∧
    (∀ o, 0 ≤ o → o < n → bs_op (bc_set ki n x o) → (bc_set pa n (-1) o = -1 ∧ ∃ i, 0 ≤ i ∧ i < dp ∧ st i = o) ∨ (o < bc_set pa n (-1) o ∧ bc_set pa n (-1) o < n + 1 ∧ bc_set ki n x (bc_set pa n (-1) o) = 25 ∧ bc_set pa n (-1) (bc_set pa n (-1) o) = o)) ∧
    (∀ i, 0 ≤ i → i < dp → (0 ≤ st i ∧ st i < n + 1) ∧ bs_op (bc_set ki n x (st i)) ∧ bc_set pa n (-1) (st i) = -1) := by
  obtain ⟨a1, a2, a3, a4, a5, a6, a7, a8⟩ := h
  have kj : ∀ j, j < n → bc_set ki n x j = ki j := fun j hj => bc_setn (by omega)
  have pj : ∀ j, j < n → bc_set pa n (-1) j = pa j := fun j hj => bc_setn (by omega)
  have kn : bc_set ki n x n = x := bc_setj _ _ _
  have pn : bc_set pa n (-1) n = -1 := bc_setj _ _ _
  refine ⟨fun e e0 e1 he => ?_, fun o k o0 ok kp po ho hk => ?_, fun k k0 k1 hk => ?_, fun k k0 k1 hk => ?_, fun o o0 o1 ho => ?_, fun i i0 i1 => ?_⟩
  · by_cases q : e = n
    · rw [q, kn] at he; exact absurd he x25
    · have e1' : e < n := by omega
      rw [kj e e1'] at he
      obtain ⟨u1, u2, u3, u4⟩ := a5 e e0 e1' he
      rw [pj e e1', kj _ (by omega), pj _ (by omega)]
      exact ⟨u1, u2, u3, u4⟩
  · have o1 : o < n := by
      by_cases q : o = n
      · rw [q, pn] at kp; omega
      · by_cases q2 : n < o
        · omega
        · omega
    rw [pj o o1] at kp po ⊢
    rw [kj o o1] at ho
    have pb : pa o < n := by
      rcases a4 o o0 o1 ho with u | u
      · omega
      · exact u.2.1
    have k1 : k < n := by omega
    rw [kj k k1] at hk
    rw [pj k k1]
    exact a6 o k o0 ok kp pb ho hk
  · have := hk n k1 (by omega)
    rw [kn] at this; exact x25 this
  · by_cases q : k + 3 = n
    · have := hk.2.2.2
      rw [q, kn] at this; exact x25 this
    · rw [kj k (by omega), kj (k + 1) (by omega), kj (k + 2) (by omega), kj (k + 3) (by omega)] at hk
      exact a8 k k0 (by omega) hk
  · rw [kj o o1] at ho
    rw [pj o o1]
    rcases a4 o o0 o1 ho with u | ⟨u1, u2, u3, u4⟩
    · exact Or.inl u
    · exact Or.inr ⟨u1, by omega, by rw [kj _ u2]; exact u3, by rw [pj _ u2]; exact u4⟩
  · obtain ⟨⟨b1, b2⟩, b3, b4⟩ := a2 i i0 i1
    rw [kj _ b2, pj _ b2]
    exact ⟨⟨b1, by omega⟩, b3, b4⟩
theorem bs_nst_no {ki pa st : Int → Int} {n dp x : Int} (n0 : 0 ≤ n) (h : bs_nst ki pa n dp st) (x25 : x ≠ 25) (nx : ¬ bs_op x) : bs_nst (bc_set ki n x) (bc_set pa n (-1)) (n + 1) dp st := by
  obtain ⟨b5, b6, b7, b8, b4, b2⟩ := bs_nst_n n0 h x25
  refine ⟨h.1, b2, h.2.2.1, fun o o0 o1 ho => ?_, b5, b6, fun k k0 k1 hk => ?_, b8⟩
  · by_cases q : o = n
    · rw [q, bc_setj] at ho; exact absurd ho nx
    · exact b4 o o0 (by omega) ho
  · by_cases q : k = n + 1
    · have := h.1.2; omega
    · exact absurd hk (b7 k k0 (by omega))
theorem bs_nst_op {ki pa st : Int → Int} {n dp x : Int} (n0 : 0 ≤ n) (h : bs_nst ki pa n dp st) (hx : bs_op x) (d3 : dp < 3) : bs_nst (bc_set ki n x) (bc_set pa n (-1)) (n + 1) (dp + 1) (bc_set st dp n) := by
  obtain ⟨b5, b6, b7, b8, b4, b2⟩ := bs_nst_n n0 h (bs_op25 hx)
  have a1 := h.1
  have sj : ∀ i, i < dp → bc_set st dp n i = st i := fun i hi => bc_setn (by omega)
  have sd : bc_set st dp n dp = n := bc_setj _ _ _
  refine ⟨by omega, fun i i0 i1 => ?_, fun i j i0 ij j1 => ?_, fun o o0 o1 ho => ?_, b5, b6, fun k k0 k1 hk => ?_, b8⟩
  · by_cases q : i = dp
    · rw [q, sd, bc_setj, bc_setj]; exact ⟨by omega, hx, rfl⟩
    · rw [sj i (by omega)]; exact b2 i i0 (by omega)
  · rw [sj i (by omega)]
    by_cases q : j = dp
    · rw [q, sd]; exact (h.2.1 i i0 (by omega)).1.2
    · rw [sj j (by omega)]; exact h.2.2.1 i j i0 ij (by omega)
  · by_cases q : o = n
    · rw [q, bc_setj]; exact Or.inl ⟨rfl, dp, a1.1, by omega, sd⟩
    · rcases b4 o o0 (by omega) ho with ⟨u, i, i0, i1, e⟩ | u
      · exact Or.inl ⟨u, i, i0, by omega, by rw [sj i i1]; exact e⟩
      · exact Or.inr u
  · by_cases q : k = n + 1
    · omega
    · exact absurd hk (b7 k k0 (by omega))
theorem bs_nst_end {ki pa st : Int → Int} {n dp : Int} (n0 : 0 ≤ n) (h : bs_nst ki pa n dp st) (d0 : 0 < dp) : bs_nst (bc_set ki n 25) (bc_set (bc_set (bc_set pa n (-1)) (st (dp - 1)) n) n (st (dp - 1))) (n + 1) (dp - 1) st := by
  obtain ⟨a1, a2, a3, a4, a5, a6, a7, a8⟩ := h
  obtain ⟨⟨o0, o1⟩, o2, o3⟩ := a2 (dp - 1) (by omega) (by omega)
  have top : ∀ i, 0 ≤ i → i < dp - 1 → st i < st (dp - 1) := fun i i0 i1 => a3 i (dp - 1) i0 i1 (by omega)
  obtain ⟨o, ho⟩ : ∃ o, st (dp - 1) = o := ⟨_, rfl⟩
  rw [ho] at o0 o1 o2 o3 top ⊢
  have kj : ∀ j, j < n → bc_set ki n 25 j = ki j := fun j hj => bc_setn (by omega)
  have kn : bc_set ki n 25 n = 25 := bc_setj _ _ _
  have pj : ∀ j, j < n → j ≠ o → bc_set (bc_set (bc_set pa n (-1)) o n) n o j = pa j := fun j hj hj2 => by rw [bc_setn (by omega), bc_setn hj2, bc_setn (by omega)]
  have po : bc_set (bc_set (bc_set pa n (-1)) o n) n o o = n := by rw [bc_setn (by omega), bc_setj]
  have pn : bc_set (bc_set (bc_set pa n (-1)) o n) n o n = o := bc_setj _ _ _
  have onk : ∀ k, o < k → k < n → bs_op (ki k) → k < pa k ∧ pa k < n ∧ ki (pa k) = 25 ∧ pa (pa k) = k := fun k k0 k1 hk => by
    rcases a4 k (by omega) k1 hk with ⟨_, i, i0, i1, e⟩ | u
    · exfalso
      by_cases q : i = dp - 1
      · rw [q, ho] at e; omega
      · have := top i i0 (by omega); omega
    · exact u
  have nop : ∀ x : Int, x = 25 → ¬ bs_op x := fun x hx u => bs_op25 u hx
  refine ⟨by omega, fun i i0 i1 => ?_, fun i j i0 ij j1 => a3 i j i0 ij (by omega), fun u u0 u1 hu => ?_, fun e e0 e1 he => ?_, fun u k u0 uk kp pu hu hk => ?_, fun k k0 k1 hk => ?_, fun k k0 k1 hk => ?_⟩
  · obtain ⟨⟨b1, b2⟩, b3, b4⟩ := a2 i i0 (by omega)
    have t := top i i0 i1
    rw [kj _ b2, pj _ b2 (by omega)]
    exact ⟨⟨b1, by omega⟩, b3, b4⟩
  · by_cases q : u = n
    · rw [q, kn] at hu; exact absurd hu (nop 25 rfl)
    · have u1' : u < n := by omega
      rw [kj u u1'] at hu
      by_cases q2 : u = o
      · rw [q2, po, kn, pn]; exact Or.inr ⟨o1, by omega, rfl, rfl⟩
      · rw [pj u u1' q2]
        rcases a4 u u0 u1' hu with ⟨v, i, i0, i1, e⟩ | ⟨v1, v2, v3, v4⟩
        · refine Or.inl ⟨v, i, i0, ?_, e⟩
          by_cases q3 : i = dp - 1
          · rw [q3, ho] at e; exact absurd e.symm q2
          · omega
        · have ne : pa u ≠ o := fun w => by rw [w] at v3; exact nop _ v3 o2
          exact Or.inr ⟨v1, by omega, by rw [kj _ v2]; exact v3, by rw [pj _ v2 ne]; exact v4⟩
  · by_cases q : e = n
    · rw [q, pn, po, kj o o1]; exact ⟨o0, o1, o2, rfl⟩
    · have e1' : e < n := by omega
      rw [kj e e1'] at he
      have ne : e ≠ o := fun w => by rw [w] at he; exact nop _ he o2
      obtain ⟨v1, v2, v3, v4⟩ := a5 e e0 e1' he
      have ne2 : pa e ≠ o := fun w => by rw [w, o3] at v4; omega
      rw [pj e e1' ne, kj _ (by omega), pj _ (by omega) ne2]
      exact ⟨v1, v2, v3, v4⟩
  · have u1' : u < n := by
      by_cases q : u = n
      · rw [q, kn] at hu; exact absurd hu (nop 25 rfl)
      · by_cases q2 : n < u
        · omega
        · omega
    rw [kj u u1'] at hu
    by_cases q2 : u = o
    · rw [q2] at uk kp ⊢
      rw [po] at kp ⊢
      rw [kj k kp] at hk
      have v := onk k uk kp hk
      rw [pj k kp (by omega)]
      exact ⟨by omega, v.2.1⟩
    · rw [pj u u1' q2] at kp pu ⊢
      have pb : pa u < n := by
        rcases a4 u u0 u1' hu with v | v
        · omega
        · exact v.2.1
      have k1 : k < n := by omega
      rw [kj k k1] at hk
      have v := a6 u k u0 uk kp pb hu hk
      have ne : k ≠ o := fun w => by rw [w] at v; exact v.1 o3
      rw [pj k k1 ne]
      exact v
  · by_cases q : k = n + 1
    · omega
    · have := a7 k k0 (by omega) (fun i i0 i1 => by have := hk i i0 (by omega); rw [kj i i1] at this; exact this)
      omega
  · by_cases q : k + 3 = n
    · have h3 := a7 k k0 (by omega) (fun i i0 i1 => by
        rw [kj k (by omega), kj (k + 1) (by omega), kj (k + 2) (by omega)] at hk
        by_cases w0 : i = k
        · rw [w0]; exact hk.1
        · by_cases w1 : i = k + 1
          · rw [w1]; exact hk.2.1
          · rw [show i = k + 2 by omega]; exact hk.2.2.1)
      omega
    · rw [kj k (by omega), kj (k + 1) (by omega), kj (k + 2) (by omega), kj (k + 3) (by omega)] at hk
      exact a8 k k0 (by omega) hk
theorem bs_nst_nest {ki pa st : Int → Int} {n : Int} (h : bs_nst ki pa n 0 st) : bs_nest ki pa n := by
  obtain ⟨a1, a2, a3, a4, a5, a6, a7, a8⟩ := h
  refine ⟨fun o o0 o1 ho => ?_, a5, fun o k o0 ok kp pn ho hk => (a6 o k o0 ok kp pn ho hk).2, a8⟩
  rcases a4 o o0 o1 ho with ⟨_, i, i0, i1, _⟩ | u
  · omega
  · exact u
