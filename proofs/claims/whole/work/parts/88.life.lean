/-! ===== days lived: the pure course ===== -/
def bs_dl (A g : Int → Int) (v w : Int) : (Int → Int) × (Int → Int) := if ¬ bs_turned A v ∧ A (54 + 8 * v + 2) = 0 ∧ bs_way A (A (54 + 8 * v + 1)) w < 1000000 then (bs_lead A v w, bc_set g 3 (g 3 + 1)) else (A, bc_set g 1 (g 1 + 1))
def bs_sd (s : Int) : Int := (bc_w32 ((bc_w32 (s * 3191)) + 11423)).tmod 65536
def bs_pk (s m : Int) : Int := (bc_w32 ((bs_sd s).tdiv 8)).tmod m
def bs_deed (B A g : Int → Int) (x : Int) : (Int → Int) × (Int → Int) :=
  if B (160 + 6 * x) = 16 then (if A 6 + B (160 + 6 * x + 1) ≤ 9999 then (bs_passN A (B (160 + 6 * x + 1)), bc_set (bc_set g 4 (g 4 + bs_newN A (B (160 + 6 * x + 1)))) 2 (g 2 + B (160 + 6 * x + 1))) else (A, bc_set g 1 (g 1 + 1)))
  else if B (160 + 6 * x) = 17 then bs_dl A g (B (160 + 6 * x + 1)) (B (160 + 6 * x + 2))
  else if B (160 + 6 * x) = 18 then (if bs_most A (B (160 + 6 * x + 1)) ≠ 0 then (bs_wake A (B (160 + 6 * x + 1)), g) else (A, bc_set g 1 (g 1 + 1)))
  else if B (160 + 6 * x) = 19 then (if A 4 + B (160 + 6 * x + 1) ≤ 999 then (bs_fill A (B (160 + 6 * x + 1)), g) else (A, bc_set g 1 (g 1 + 1)))
  else if B (160 + 6 * x) = 20 then (if A 2 = 0 then (A, bc_set g 1 (g 1 + 1)) else bs_dl A (bc_set g 8 (bs_sd (bs_sd (g 8)))) (bs_pk (g 8) (A 2)) (bs_pk (bs_sd (g 8)) (A 1)))
  else (A, g)
def bs_nxt (B A : Int → Int) (x : Int) : Int :=
  if B (160 + 6 * x) = 2125 then (if bs_turned A (B (160 + 6 * x + 1)) then x + 1 else B (160 + 6 * x + 4) + 1)
  else if B (160 + 6 * x) = 2113 then (if A (54 + 8 * B (160 + 6 * x + 1) + 1) = B (160 + 6 * x + 2) then x + 1 else B (160 + 6 * x + 4) + 1)
  else if B (160 + 6 * x) = 2126 then (if A 4 = 0 then x + 1 else B (160 + 6 * x + 4) + 1)
  else if B (160 + 6 * x) = 2112 then (if B (160 + 6 * x + 5) = 60 then (if bs_most A (B (160 + 6 * x + 1)) < B (160 + 6 * x + 2) then x + 1 else B (160 + 6 * x + 4) + 1)
    else if B (160 + 6 * x + 5) = 62 then (if B (160 + 6 * x + 2) < bs_most A (B (160 + 6 * x + 1)) then x + 1 else B (160 + 6 * x + 4) + 1)
    else (if bs_most A (B (160 + 6 * x + 1)) = B (160 + 6 * x + 2) then x + 1 else B (160 + 6 * x + 4) + 1))
  else x + 1
def bs_lR (B R : Int → Int) (x : Int) : Int → Int := if B (160 + 6 * x) = 22 then bc_set R x (B (160 + 6 * x + 1) - 1) else R
def bs_e1 (B R : Int → Int) (x : Int) : (Int → Int) × Int := if B (160 + 6 * B (160 + 6 * x + 4)) = 22 ∧ 0 < R (B (160 + 6 * x + 4)) then (bc_set R (B (160 + 6 * x + 4)) (R (B (160 + 6 * x + 4)) - 1), B (160 + 6 * x + 4) + 1) else (R, x + 1)
def bs_en (B : Int → Int) : Nat → (Int → Int) × Int → (Int → Int) × Int
  | 0, r => r
  | k + 1, r => if r.2 < B 8 ∧ B (160 + 6 * r.2) = 23 then bs_en B k (bs_e1 B r.1 r.2) else r
def bs_lf (B : Int → Int) : Nat → (Int → Int) → (Int → Int) → (Int → Int) → Int → (Int → Int) × (Int → Int) × (Int → Int)
  | 0, A, R, g, _ => (A, R, g)
  | k + 1, A, R, g, x => if B 8 ≤ x then (A, R, g) else if g 0 = 300 then (A, R, bc_set g 5 1) else if B (160 + 6 * x) = 24 then (A, R, bc_set g 0 (g 0 + 1))
    else bs_lf B k (bs_deed B A (bc_set g 0 (g 0 + 1)) x).1 (bs_en B 400 (bs_lR B R x, bs_nxt B A x)).1 (bs_deed B A (bc_set g 0 (g 0 + 1)) x).2 (bs_en B 400 (bs_lR B R x, bs_nxt B A x)).2
/-! what stays so -/
def bs_lA (B A : Int → Int) : Prop := bs_W A ∧ (0 ≤ A 6 ∧ A 6 ≤ 9999) ∧ (∀ k, k < 0 ∨ k = 8 ∨ 160 ≤ k → A k = B k) ∧ A 0 = B 0 ∧ A 1 = B 1 ∧ A 2 = B 2 ∧ A 3 = B 3
def bs_lg (g : Int → Int) : Prop := (0 ≤ g 0 ∧ g 0 ≤ 300) ∧ (0 ≤ g 1 ∧ g 1 ≤ g 0) ∧ (0 ≤ g 2 ∧ g 2 ≤ 60 * g 0) ∧ (0 ≤ g 3 ∧ g 3 ≤ g 0) ∧ (0 ≤ g 4 ∧ g 4 ≤ 360 * g 0) ∧ (0 ≤ g 8 ∧ g 8 < 65536)
/-- a step is counted, its deed isn't done -/
def bs_lgs (g : Int → Int) : Prop := (1 ≤ g 0 ∧ g 0 ≤ 300) ∧ (0 ≤ g 1 ∧ g 1 ≤ g 0 - 1) ∧ (0 ≤ g 2 ∧ g 2 ≤ 60 * (g 0 - 1)) ∧ (0 ≤ g 3 ∧ g 3 ≤ g 0 - 1) ∧ (0 ≤ g 4 ∧ g 4 ≤ 360 * (g 0 - 1)) ∧ (0 ≤ g 8 ∧ g 8 < 65536)
theorem bs_lgs_g {g : Int → Int} (h : bs_lgs g) : bs_lg g := by unfold bs_lgs at h; unfold bs_lg; omega
theorem bs_lg_s {g : Int → Int} (h : bs_lg g) (n : g 0 ≠ 300) : bs_lgs (bc_set g 0 (g 0 + 1)) := by
  unfold bs_lg at h; unfold bs_lgs
  rw [bc_setj, bc_setn (by decide), bc_setn (by decide), bc_setn (by decide), bc_setn (by decide), bc_setn (by decide)]
  omega
theorem bs_lg_m {g : Int → Int} (h : bs_lgs g) : bs_lg (bc_set g 1 (g 1 + 1)) := by
  unfold bs_lgs at h; unfold bs_lg
  rw [bc_setj, bc_setn (by decide), bc_setn (by decide), bc_setn (by decide), bc_setn (by decide), bc_setn (by decide)]
  omega
theorem bs_lg_l {g : Int → Int} (h : bs_lgs g) : bs_lg (bc_set g 3 (g 3 + 1)) := by
  unfold bs_lgs at h; unfold bs_lg
  rw [bc_setj, bc_setn (by decide), bc_setn (by decide), bc_setn (by decide), bc_setn (by decide), bc_setn (by decide)]
  omega
theorem bs_lg_t {g : Int → Int} {n a : Int} (h : bs_lgs g) (n0 : 0 ≤ n) (n1 : n ≤ 60) (a0 : 0 ≤ a) (a1 : a ≤ 6 * n) : bs_lg (bc_set (bc_set g 4 (g 4 + a)) 2 (g 2 + n)) := by
  unfold bs_lgs at h; unfold bs_lg
  rw [bc_setj, bc_setn (j := 2) (b := 0) (by decide), bc_setn (j := 2) (b := 1) (by decide), bc_setn (j := 2) (b := 3) (by decide), bc_setn (j := 2) (b := 4) (by decide), bc_setn (j := 2) (b := 8) (by decide), bc_setj, bc_setn (j := 4) (b := 0) (by decide), bc_setn (j := 4) (b := 1) (by decide), bc_setn (j := 4) (b := 3) (by decide), bc_setn (j := 4) (b := 8) (by decide)]
  omega
theorem bs_sd_r {s : Int} (h0 : 0 ≤ s) (h1 : s < 65536) : 0 ≤ bs_sd s ∧ bs_sd s < 65536 := by
  unfold bs_sd
  rw [bc_wi (x := s * 3191) (by omega) (by omega), bc_wi (x := s * 3191 + 11423) (by omega) (by omega), Int.tmod_eq_emod_of_nonneg (by omega)]
  omega
theorem bs_pk_r {s m : Int} (h0 : 0 ≤ s) (h1 : s < 65536) (m0 : 0 < m) : 0 ≤ bs_pk s m ∧ bs_pk s m < m := by
  have t := bs_sd_r h0 h1
  unfold bs_pk
  rw [Int.tdiv_eq_ediv_of_nonneg t.1, bc_wi (x := bs_sd s / 8) (by omega) (by omega), Int.tmod_eq_emod_of_nonneg (by omega)]
  exact ⟨Int.emod_nonneg _ (by omega), Int.emod_lt_of_pos _ m0⟩
theorem bs_lA_c {B A A' : Int → Int} (hA : bs_lA B A) (hW : bs_W A') (h6 : 0 ≤ A' 6 ∧ A' 6 ≤ 9999) (e : ∀ k, k < 4 ∨ k = 8 ∨ 160 ≤ k → A' k = A k) : bs_lA B A' := by
  obtain ⟨_, _, a3, a4, a5, a6, a7⟩ := hA
  exact ⟨hW, h6, fun k hk => by rw [e k (by omega)]; exact a3 k hk, by rw [e 0 (by omega)]; exact a4, by rw [e 1 (by omega)]; exact a5, by rw [e 2 (by omega)]; exact a6, by rw [e 3 (by omega)]; exact a7⟩
theorem bs_lA_l {B A : Int → Int} {v w : Int} (hA : bs_lA B A) (v0 : 0 ≤ v) (v1 : v < A 2) (w0 : 0 ≤ w) (w1 : w < A 1) (c : bs_can A v w) : bs_lA B (bs_lead A v w) := by
  have w2 := hA.1.1.2.2.1
  refine bs_lA_c hA (bs_W_lead hA.1 v0 v1 w0 w1 c) ?_ (fun k hk => bs_lead_n (by omega) (by omega))
  rw [bs_lead_n (by omega) (by omega)]; exact hA.2.1
theorem bs_lA_p {B A : Int → Int} {n : Int} (hA : bs_lA B A) (n0 : 0 ≤ n) (n1 : A 6 + n ≤ 9999) : bs_lA B (bs_passN A n) := by
  have w2 := hA.1.1.2.2.1
  have hp := bs_passN_p hA.1 n0
  refine bs_lA_c hA hp.1 (by rw [hp.2.1]; have := hA.2.1; omega) (fun k hk => ?_)
  by_cases z : 160 ≤ k
  · exact hp.2.2.2 k (by omega)
  · exact hp.2.2.1 k (by omega) (by omega) (by omega)
theorem bs_lA_w {B A : Int → Int} {v : Int} (hA : bs_lA B A) (v0 : 0 ≤ v) (v1 : v < A 2) : bs_lA B (bs_wake A v) := by
  have w2 := hA.1.1.2.2.1
  have hk : ∀ k, k < 54 ∨ 102 ≤ k → bs_wake A v k = A k := fun k hk => bs_wakeN_n (by omega)
  exact bs_lA_c hA (bs_W_wake hA.1 v0 v1) (by rw [hk 6 (by omega)]; exact hA.2.1) (fun k q => hk k (by omega))
theorem bs_lA_f {B A : Int → Int} {n : Int} (hA : bs_lA B A) (n0 : 0 ≤ n) (n1 : A 4 + n ≤ 999) : bs_lA B (bs_fill A n) := by
  exact bs_lA_c hA (bs_W_fill hA.1 n0 n1) (by rw [bs_fill_n (by decide)]; exact hA.2.1) (fun k q => bs_fill_n (by omega))
theorem bs_dl_I {B A g : Int → Int} {v w : Int} (hA : bs_lA B A) (hg : bs_lgs g) (v0 : 0 ≤ v) (v1 : v < A 2) (w0 : 0 ≤ w) (w1 : w < A 1) : bs_lA B (bs_dl A g v w).1 ∧ bs_lg (bs_dl A g v w).2 := by
  unfold bs_dl
  split
  · rename_i c; exact ⟨bs_lA_l hA v0 v1 w0 w1 c, bs_lg_l hg⟩
  · exact ⟨hA, bs_lg_m hg⟩
theorem bs_w21 {A : Int → Int} (hW : bs_W A) (h : A 2 ≠ 0) : 0 < A 2 ∧ 0 < A 1 := by
  have w2 := hW.1.2.2.1
  have := (hW.2.2.2.1 0 (by omega) (by omega)).2.1
  omega
theorem bs_deed_I {B A g : Int → Int} {x k t v n pr : Int} (hA : bs_lA B A) (hg : bs_lgs g) (hl : bs_ln k t v n pr (B (160 + 6 * x)) (B (160 + 6 * x + 1)) (B (160 + 6 * x + 2)) (B (160 + 6 * x + 4)) (B (160 + 6 * x + 5)) (B 1) (B 2)) : bs_lA B (bs_deed B A g x).1 ∧ bs_lg (bs_deed B A g x).2 := by
  have w := hA.1.1
  have e1 := hA.2.2.2.2.1
  have e2 := hA.2.2.2.2.2.1
  unfold bs_deed
  by_cases z16 : B (160 + 6 * x) = 16
  · rw [if_pos z16]
    have q : 1 ≤ B (160 + 6 * x + 1) ∧ B (160 + 6 * x + 1) ≤ 60 := by unfold bs_ln at hl; omega
    split
    · rename_i c
      refine ⟨bs_lA_p hA (by omega) c, ?_⟩
      have nn := bs_newN_le hA.1 (n := B (160 + 6 * x + 1)) (by omega)
      exact bs_lg_t hg (by omega) (by omega) nn.1 nn.2
    · exact ⟨hA, bs_lg_m hg⟩
  · rw [if_neg z16]
    by_cases z17 : B (160 + 6 * x) = 17
    · rw [if_pos z17]
      have q : (0 ≤ B (160 + 6 * x + 1) ∧ B (160 + 6 * x + 1) < B 2) ∧ 0 ≤ B (160 + 6 * x + 2) ∧ B (160 + 6 * x + 2) < B 1 := by unfold bs_ln at hl; omega
      exact bs_dl_I hA hg q.1.1 (by omega) q.2.1 (by omega)
    · rw [if_neg z17]
      by_cases z18 : B (160 + 6 * x) = 18
      · rw [if_pos z18]
        have q : 0 ≤ B (160 + 6 * x + 1) ∧ B (160 + 6 * x + 1) < B 2 := by unfold bs_ln at hl; omega
        split
        · exact ⟨bs_lA_w hA q.1 (by omega), bs_lgs_g hg⟩
        · exact ⟨hA, bs_lg_m hg⟩
      · rw [if_neg z18]
        by_cases z19 : B (160 + 6 * x) = 19
        · rw [if_pos z19]
          have q : 1 ≤ B (160 + 6 * x + 1) ∧ B (160 + 6 * x + 1) ≤ 99 := by unfold bs_ln at hl; omega
          split
          · rename_i c; exact ⟨bs_lA_f hA (by omega) c, bs_lgs_g hg⟩
          · exact ⟨hA, bs_lg_m hg⟩
        · rw [if_neg z19]
          by_cases z20 : B (160 + 6 * x) = 20
          · rw [if_pos z20]
            by_cases z : A 2 = 0
            · rw [if_pos z]; exact ⟨hA, bs_lg_m hg⟩
            · rw [if_neg z]
              have pos := bs_w21 hA.1 z
              have g8 := hg.2.2.2.2.2
              have s1 := bs_sd_r g8.1 g8.2
              have s2 := bs_sd_r s1.1 s1.2
              have p1 := bs_pk_r g8.1 g8.2 pos.1
              have p2 := bs_pk_r s1.1 s1.2 pos.2
              refine bs_dl_I hA ?_ p1.1 p1.2 p2.1 p2.2
              unfold bs_lgs at hg ⊢
              rw [bc_setj, bc_setn (by decide), bc_setn (by decide), bc_setn (by decide), bc_setn (by decide), bc_setn (by decide)]
              omega
          · rw [if_neg z20]; exact ⟨hA, bs_lgs_g hg⟩
/-! inside a loop -/
def bs_lin (ki pa : Int → Int) (n : Int) (r R : Int → Int) (x : Int) : Prop := ∀ o, 0 ≤ o → o < n → ki o = 24 → o < x → x ≤ pa o → r o = R o + 1
theorem bs_lin_s {ki pa r R : Int → Int} {n x : Int} (hx : ki x ≠ 24) (h : bs_lin ki pa n r R x) : bs_lin ki pa n r R (x + 1) := fun o o0 o1 k lt le => by
  by_cases e : o = x
  · subst e; exact absurd k hx
  · exact h o o0 o1 k (by omega) (by omega)
theorem bs_lin_L {ki pa r R : Int → Int} {n x v : Int} (h : bs_lin ki pa n r R x) : bs_lin ki pa n (bc_set r x v) (bc_set R x (v - 1)) (x + 1) := fun o o0 o1 k lt le => by
  by_cases e : o = x
  · subst e; rw [bc_setj, bc_setj]; omega
  · rw [bc_setn e, bc_setn e]; exact h o o0 o1 k (by omega) (by omega)
theorem bs_lin_W {ki pa r R : Int → Int} {n x : Int} (hn : bs_nest ki pa n) (x0 : 0 ≤ x) (x1 : x < n) (kx : ki x = 21) (h : bs_lin ki pa n r R x) : bs_lin ki pa n r R (pa x + 1) := fun o o0 o1 k lt le => by
  have nx := hn.1 x x0 x1 (Or.inl kx)
  have no := hn.1 o o0 o1 (Or.inr k)
  by_cases e : o < x
  · exact h o o0 o1 k e (by omega)
  · by_cases e2 : o = x
    · subst e2; omega
    · by_cases e3 : o = pa x
      · subst e3; omega
      · have := hn.2.2.1 x o x0 (by omega) (by omega) nx.2.1 (Or.inl kx) (Or.inr k)
        omega
/-! ends: how long it can go on -/
abbrev bs_E (B : Int → Int) (x : Int) : Prop := x < B 8 ∧ B (160 + 6 * x) = 23

def bs_ec (B : Int → Int) (x : Int) : Int := if bs_E B x then (if bs_E B (x + 1) then (if bs_E B (x + 2) then 3 else 2) else 1) else 0
def bs_mu (B R : Int → Int) (x : Int) : Int := 100 * bs_ec B x + (if bs_E B x then R (B (160 + 6 * x + 4)) else 0)
