/-! ===== texts: a token ===== -/
def bs_wl (T : Int → Int) (q e : Int) : List Int := (List.range (e - q).toNat).map (fun (k : Nat) => T (q + (k : Int)) - 96)
theorem bs_wl_0 (T : Int → Int) (q : Int) : bs_wl T q q = [] := by
  unfold bs_wl; rw [show (q - q).toNat = 0 by omega]; rfl
theorem bs_wl_s (T : Int → Int) {q e : Int} (h : q ≤ e) : bs_wl T q (e + 1) = bs_wl T q e ++ [T e - 96] := by
  unfold bs_wl
  rw [show (e + 1 - q).toNat = (e - q).toNat + 1 by omega, List.range_succ, List.map_append, List.map_cons, List.map_nil, show q + (((e - q).toNat : Nat) : Int) = e by omega]
theorem bs_c32_s (l : List Int) (x : Int) : bs_c32 (l ++ [x]) = bs_c32 l * 32 + x := by unfold bs_c32; rw [List.foldl_append]; rfl
theorem bs_c256_s (l : List Int) (x : Int) : bs_c256 (l ++ [x]) = bs_c256 l * 256 + (96 + x) := by unfold bs_c256; rw [List.foldl_append]; rfl
def bs_let (c : Int) : Prop := 97 ≤ c ∧ c ≤ 122
def bs_dig (c : Int) : Prop := 48 ≤ c ∧ c ≤ 57
def bs_bl (c : Int) : Prop := c = 32 ∨ c = 10
theorem bs_c32_r (T : Int → Int) {q : Int} : ∀ m : Nat, m ≤ 8 → (∀ k, q ≤ k → k < q + m → bs_let (T k)) → 0 ≤ bs_c32 (bs_wl T q (q + m)) ∧ bs_c32 (bs_wl T q (q + m)) < 32 ^ m
  | 0, _, _ => by rw [show q + ((0 : Nat) : Int) = q by omega, bs_wl_0]; decide
  | m + 1, h, hl => by
    have ih := bs_c32_r T m (by omega) (fun k a b => hl k a (by omega))
    have l := hl (q + m) (by omega) (by omega)
    unfold bs_let at l
    rw [show q + ((m + 1 : Nat) : Int) = q + (m : Int) + 1 by omega, bs_wl_s T (by omega), bs_c32_s, Int.pow_succ]
    omega
/-- the token behind p in the text T of n bytes, as the class tells it -/
def bs_To (T : Int → Int) (n p : Int) (m : bc_H) : Prop := (p ≤ m 6 11 ∧ m 6 11 ≤ m 6 10 ∧ m 6 10 ≤ n) ∧ (∀ k, p ≤ k → k < m 6 11 → bs_bl (T k)) ∧
  ((m 6 11 = n ∧ m 6 10 = n ∧ m 6 12 = 0 ∧ m 6 4 = -1 ∧ m 6 6 = -1) ∨
   (m 6 11 < n ∧ ¬ bs_bl (T (m 6 11)) ∧
    ((m 6 12 = 1 ∧ m 6 6 = -1 ∧ m 6 11 < m 6 10 ∧ (∀ k, m 6 11 ≤ k → k < m 6 10 → bs_let (T k)) ∧ (m 6 10 = n ∨ ¬ bs_let (T (m 6 10))) ∧ m 6 13 = m 6 10 - m 6 11 ∧ (m 6 13 ≤ 8 → m 6 5 = bs_c32 (bs_wl T (m 6 11) (m 6 10)) ∧ (-1 ≤ m 6 4 ∧ m 6 4 < 27) ∧ (m 6 4 ≠ -1 → bc_hB 8 (m 6 4) = m 6 5) ∧ (m 6 4 = -1 → ∀ i, 0 ≤ i → i < 27 → bc_hB 8 i ≠ m 6 5)) ∧ (8 < m 6 13 → m 6 4 = -1)) ∨
     (bs_dig (T (m 6 11)) ∧ m 6 4 = -1 ∧ m 6 6 = -1 ∧ m 6 11 < m 6 10 ∧ (∀ k, m 6 11 ≤ k → k < m 6 10 → bs_dig (T k)) ∧ (m 6 10 = n ∨ ¬ bs_dig (T (m 6 10))) ∧ ((m 6 10 - m 6 11 ≤ 4 ∧ m 6 12 = 2 ∧ m 6 14 = bc_it (fun i x => x * 10 + (T (m 6 11 + i) - 48)) 0 (m 6 10 - m 6 11)) ∨ (4 < m 6 10 - m 6 11 ∧ m 6 12 = 4))) ∨
     (¬ bs_let (T (m 6 11)) ∧ ¬ bs_dig (T (m 6 11)) ∧ m 6 10 = m 6 11 + 1 ∧ m 6 4 = -1 ∧ (((T (m 6 11) = 59 ∨ T (m 6 11) = 60 ∨ T (m 6 11) = 62 ∨ T (m 6 11) = 61) ∧ m 6 12 = 3 ∧ m 6 6 = T (m 6 11)) ∨ (¬ (T (m 6 11) = 59 ∨ T (m 6 11) = 60 ∨ T (m 6 11) = 62 ∨ T (m 6 11) = 61) ∧ m 6 12 = 4 ∧ m 6 6 = -1))))))
/-- what a token leaves as it was -/
def bs_Tl6 (m m' : bc_H) : Prop := (∀ x, x ≠ 6 → m' x = m x) ∧ ∀ y, (y < 4 ∨ (6 < y ∧ y < 10)) → m' 6 y = m 6 y
theorem bs_Tl6_r (m : bc_H) : bs_Tl6 m m := ⟨fun _ _ => rfl, fun _ _ => rfl⟩
theorem bs_Tl6_u {m m' : bc_H} {y v : Int} (h : bs_Tl6 m m') (n : ¬ (y < 4 ∨ (6 < y ∧ y < 10))) : bs_Tl6 m (bc_upd m' 6 y v) := ⟨fun x x1 => by rw [bc_urow x1]; exact h.1 x x1, fun z hz => by rw [bc_uj (fun e => n (by rw [← e]; exact hz))]; exact h.2 z hz⟩
theorem bc_c_word60 {d : Nat} {m0 : bc_H} {L' : Int} {K : bc_H → Prop} (h8 : ∀ i, 0 ≤ i → i < 27 → m0 8 i = bc_hB 8 i) (l8 : m0 6 13 = L') (k4 : m0 6 4 = -1) (hK : ∀ m1, (∀ x, x ≠ 6 → m1 x = m0 x) → (∀ y, y ≠ 4 → m1 6 y = m0 6 y) → (L' ≤ 8 → (-1 ≤ m1 6 4 ∧ m1 6 4 < 27) ∧ (m1 6 4 ≠ -1 → bc_hB 8 (m1 6 4) = m0 6 5) ∧ (m1 6 4 = -1 → ∀ i, 0 ≤ i → i < 27 → bc_hB 8 i ≠ m0 6 5)) → (8 < L' → m1 6 4 = -1) → K m1) : bl_Text_takeWord_60 d 0 m0 (bc_U K) := by
  by_cases z : L' ≤ 8
  · refine bc_lup (P := fun i => ∀ m1 : bc_H, (∀ x, x ≠ 6 → m1 x = m0 x) → (∀ y, y ≠ 4 → m1 6 y = m0 6 y) → (-1 ≤ m1 6 4 ∧ m1 6 4 < i ∨ m1 6 4 = -1) → (m1 6 4 ≠ -1 → bc_hB 8 (m1 6 4) = m0 6 5) → (m1 6 4 = -1 → ∀ j, 0 ≤ j → j < i → bc_hB 8 j ≠ m0 6 5) → bl_Text_takeWord_60 d i m1 (bc_U K)) (n := 27) (fun m1 a1 a2 a3 a4 a5 => ?_) (fun i i0 i1 ih m1 a1 a2 a3 a4 a5 => ?_) (Int.le_refl 0) (by omega) m0 (fun _ _ => rfl) (fun _ _ => rfl) (Or.inr k4) (fun u => absurd k4 u) (fun _ j j0 j1 => absurd j1 (by omega))
    · exact rv_Text_takeWord_60 ⟨fun _ => hK m1 a1 a2 (fun _ => ⟨by omega, a4, a5⟩) (fun u => absurd u (by omega)), fun u => absurd u (by decide)⟩
    · refine rv_Text_takeWord_60 ⟨fun u => absurd u (by omega), fun _ => ⟨fun u => absurd u (by rw [a2 13 (by decide), l8]; omega), fun _ => ⟨by omega, ?_⟩⟩⟩
      rw [a1 8 (by decide), h8 i i0 i1, a2 5 (by decide), bc_wi (x := i + 1) (by omega) (by omega)]
      refine ⟨fun ne => ih m1 a1 a2 (by omega) a4 (fun u j j0 j1 => ?_), fun e => ih _ (fun x x1 => by rw [bc_urow x1]; exact a1 x x1) (fun y y1 => by rw [bc_uj y1]; exact a2 y y1) (by rw [bc_uu]; omega) (fun _ => by rw [bc_uu]; exact e) (fun u => absurd u (by rw [bc_uu]; omega))⟩
      by_cases ej : j = i
      · subst ej; exact ne
      · exact a5 u j j0 (by omega)
  · exact rv_Text_takeWord_60 ⟨fun u => absurd u (by decide), fun _ => ⟨fun _ => hK m0 (fun _ _ => rfl) (fun _ _ => rfl) (fun u => absurd u z) (fun _ => k4), fun u => absurd u (by rw [l8]; exact z)⟩⟩
theorem bc_c_takeWord {d : Nat} {T : Int → Int} {n p q : Int} {m0 m : bc_H} {K : bc_H → Prop} (n0 : 0 ≤ n ∧ n ≤ 900) (p0 : 0 ≤ p ∧ p ≤ q) (q1 : q < n) (bl : ∀ k, p ≤ k → k < q → bs_bl (T k)) (nb : ¬ bs_bl (T q)) (lt : bs_let (T q)) (hT : ∀ k, 0 ≤ k → k < n → m0 7 k = T k) (h8 : ∀ i, 0 ≤ i → i < 27 → m0 8 i = bc_hB 8 i) (hm : bs_Tl6 m0 m) (m9 : m 6 9 = n) (m10 : m 6 10 = q) (m11 : m 6 11 = q) (m4 : m 6 4 = -1) (m6 : m 6 6 = -1) (hK : ∀ m1, bs_Tl6 m0 m1 → bs_To T n p m1 → K m1) : bf_Text_takeWord d m (bc_U K) := by
  refine rv_Text_takeWord ?_
  have key : ∀ (k : Nat) (e : Int) (g : bc_H), n - e ≤ k → (q ≤ e ∧ e ≤ n) → (∀ j, q ≤ j → j < e → bs_let (T j)) → bs_Tl6 m0 g → g 6 9 = n → g 6 10 = e → g 6 11 = q → g 6 4 = -1 → g 6 6 = -1 → g 6 12 = 1 → g 6 13 = e - q → (e - q ≤ 8 → g 6 5 = bs_c32 (bs_wl T q e)) → bl_Text_takeWord_9 d g (bc_U K) := by
    intro k
    induction k with
    | zero =>
      intro e g hk he hl hg g9 g10 g11 g4 g6 g12 g13 g5
      have en : e = n := by omega
      refine rv_Text_takeWord_9 ⟨fun _ => ?_, fun u => absurd u (by rw [g9, g10]; omega)⟩
      refine bc_c_word60 (by rw [hg.1 8 (by decide)]; exact h8) g13 g4 (fun m1 a1 a2 a3 a4 => hK m1 ⟨fun x x1 => by rw [a1 x x1]; exact hg.1 x x1, fun y hy => by rw [a2 y (by omega)]; exact hg.2 y hy⟩ ?_)
      unfold bs_To
      rw [a2 11 (by decide), a2 10 (by decide), a2 12 (by decide), a2 6 (by decide), a2 13 (by decide), a2 5 (by decide), g10, g11, g12, g6, g13]
      refine ⟨by omega, bl, Or.inr ⟨q1, nb, Or.inl ⟨rfl, rfl, by omega, hl, Or.inl en, rfl, fun z => ?_, a4⟩⟩⟩
      have := a3 z
      rw [g5 z] at this ⊢
      exact ⟨rfl, this⟩
    | succ k ih =>
      intro e g hk he hl hg g9 g10 g11 g4 g6 g12 g13 g5
      have stop : (e = n ∨ ¬ bs_let (T e)) → q < e → bl_Text_takeWord_60 d 0 g (bc_U K) := fun st qe => by
        refine bc_c_word60 (by rw [hg.1 8 (by decide)]; exact h8) g13 g4 (fun m1 a1 a2 a3 a4 => hK m1 ⟨fun x x1 => by rw [a1 x x1]; exact hg.1 x x1, fun y hy => by rw [a2 y (by omega)]; exact hg.2 y hy⟩ ?_)
        unfold bs_To
        rw [a2 11 (by decide), a2 10 (by decide), a2 12 (by decide), a2 6 (by decide), a2 13 (by decide), a2 5 (by decide), g10, g11, g12, g6, g13]
        refine ⟨by omega, bl, Or.inr ⟨q1, nb, Or.inl ⟨rfl, rfl, qe, hl, st, rfl, fun z => ?_, a4⟩⟩⟩
        have := a3 z
        rw [g5 z] at this ⊢
        exact ⟨rfl, this⟩
      by_cases en : e = n
      · exact rv_Text_takeWord_9 ⟨fun _ => stop (Or.inl en) (by omega), fun u => absurd u (by rw [g9, g10]; omega)⟩
      · have g7 : g 7 e = T e := by rw [hg.1 7 (by decide)]; exact hT e (by omega) (by omega)
        have qe : ¬ bs_let (T e) → q < e := fun u => Classical.byContradiction (fun w => u (by rw [show e = q by omega]; exact lt))
        refine rv_Text_takeWord_9 ⟨fun u => absurd u (by rw [g9, g10]; omega), fun _ => ?_⟩
        rw [g10, g7]
        refine ⟨by omega, fun u => stop (Or.inr (fun w => by unfold bs_let at w; omega)) (qe (fun w => by unfold bs_let at w; omega)), fun u1 => ⟨by omega, fun u => stop (Or.inr (fun w => by unfold bs_let at w; omega)) (qe (fun w => by unfold bs_let at w; omega)), fun u2 => ⟨by omega, fun h4 e4 => ?_⟩⟩⟩
        have hl' : ∀ j, q ≤ j → j < e + 1 → bs_let (T j) := fun j j0 j1 => by
          by_cases ej : j = e
          · subst ej; exact ⟨u1, u2⟩
          · exact hl j j0 (by omega)
        have f10 : h4 6 10 = e := by rw [e4, bc_uj (by decide), bc_uj (by decide)]; exact g10
        rw [f10, bc_wi (x := e + 1) (by omega) (by omega)]
        have hu : bs_Tl6 m0 h4 := by rw [e4]; exact bs_Tl6_u (bs_Tl6_u hg (by decide)) (by decide)
        refine ih (e + 1) _ (by omega) (by omega) hl' (bs_Tl6_u hu (by decide)) ?_ (bc_uu _ _ _ _) ?_ ?_ ?_ ?_ ?_ (fun z => ?_)
        · rw [bc_uj (by decide), e4, bc_uj (by decide), bc_uj (by decide)]; exact g9
        · rw [bc_uj (by decide), e4, bc_uj (by decide), bc_uj (by decide)]; exact g11
        · rw [bc_uj (by decide), e4, bc_uj (by decide), bc_uj (by decide)]; exact g4
        · rw [bc_uj (by decide), e4, bc_uj (by decide), bc_uj (by decide)]; exact g6
        · rw [bc_uj (by decide), e4, bc_uj (by decide), bc_uj (by decide)]; exact g12
        · rw [bc_uj (by decide), e4, bc_uu, g13, bc_wi (x := e - q + 1) (by omega) (by omega)]; omega
        · have cr := bs_c32_r T (q := q) (e - q).toNat (by omega) (fun j j0 j1 => hl j j0 (by omega))
          rw [show q + (((e - q).toNat : Nat) : Int) = e by omega] at cr
          have big : (32 : Int) ^ (e - q).toNat ≤ 32 ^ 7 := by
            have := Nat.pow_le_pow_right (show 0 < 32 by decide) (show (e - q).toNat ≤ 7 by omega)
            have h2 : ((32 ^ (e - q).toNat : Nat) : Int) ≤ ((32 ^ 7 : Nat) : Int) := Int.ofNat_le.2 this
            rw [Int.natCast_pow, Int.natCast_pow] at h2
            exact h2
          rw [show (32 : Int) ^ 7 = 34359738368 by decide] at big
          rw [bc_uj (by decide), e4, bc_uj (by decide), bc_uu, g5 (by omega), bs_wl_s T (by omega), bs_c32_s, bc_wi (x := T e - 97) (by omega) (by omega), bc_wi (x := T e - 97 + 1) (by omega) (by omega), bc_wl (x := bs_c32 (bs_wl T q e) * 32) (by omega) (by omega), bc_wl (x := bs_c32 (bs_wl T q e) * 32 + (T e - 97 + 1)) (by omega) (by omega)]
          omega
  refine key (n - q).toNat q _ (by omega) (by omega) (fun j j0 j1 => absurd j1 (by omega)) (bs_Tl6_u (bs_Tl6_u (bs_Tl6_u hm (by decide)) (by decide)) (by decide)) ?_ ?_ ?_ ?_ ?_ ?_ ?_ (fun _ => ?_)
  · rw [bc_uj (by decide), bc_uj (by decide), bc_uj (by decide)]; exact m9
  · rw [bc_uj (by decide), bc_uj (by decide), bc_uj (by decide)]; exact m10
  · rw [bc_uj (by decide), bc_uj (by decide), bc_uj (by decide)]; exact m11
  · rw [bc_uj (by decide), bc_uj (by decide), bc_uj (by decide)]; exact m4
  · rw [bc_uj (by decide), bc_uj (by decide), bc_uj (by decide)]; exact m6
  · rw [bc_uj (by decide), bc_uj (by decide), bc_uu]
  · rw [bc_uu]; omega
  · rw [bc_uj (by decide), bc_uu, bs_wl_0]; rfl
def bs_nv (T : Int → Int) (q k : Int) : Int := bc_it (fun i x => x * 10 + (T (q + i) - 48)) 0 k
theorem bs_nv_s (T : Int → Int) (q : Int) {k : Int} (h : 0 ≤ k) : bs_nv T q (k + 1) = bs_nv T q k * 10 + (T (q + k) - 48) := bc_its _ _ h
theorem bs_nv_r (T : Int → Int) (q : Int) {k : Int} (h0 : 0 ≤ k) (h4 : k ≤ 4) (hd : ∀ j, q ≤ j → j < q + k → bs_dig (T j)) : 0 ≤ bs_nv T q k ∧ bs_nv T q k < 10 ^ k.toNat := by
  refine bc_it_indB (P := fun k x => 0 ≤ x ∧ x < 10 ^ k.toNat) (by decide) (fun i x i0 i1 ih => ?_) h0
  have := hd (q + i) (by omega) (by omega)
  unfold bs_dig at this
  rw [show (i + 1).toNat = i.toNat + 1 by omega, Int.pow_succ]
  omega
theorem bs_nv_b (T : Int → Int) (q : Int) {k : Int} (h0 : 0 ≤ k) (h4 : k ≤ 4) (hd : ∀ j, q ≤ j → j < q + k → bs_dig (T j)) : 0 ≤ bs_nv T q k ∧ bs_nv T q k ≤ 9999 := by
  have t := bs_nv_r T q h0 h4 hd
  have ck : k = 0 ∨ k = 1 ∨ k = 2 ∨ k = 3 ∨ k = 4 := by omega
  rcases ck with e | e | e | e | e <;> subst e <;> (have t2 := t.2; simp at t2; omega)
theorem bc_c_takeNumber {d : Nat} {T : Int → Int} {n p q : Int} {m0 m : bc_H} {K : bc_H → Prop} (n0 : 0 ≤ n ∧ n ≤ 900) (p0 : 0 ≤ p ∧ p ≤ q) (q1 : q < n) (bl : ∀ k, p ≤ k → k < q → bs_bl (T k)) (nb : ¬ bs_bl (T q)) (dg : bs_dig (T q)) (hT : ∀ k, 0 ≤ k → k < n → m0 7 k = T k) (hm : bs_Tl6 m0 m) (m9 : m 6 9 = n) (m10 : m 6 10 = q) (m11 : m 6 11 = q) (m4 : m 6 4 = -1) (m6 : m 6 6 = -1) (hK : ∀ m1, bs_Tl6 m0 m1 → bs_To T n p m1 → K m1) : bf_Text_takeNumber d m (bc_U K) := by
  refine rv_Text_takeNumber ?_
  have key : ∀ (k : Nat) (e : Int) (g : bc_H), n - e ≤ k → (q ≤ e ∧ e ≤ n) → (∀ j, q ≤ j → j < e → bs_dig (T j)) → bs_Tl6 m0 g → g 6 9 = n → g 6 10 = e → g 6 11 = q → g 6 4 = -1 → g 6 6 = -1 → (e - q ≤ 4 → g 6 14 = bs_nv T q (e - q)) → bl_Text_takeNumber_5 d (e - q) g (bc_U K) := by
    intro k
    have fin : ∀ (e : Int) (g : bc_H), (q ≤ e ∧ e ≤ n) → (∀ j, q ≤ j → j < e → bs_dig (T j)) → bs_Tl6 m0 g → g 6 10 = e → g 6 11 = q → g 6 4 = -1 → g 6 6 = -1 → (e - q ≤ 4 → g 6 14 = bs_nv T q (e - q)) → (e = n ∨ ¬ bs_dig (T e)) → q < e → K (bc_upd g 6 12 (if 4 < e - q then 4 else 2)) := fun e g he hl hg g10 g11 g4 g6 g14 st qe => by
      refine hK _ (bs_Tl6_u hg (by decide)) ?_
      have u : ∀ y, y ≠ 12 → bc_upd g 6 12 (if 4 < e - q then 4 else 2) 6 y = g 6 y := fun y hy => bc_uj hy
      unfold bs_To
      rw [u 11 (by decide), u 10 (by decide), u 4 (by decide), u 6 (by decide), u 14 (by decide), bc_uu, g10, g11, g4, g6]
      refine ⟨by omega, bl, Or.inr ⟨q1, nb, Or.inr (Or.inl ⟨dg, rfl, rfl, qe, hl, st, ?_⟩)⟩⟩
      by_cases z : 4 < e - q
      · exact Or.inr ⟨z, if_pos z⟩
      · exact Or.inl ⟨by omega, if_neg z, g14 (by omega)⟩
    induction k with
    | zero =>
      intro e g hk he hl hg g9 g10 g11 g4 g6 g14
      exact rv_Text_takeNumber_5 ⟨fun _ => fin e g he hl hg g10 g11 g4 g6 g14 (Or.inl (by omega)) (by omega), fun u => absurd u (by rw [g9, g10]; omega)⟩
    | succ k ih =>
      intro e g hk he hl hg g9 g10 g11 g4 g6 g14
      by_cases en : e = n
      · exact rv_Text_takeNumber_5 ⟨fun _ => fin e g he hl hg g10 g11 g4 g6 g14 (Or.inl en) (by omega), fun u => absurd u (by rw [g9, g10]; omega)⟩
      · have g7 : g 7 e = T e := by rw [hg.1 7 (by decide)]; exact hT e (by omega) (by omega)
        have qe : ¬ bs_dig (T e) → q < e := fun u => Classical.byContradiction (fun w => u (by rw [show e = q by omega]; exact dg))
        refine rv_Text_takeNumber_5 ⟨fun u => absurd u (by rw [g9, g10]; omega), fun _ => ?_⟩
        have stop : ¬ bs_dig (T e) → K (bc_upd g 6 12 (if 4 < e - q then 4 else 2)) := fun u => fin e g he hl hg g10 g11 g4 g6 g14 (Or.inr u) (qe u)
        rw [g10, g7]
        refine ⟨by omega, fun u => stop (fun w => by unfold bs_dig at w; omega), fun u1 => ⟨by omega, fun u => stop (fun w => by unfold bs_dig at w; omega), fun u2 => ?_⟩⟩
        have hl' : ∀ j, q ≤ j → j < e + 1 → bs_dig (T j) := fun j j0 j1 => by
          by_cases ej : j = e
          · subst ej; exact ⟨u1, u2⟩
          · exact hl j j0 (by omega)
        rw [bc_wi (x := e - q + 1) (by omega) (by omega), bc_wi (x := e + 1) (by omega) (by omega), show e - q + 1 = e + 1 - q by omega]
        have next : ∀ x : Int, (e + 1 - q ≤ 4 → x = bs_nv T q (e + 1 - q)) → bl_Text_takeNumber_5 d (e + 1 - q) (bc_upd (bc_upd g 6 14 x) 6 10 (e + 1)) (bc_U K) := fun x hx => by
          refine ih (e + 1) _ (by omega) (by omega) hl' (bs_Tl6_u (bs_Tl6_u hg (by decide)) (by decide)) ?_ (bc_uu _ _ _ _) ?_ ?_ ?_ (fun z => ?_)
          · rw [bc_uj (by decide), bc_uj (by decide)]; exact g9
          · rw [bc_uj (by decide), bc_uj (by decide)]; exact g11
          · rw [bc_uj (by decide), bc_uj (by decide)]; exact g4
          · rw [bc_uj (by decide), bc_uj (by decide)]; exact g6
          · rw [bc_uj (by decide), bc_uu]; exact hx z
        refine ⟨fun four => next _ (fun z => absurd z (by omega)), fun lt => ⟨by omega, next _ (fun z => ?_)⟩⟩
        have nb4 := bs_nv_b T q (k := e - q) (by omega) (by omega) (fun j j0 j1 => hl j j0 (by omega))
        rw [g14 (by omega), bc_wi (x := T e - 48) (by omega) (by omega), bc_wi (x := bs_nv T q (e - q) * 10) (by omega) (by omega), bc_wi (x := bs_nv T q (e - q) * 10 + (T e - 48)) (by omega) (by omega), show e + 1 - q = e - q + 1 by omega, bs_nv_s T q (by omega), show q + (e - q) = e by omega]
  have k0 := key (n - q).toNat q (bc_upd m 6 14 0) (by omega) (by omega) (fun j j0 j1 => absurd j1 (by omega)) (bs_Tl6_u hm (by decide)) (by rw [bc_uj (by decide)]; exact m9) (by rw [bc_uj (by decide)]; exact m10) (by rw [bc_uj (by decide)]; exact m11) (by rw [bc_uj (by decide)]; exact m4) (by rw [bc_uj (by decide)]; exact m6) (fun _ => by rw [bc_uu, show q - q = 0 by omega]; rfl)
  rw [show q - q = 0 by omega] at k0
  exact k0
theorem bc_c_advance {d : Nat} {T : Int → Int} {n p : Int} {m0 : bc_H} {K : bc_H → Prop} (n0 : 0 ≤ n ∧ n ≤ 900) (p0 : 0 ≤ p ∧ p ≤ n) (hT : ∀ k, 0 ≤ k → k < n → m0 7 k = T k) (h8 : ∀ i, 0 ≤ i → i < 27 → m0 8 i = bc_hB 8 i) (m9 : m0 6 9 = n) (m10 : m0 6 10 = p) (hK : ∀ m1, bs_Tl6 m0 m1 → bs_To T n p m1 → K m1) : bf_Text_advance (d + 1) m0 (bc_U K) := by
  refine rv_Text_advance (d := d) ?_
  have key : ∀ (k : Nat) (q : Int) (g : bc_H), n - q ≤ k → (p ≤ q ∧ q ≤ n) → (∀ j, p ≤ j → j < q → bs_bl (T j)) → bs_Tl6 m0 g → g 6 10 = q → bl_Text_advance_0 (d + 1) g (bc_U K) := by
    intro k
    induction k with
    | zero =>
      intro q g hk hq hb hg g10
      have qn : q = n := by omega
      have g9 : g 6 9 = n := by rw [hg.2 9 (by decide)]; exact m9
      refine rv_Text_advance_0 (d := d) ?_
      rw [g9, g10]
      refine ⟨fun _ => ⟨fun u => absurd u (by omega), fun _ => ?_⟩, fun u => absurd u (by omega)⟩
      refine hK _ (bs_Tl6_u (bs_Tl6_u (bs_Tl6_u (bs_Tl6_u hg (by decide)) (by decide)) (by decide)) (by decide)) ?_
      unfold bs_To
      have e11 : bc_upd (bc_upd (bc_upd (bc_upd g 6 11 q) 6 4 (-1)) 6 6 (-1)) 6 12 0 6 11 = q := by rw [bc_uj (by decide), bc_uj (by decide), bc_uj (by decide), bc_uu]
      have e10 : bc_upd (bc_upd (bc_upd (bc_upd g 6 11 q) 6 4 (-1)) 6 6 (-1)) 6 12 0 6 10 = q := by rw [bc_uj (by decide), bc_uj (by decide), bc_uj (by decide), bc_uj (by decide)]; exact g10
      rw [e11, e10]
      exact ⟨by omega, hb, Or.inl ⟨qn, qn, bc_uu _ _ _ _, by rw [bc_uj (by decide), bc_uj (by decide), bc_uu], by rw [bc_uj (by decide), bc_uu]⟩⟩
    | succ k ih =>
      intro q g hk hq hb hg g10
      have g9 : g 6 9 = n := by rw [hg.2 9 (by decide)]; exact m9
      by_cases qn : q = n
      · exact (show bl_Text_advance_0 (d + 1) g (bc_U K) from by
          refine rv_Text_advance_0 (d := d) ?_
          rw [g9, g10]
          refine ⟨fun _ => ⟨fun u => absurd u (by omega), fun _ => ?_⟩, fun u => absurd u (by omega)⟩
          refine hK _ (bs_Tl6_u (bs_Tl6_u (bs_Tl6_u (bs_Tl6_u hg (by decide)) (by decide)) (by decide)) (by decide)) ?_
          unfold bs_To
          have e11 : bc_upd (bc_upd (bc_upd (bc_upd g 6 11 q) 6 4 (-1)) 6 6 (-1)) 6 12 0 6 11 = q := by rw [bc_uj (by decide), bc_uj (by decide), bc_uj (by decide), bc_uu]
          have e10 : bc_upd (bc_upd (bc_upd (bc_upd g 6 11 q) 6 4 (-1)) 6 6 (-1)) 6 12 0 6 10 = q := by rw [bc_uj (by decide), bc_uj (by decide), bc_uj (by decide), bc_uj (by decide)]; exact g10
          rw [e11, e10]
          exact ⟨by omega, hb, Or.inl ⟨qn, qn, bc_uu _ _ _ _, by rw [bc_uj (by decide), bc_uj (by decide), bc_uu], by rw [bc_uj (by decide), bc_uu]⟩⟩)
      · have g7 : g 7 q = T q := by rw [hg.1 7 (by decide)]; exact hT q (by omega) (by omega)
        have blank : bs_bl (T q) → bl_Text_advance_0 (d + 1) (bc_upd g 6 10 (bc_w32 (q + 1))) (bc_U K) := fun w => by
          rw [bc_wi (x := q + 1) (by omega) (by omega)]
          refine ih (q + 1) _ (by omega) (by omega) (fun j j0 j1 => ?_) (bs_Tl6_u hg (by decide)) (bc_uu _ _ _ _)
          by_cases ej : j = q
          · subst ej; exact w
          · exact hb j j0 (by omega)
        generalize eG : bc_upd (bc_upd (bc_upd g 6 11 q) 6 4 (-1)) 6 6 (-1) = G
        have hG : bs_Tl6 m0 G := by rw [← eG]; exact bs_Tl6_u (bs_Tl6_u (bs_Tl6_u hg (by decide)) (by decide)) (by decide)
        have G9 : G 6 9 = n := by rw [hG.2 9 (by decide)]; exact m9
        have G10 : G 6 10 = q := by rw [← eG, bc_uj (by decide), bc_uj (by decide), bc_uj (by decide)]; exact g10
        have G11 : G 6 11 = q := by rw [← eG, bc_uj (by decide), bc_uj (by decide), bc_uu]
        have G4 : G 6 4 = -1 := by rw [← eG, bc_uj (by decide), bc_uu]
        have G6 : G 6 6 = -1 := by rw [← eG, bc_uu]
        have wd : ¬ bs_bl (T q) → bs_let (T q) → ∀ KK : bc_H → Prop, (∀ x, K x → KK x) → bf_Text_takeWord d G (bc_U KK) := fun w1 w2 KK hk => bc_c_takeWord n0 (by omega) (by omega) hb w1 w2 hT h8 hG G9 G10 G11 G4 G6 (fun m1 a b => hk _ (hK m1 a b))
        have nm : ¬ bs_bl (T q) → bs_dig (T q) → ∀ KK : bc_H → Prop, (∀ x, K x → KK x) → bf_Text_takeNumber d G (bc_U KK) := fun w1 w2 KK hk => bc_c_takeNumber n0 (by omega) (by omega) hb w1 w2 hT hG G9 G10 G11 G4 G6 (fun m1 a b => hk _ (hK m1 a b))
        have sg : ¬ bs_bl (T q) → ¬ bs_let (T q) → ¬ bs_dig (T q) → ∀ KK : bc_H → Prop, (∀ x, K x → KK x) → bf_Text_takeSign d G (bc_U KK) := fun w1 w2 w3 KK hk => by
          refine rv_Text_takeSign ?_
          have G7 : G 7 q = T q := by rw [hG.1 7 (by decide)]; exact hT q (by omega) (by omega)
          rw [G10, G7, bc_wi (x := q + 1) (by omega) (by omega)]
          refine ⟨by omega, fun z => hk _ (hK _ (bs_Tl6_u (bs_Tl6_u (bs_Tl6_u hG (by decide)) (by decide)) (by decide)) ?_), fun z => hk _ (hK _ (bs_Tl6_u (bs_Tl6_u (bs_Tl6_u hG (by decide)) (by decide)) (by decide)) ?_)⟩
          · unfold bs_To
            have e11 : bc_upd (bc_upd (bc_upd G 6 12 3) 6 6 (T q)) 6 10 (q + 1) 6 11 = q := by rw [bc_uj (by decide), bc_uj (by decide), bc_uj (by decide)]; exact G11
            have e10 : bc_upd (bc_upd (bc_upd G 6 12 3) 6 6 (T q)) 6 10 (q + 1) 6 10 = q + 1 := bc_uu _ _ _ _
            rw [e11, e10]
            exact ⟨by omega, hb, Or.inr ⟨by omega, w1, Or.inr (Or.inr ⟨w2, w3, rfl, by rw [bc_uj (by decide), bc_uj (by decide), bc_uj (by decide)]; exact G4, Or.inl ⟨z, by rw [bc_uj (by decide), bc_uj (by decide), bc_uu], by rw [bc_uj (by decide), bc_uu]⟩⟩)⟩⟩
          · unfold bs_To
            have e11 : bc_upd (bc_upd (bc_upd G 6 12 4) 6 6 (-1)) 6 10 (q + 1) 6 11 = q := by rw [bc_uj (by decide), bc_uj (by decide), bc_uj (by decide)]; exact G11
            have e10 : bc_upd (bc_upd (bc_upd G 6 12 4) 6 6 (-1)) 6 10 (q + 1) 6 10 = q + 1 := bc_uu _ _ _ _
            rw [e11, e10]
            exact ⟨by omega, hb, Or.inr ⟨by omega, w1, Or.inr (Or.inr ⟨w2, w3, rfl, by rw [bc_uj (by decide), bc_uj (by decide), bc_uj (by decide)]; exact G4, Or.inr ⟨z, by rw [bc_uj (by decide), bc_uj (by decide), bc_uu], by rw [bc_uj (by decide), bc_uu]⟩⟩)⟩⟩
        refine rv_Text_advance_0 (d := d) ?_
        rw [g9, g10, g7, eG]
        have q9 : 0 ≤ q ∧ q < 900 := by omega
        have lt : q < n := by omega
        refine ⟨fun u => absurd u (by omega), fun _ => ⟨q9, fun z10 => blank (Or.inr z10), fun n10 => ⟨q9, fun n32 => ⟨fun _ => ?_, fun u => absurd u (by omega)⟩, fun z32 => blank (Or.inl z32)⟩⟩⟩
        have nb : ¬ bs_bl (T q) := fun w => by
          rcases w with w | w
          · exact n32 w
          · exact n10 w
        refine ⟨q9, fun a1 => ⟨q9, fun b1 => sg nb (fun w => by unfold bs_let at w; omega) (fun w => by unfold bs_dig at w; omega) _ (fun _ x => x), fun b2 => ⟨q9, fun c1 => sg nb (fun w => by unfold bs_let at w; omega) (fun w => by unfold bs_dig at w; omega) _ (fun _ x => x), fun c2 => nm nb ⟨b2, c2⟩ _ (fun _ x => x)⟩⟩, fun a2 => ⟨q9, fun b1 => ⟨q9, fun c1 => absurd c1 (by omega), fun c2 => ⟨q9, fun d1 => sg nb (fun w => by unfold bs_let at w; omega) (fun w => by unfold bs_dig at w; omega) _ (fun _ x => x), fun d2 => absurd d2 (by omega)⟩⟩, fun b2 => wd nb ⟨a2, b2⟩ _ (fun _ x => x)⟩⟩
  exact key (n - p).toNat p m0 (by omega) (by omega) (fun j j0 j1 => absurd j1 (by omega)) (bs_Tl6_r m0) m10
