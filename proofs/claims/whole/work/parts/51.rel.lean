/-! ===== how class and reference stand to each other between two calls ===== -/
def bs_c32 (l : List Int) : Int := l.foldl (fun x c => x * 32 + c) 0
def bs_c256 (l : List Int) : Int := l.foldl (fun x c => x * 256 + (96 + c)) 0
def bs_word (l : List Int) : Prop := 1 ≤ l.length ∧ l.length ≤ 8 ∧ ∀ c ∈ l, 1 ≤ c ∧ c ≤ 26
def bs_fst (p : Int → Prop) [DecidablePred p] (n : Int) : Int := bc_it (fun i r => if r = -1 then (if p i then i else -1) else r) (-1) n
def bs_cn (n : Int) (co ki nu : Int → Int) (K x : Int) : Int := if bs_fst (fun i => co i = x ∧ ki i = K) n = -1 then -1 else nu (bs_fst (fun i => co i = x ∧ ki i = K) n)
def bs_rn (NM : Int → Int) (off m x : Int) : Int := bs_fst (fun k => NM (off + k) = x) m
def bs_Nm (n : Int) (co ki nu : Int → Int) (A NM : Int → Int) : Prop := (0 ≤ n ∧ n ≤ A 0 + A 1 + A 2 + A 3) ∧ ∀ l, bs_word l →
  (bs_cn n co ki nu 2 (bs_c32 l) = bs_rn NM 0 (A 0) (bs_c256 l) ∧ bs_cn n co ki nu 3 (bs_c32 l) = bs_rn NM 5 (A 1) (bs_c256 l) ∧ bs_cn n co ki nu 8 (bs_c32 l) = bs_rn NM 12 (A 2) (bs_c256 l) ∧ bs_cn n co ki nu 11 (bs_c32 l) = bs_rn NM 18 (A 3) (bs_c256 l)) ∧
  (bs_fst (fun i => co i = bs_c32 l) n ≠ -1 ↔ bs_rn NM 0 (A 0) (bs_c256 l) ≠ -1 ∨ bs_rn NM 5 (A 1) (bs_c256 l) ≠ -1 ∨ bs_rn NM 12 (A 2) (bs_c256 l) ≠ -1 ∨ bs_rn NM 18 (A 3) (bs_c256 l) ≠ -1)
/-- a line of days: its kind, test, visitor, number, partner; and the reference's row; how many walls, visitors -/
def bs_ln (k t v n pr a0 a1 a2 a4 a5 m1 m2 : Int) : Prop :=
  (k = 16 ∧ a0 = 16 ∧ a1 = n ∧ 1 ≤ n ∧ n ≤ 60) ∨
  (k = 17 ∧ a0 = 17 ∧ a1 = v ∧ a2 = n ∧ (0 ≤ v ∧ v < m2) ∧ 0 ≤ n ∧ n < m1) ∨
  (k = 18 ∧ a0 = 18 ∧ a1 = v ∧ 0 ≤ v ∧ v < m2) ∨
  (k = 19 ∧ a0 = 19 ∧ a1 = n ∧ 1 ≤ n ∧ n ≤ 99) ∨
  (k = 20 ∧ a0 = 20) ∨
  (k = 21 ∧ a4 = pr ∧ ((t = 22 ∧ a0 = 2125 ∧ a1 = v ∧ 0 ≤ v ∧ v < m2) ∨ (t = 10 ∧ a0 = 2113 ∧ a1 = v ∧ a2 = n ∧ (0 ≤ v ∧ v < m2) ∧ 0 ≤ n ∧ n < m1) ∨ (t = 23 ∧ a0 = 2126) ∨ ((t = 60 ∨ t = 61 ∨ t = 62) ∧ a0 = 2112 ∧ a1 = v ∧ a2 = n ∧ a5 = t ∧ (0 ≤ v ∧ v < m2) ∧ 0 ≤ n ∧ n ≤ 99))) ∨
  (k = 24 ∧ a0 = 22 ∧ a1 = n ∧ a4 = pr ∧ 1 ≤ n ∧ n ≤ 99) ∨
  (k = 25 ∧ a0 = 23 ∧ a4 = pr) ∨
  (k = 26 ∧ a0 = 24)
def bs_op (k : Int) : Prop := k = 21 ∨ k = 24
def bs_nest (ki pa : Int → Int) (n : Int) : Prop :=
  (∀ o, 0 ≤ o → o < n → bs_op (ki o) → o < pa o ∧ pa o < n ∧ ki (pa o) = 25 ∧ pa (pa o) = o) ∧
  (∀ e, 0 ≤ e → e < n → ki e = 25 → 0 ≤ pa e ∧ pa e < e ∧ bs_op (ki (pa e)) ∧ pa (pa e) = e) ∧
  (∀ o k, 0 ≤ o → o < k → k < pa o → pa o < n → bs_op (ki o) → bs_op (ki k) → pa k < pa o) ∧
  (∀ k, 0 ≤ k → k + 3 < n → ¬ (ki k = 25 ∧ ki (k + 1) = 25 ∧ ki (k + 2) = 25 ∧ ki (k + 3) = 25))
def bs_Pr (h : bc_H) (p : Int) (A : Int → Int) : Prop := (∀ k, 0 ≤ k → k < A 8 → bs_ln (h (p + 1) k) (h (p + 2) k) (h (p + 3) k) (h (p + 4) k) (h (p + 5) k) (A (160 + 6 * k)) (A (160 + 6 * k + 1)) (A (160 + 6 * k + 2)) (A (160 + 6 * k + 4)) (A (160 + 6 * k + 5)) (A 1) (A 2)) ∧ bs_nest (h (p + 1)) (h (p + 5)) (A 8)
def bs_Pl (h : bc_H) (p : Int) (A : Int → Int) : Prop := (0 ≤ h p 2 ∧ h p 2 ≤ 60) ∧ ((h p 0 = 0 ∧ A 8 = -1) ∨ (h p 0 = 1 ∧ h p 2 = A 8 ∧ (0 ≤ A 8 ∧ A 8 ≤ 60) ∧ bs_Pr h p A))
def bs_Cave (h : bc_H) (c p : Int) (A NM : Int → Int) : Prop := bs_C h c A ∧ bs_W A ∧ (0 ≤ A 6 ∧ A 6 ≤ 9999) ∧ bs_Nm (h c 11) (h (c + 17)) (h (c + 18)) (h (c + 19)) A NM ∧ bs_Pl h p A
def bs_Rtr (s z x s' z' x' : Int → Int) : Prop := ∀ t, 0 ≤ t → t < 4 → (s t = -1 ∧ z t = 0 ∧ z' t = -1) ∨ (s t = s' t ∧ (0 ≤ s t ∧ s t ≤ 3) ∧ z t = z' t ∧ (0 ≤ z t ∧ z t ≤ 60) ∧ ∀ k, 0 ≤ k → k < z t → x (t * 60 + k) = x' (60 * t + k))
def bs_Rtp (n n' : Int) (x x' : Int → Int) : Prop := n = n' ∧ (0 ≤ n ∧ n ≤ 900) ∧ ∀ k, 0 ≤ k → k < n → x k = x' k ∧ -128 ≤ x k ∧ x k ≤ 127
def bs_Rlo (r l : Int → Int) : Prop := ∀ k, 0 ≤ k → k < 60 → (0 ≤ l k ∧ l k ≤ 98) ∧ (r k = l k + 1 ∨ (r k = 0 ∧ l k = 0))
def bs_Rrs (x : Int → Int) : Prop := ∀ i, 0 ≤ i → i < 27 → x i = bc_hB 8 i
def bs_R (S : Int → Int) (L c s p q : Int) (h : bc_H) : Prop :=
  (((c = 24 ∧ s = 44) ∨ (c = 44 ∧ s = 24)) ∧ ((p = 64 ∧ q = 70) ∨ (p = 70 ∧ q = 64))) ∧
  (h 0 12 = c ∧ h 0 13 = s ∧ h 0 14 = p ∧ h 0 15 = q) ∧
  (h (-2) = S ∧ h (-3) 0 = L) ∧
  (h 0 0 = h 156 2) ∧ (h 0 1 = h 156 3 ∧ h 0 2 = h 156 4) ∧
  bs_Rtr (h 3) (h 4) (h 5) (h 159) (h 160) (h 161) ∧
  bs_Rtp (h 6 0) (h 156 10) (h 7) (h 162) ∧
  (h 6 1 = h 156 16 ∧ h 6 2 = h 156 17) ∧
  (h 0 3 = h 156 48 ∧ (h 0 3 = 0 ∨ h 0 3 = 1) ∧ ∀ i, 0 ≤ i → i < 5 → h 1 i = h 184 i) ∧
  bs_Rlo (h 13) (h 182) ∧ bs_Rrs (h 8) ∧
  (h 0 16 = h 156 49 ∧ (0 ≤ h 0 16 ∧ h 0 16 ≤ 3) ∧ (∀ i, 0 ≤ i → i < 3 → h 76 i = 78 + 26 * i ∧ h 77 i = 98 + 26 * i) ∧ ∀ i, 0 ≤ i → i < h 0 16 → bs_Cave h (78 + 26 * i) (98 + 26 * i) (fun k => h 157 (528 * (i + 1) + k)) (fun k => h 158 (26 * (i + 1) + k))) ∧
  bs_Cave h c p (h 157) (h 158)
/-! what each piece looks at -/
theorem bs_C_h {h h' : bc_H} {c : Int} {A : Int → Int} (hr : ∀ a b, c ≤ a → a < c + 17 → (a ≠ c ∨ b ≠ 11) → h' a b = h a b) (hC : bs_C h c A) : bs_C h' c A := by
  obtain ⟨⟨n4, n5, n6, n2, n0, n1, n3⟩, hw, hd, hg, hf, hm⟩ := hC
  refine ⟨⟨?_, ?_, ?_, ?_, ?_, ?_, ?_⟩, fun w w0 w1 => ?_, fun a b a0 a1 b0 b1 => ?_, fun a b a0 a1 b0 b1 => ?_, fun f f0 f1 => ?_, fun v v0 v1 => ?_⟩
  · rw [hr _ _ (by omega) (by omega) (by omega)]; exact n4
  · rw [hr _ _ (by omega) (by omega) (by omega)]; exact n5
  · rw [hr _ _ (by omega) (by omega) (by omega)]; exact n6
  · rw [hr _ _ (by omega) (by omega) (by omega)]; exact n2
  · rw [hr _ _ (by omega) (by omega) (by omega)]; exact n0
  · rw [hr _ _ (by omega) (by omega) (by omega)]; exact n1
  · rw [hr _ _ (by omega) (by omega) (by omega)]; exact n3
  · rw [hr _ _ (by omega) (by omega) (by omega), hr (c + 3 + 2) _ (by omega) (by omega) (by omega)]; exact hw w w0 w1
  · rw [hr _ _ (by omega) (by omega) (by omega), hr (c + 3 + 4) _ (by omega) (by omega) (by omega)]; exact hd a b a0 a1 b0 b1
  · rw [hr _ _ (by omega) (by omega) (by omega)]; exact hg a b a0 a1 b0 b1
  · rw [hr (c + 8 + 1) _ (by omega) (by omega) (by omega), hr (c + 8 + 2) _ (by omega) (by omega) (by omega), hr (c + 8 + 3) _ (by omega) (by omega) (by omega), hr (c + 8 + 4) _ (by omega) (by omega) (by omega)]; exact hf f f0 f1
  · rw [hr (c + 13) _ (by omega) (by omega) (by omega), hr (c + 14) _ (by omega) (by omega) (by omega), hr (c + 15) _ (by omega) (by omega) (by omega)]
    refine ⟨(hm v v0 v1).1, (hm v v0 v1).2.1, (hm v v0 v1).2.2.1, fun b b0 b5 => ?_⟩
    rw [hr (c + 16) _ (by omega) (by omega) (by omega)]
    exact (hm v v0 v1).2.2.2 b b0 b5
theorem bs_W_A {A B : Int → Int} (hW : bs_W A) (e : ∀ k, 0 ≤ k → k < 160 → k ≠ 6 → k ≠ 8 → B k = A k) : bs_W B := by
  obtain ⟨⟨w0, w1, w2, w3, w4, w5, w7⟩, hw, hy, hv, hf, hg⟩ := hW
  have e0 := e 0 (by omega) (by omega) (by omega) (by omega)
  have e1 := e 1 (by omega) (by omega) (by omega) (by omega)
  have e2 := e 2 (by omega) (by omega) (by omega) (by omega)
  have e3 := e 3 (by omega) (by omega) (by omega) (by omega)
  have e4 := e 4 (by omega) (by omega) (by omega) (by omega)
  have e5 := e 5 (by omega) (by omega) (by omega) (by omega)
  have e7 := e 7 (by omega) (by omega) (by omega) (by omega)
  refine ⟨?_, fun w h0 h1 => ?_, fun k h0 h1 => ?_, fun v h0 h1 => ?_, fun f h0 h1 => ?_, fun a b a0 a1 b0 b1 => ?_⟩
  · rw [e0, e1, e2, e3, e4, e5, e7]; exact ⟨w0, w1, w2, w3, w4, w5, w7⟩
  · rw [e1] at h1
    rw [e (10 + 2 * w) (by omega) (by omega) (by omega) (by omega), e (10 + 2 * w + 1) (by omega) (by omega) (by omega) (by omega), e0]; exact hw w h0 h1
  · rw [e7] at h1
    rw [e (24 + 3 * k) (by omega) (by omega) (by omega) (by omega), e (24 + 3 * k + 1) (by omega) (by omega) (by omega) (by omega), e (24 + 3 * k + 2) (by omega) (by omega) (by omega) (by omega), e1]; exact hy k h0 h1
  · rw [e2] at h1
    rw [e (54 + 8 * v) (by omega) (by omega) (by omega) (by omega), e (54 + 8 * v + 1) (by omega) (by omega) (by omega) (by omega), e (54 + 8 * v + 2) (by omega) (by omega) (by omega) (by omega), e1]
    refine ⟨(hv v h0 h1).1, (hv v h0 h1).2.1, (hv v h0 h1).2.2.1, fun b b0 b5 => ?_⟩
    rw [e (54 + 8 * v + (3 + b)) (by omega) (by omega) (by omega) (by omega), e0]
    exact (hv v h0 h1).2.2.2 b b0 b5
  · rw [e3] at h1
    rw [e (102 + 4 * f) (by omega) (by omega) (by omega) (by omega), e (102 + 4 * f + 1) (by omega) (by omega) (by omega) (by omega), e (102 + 4 * f + 2) (by omega) (by omega) (by omega) (by omega), e (102 + 4 * f + 3) (by omega) (by omega) (by omega) (by omega), e0, e3]; exact hf f h0 h1
  · rw [e0] at a1 b1
    rw [e (134 + 5 * a + b) (by omega) (by omega) (by omega) (by omega)]; exact hg a b a0 a1 b0 b1
theorem bs_C_A {h : bc_H} {c : Int} {A B : Int → Int} (hW : bs_W A) (e : ∀ k, 0 ≤ k → k < 160 → k ≠ 8 → B k = A k) (hC : bs_C h c A) : bs_C h c B := by
  have hn := hW.1
  obtain ⟨⟨n4, n5, n6, n2, n0, n1, n3⟩, hw, hd, hg, hf, hm⟩ := hC
  have e0 := e 0 (by omega) (by omega) (by omega)
  have e1 := e 1 (by omega) (by omega) (by omega)
  have e2 := e 2 (by omega) (by omega) (by omega)
  have e3 := e 3 (by omega) (by omega) (by omega)
  have e4 := e 4 (by omega) (by omega) (by omega)
  have e5 := e 5 (by omega) (by omega) (by omega)
  have e6 := e 6 (by omega) (by omega) (by omega)
  have e7 := e 7 (by omega) (by omega) (by omega)
  have hwa : bs_wag A B := ⟨e1, e7, fun k h0 h1 => e k (by omega) (by omega) (by omega)⟩
  refine ⟨⟨?_, ?_, ?_, ?_, ?_, ?_, ?_⟩, fun w h0 h1 => ?_, fun a b a0 a1 b0 b1 => ?_, fun a b a0 a1 b0 b1 => ?_, fun f h0 h1 => ?_, fun v h0 h1 => ?_⟩
  · rw [e4]; exact n4
  · rw [e5]; exact n5
  · rw [e6]; exact n6
  · rw [e2]; exact n2
  · rw [e0]; exact n0
  · rw [e1]; exact n1
  · rw [e3]; exact n3
  · rw [e1] at h1
    rw [e (10 + 2 * w) (by omega) (by omega) (by omega), e (10 + 2 * w + 1) (by omega) (by omega) (by omega)]; exact hw w h0 h1
  · rw [e1] at a1 b1
    rw [bs_way_congr hwa hn.2.2.2.2.2.2, bs_far_congr hwa hn.2.2.2.2.2.2]; exact hd a b a0 a1 b0 b1
  · rw [e0] at a1 b1
    rw [e (134 + 5 * a + b) (by omega) (by omega) (by omega)]; exact hg a b a0 a1 b0 b1
  · rw [e3] at h1
    rw [e (102 + 4 * f) (by omega) (by omega) (by omega), e (102 + 4 * f + 1) (by omega) (by omega) (by omega), e (102 + 4 * f + 2) (by omega) (by omega) (by omega), e (102 + 4 * f + 3) (by omega) (by omega) (by omega)]; exact hf f h0 h1
  · rw [e2] at h1
    rw [e (54 + 8 * v) (by omega) (by omega) (by omega), e (54 + 8 * v + 1) (by omega) (by omega) (by omega), e (54 + 8 * v + 2) (by omega) (by omega) (by omega)]
    refine ⟨(hm v h0 h1).1, (hm v h0 h1).2.1, (hm v h0 h1).2.2.1, fun b b0 b5 => ?_⟩
    rw [e (54 + 8 * v + (3 + b)) (by omega) (by omega) (by omega)]
    exact (hm v h0 h1).2.2.2 b b0 b5
theorem bs_fst_congr {p q : Int → Prop} [DecidablePred p] [DecidablePred q] {n : Int} (h : ∀ i, 0 ≤ i → i < n → (p i ↔ q i)) : bs_fst p n = bs_fst q n := bc_it_congr (fun i x h0 h1 => by
  by_cases a : p i
  · rw [if_pos a, if_pos ((h i h0 h1).mp a)]
  · rw [if_neg a, if_neg (fun z => a ((h i h0 h1).mpr z))])
theorem bs_rn_A {NM NM' : Int → Int} {off m x : Int} (h : ∀ k, 0 ≤ k → k < m → NM' (off + k) = NM (off + k)) : bs_rn NM' off m x = bs_rn NM off m x := bs_fst_congr (fun i h0 h1 => by rw [h i h0 h1])
theorem bs_Nm_A {n : Int} {co ki nu A B NM NM' : Int → Int} (hW : bs_W A) (e0 : B 0 = A 0) (e1 : B 1 = A 1) (e2 : B 2 = A 2) (e3 : B 3 = A 3) (e : ∀ k, 0 ≤ k → k < 26 → NM' k = NM k) (hN : bs_Nm n co ki nu A NM) : bs_Nm n co ki nu B NM' := by
  have hn := hW.1
  refine ⟨by rw [e0, e1, e2, e3]; exact hN.1, fun l hl => ?_⟩
  have t := hN.2 l hl
  rw [e0, e1, e2, e3, bs_rn_A (NM' := NM') (NM := NM) (off := 0) (fun k h0 h1 => e _ (by omega) (by omega)), bs_rn_A (NM' := NM') (NM := NM) (off := 5) (fun k h0 h1 => e _ (by omega) (by omega)), bs_rn_A (NM' := NM') (NM := NM) (off := 12) (fun k h0 h1 => e _ (by omega) (by omega)), bs_rn_A (NM' := NM') (NM := NM) (off := 18) (fun k h0 h1 => e _ (by omega) (by omega))]
  exact t
theorem bs_ln_m {k t v n pr a0 a1 a2 a4 a5 m1 m2 k1 k2 : Int} (h1 : m1 ≤ k1) (h2 : m2 ≤ k2) (h : bs_ln k t v n pr a0 a1 a2 a4 a5 m1 m2) : bs_ln k t v n pr a0 a1 a2 a4 a5 k1 k2 := by
  rcases h with h | h | h | h | h | h | h | h | h
  · exact Or.inl h
  · exact Or.inr (Or.inl ⟨h.1, h.2.1, h.2.2.1, h.2.2.2.1, ⟨h.2.2.2.2.1.1, Int.lt_of_lt_of_le h.2.2.2.2.1.2 h2⟩, h.2.2.2.2.2.1, Int.lt_of_lt_of_le h.2.2.2.2.2.2 h1⟩)
  · exact Or.inr (Or.inr (Or.inl ⟨h.1, h.2.1, h.2.2.1, h.2.2.2.1, Int.lt_of_lt_of_le h.2.2.2.2 h2⟩))
  · exact Or.inr (Or.inr (Or.inr (Or.inl h)))
  · exact Or.inr (Or.inr (Or.inr (Or.inr (Or.inl h))))
  · refine Or.inr (Or.inr (Or.inr (Or.inr (Or.inr (Or.inl ⟨h.1, h.2.1, ?_⟩)))))
    rcases h.2.2 with g | g | g | g
    · exact Or.inl ⟨g.1, g.2.1, g.2.2.1, g.2.2.2.1, Int.lt_of_lt_of_le g.2.2.2.2 h2⟩
    · exact Or.inr (Or.inl ⟨g.1, g.2.1, g.2.2.1, g.2.2.2.1, ⟨g.2.2.2.2.1.1, Int.lt_of_lt_of_le g.2.2.2.2.1.2 h2⟩, g.2.2.2.2.2.1, Int.lt_of_lt_of_le g.2.2.2.2.2.2 h1⟩)
    · exact Or.inr (Or.inr (Or.inl g))
    · exact Or.inr (Or.inr (Or.inr ⟨g.1, g.2.1, g.2.2.1, g.2.2.2.1, g.2.2.2.2.1, ⟨g.2.2.2.2.2.1.1, Int.lt_of_lt_of_le g.2.2.2.2.2.1.2 h2⟩, g.2.2.2.2.2.2⟩))
  · exact Or.inr (Or.inr (Or.inr (Or.inr (Or.inr (Or.inr (Or.inl h))))))
  · exact Or.inr (Or.inr (Or.inr (Or.inr (Or.inr (Or.inr (Or.inr (Or.inl h)))))))
  · exact Or.inr (Or.inr (Or.inr (Or.inr (Or.inr (Or.inr (Or.inr (Or.inr h)))))))
theorem bs_Pl_A {h h' : bc_H} {p : Int} {A B : Int → Int} (hr : ∀ a b, p ≤ a → a < p + 6 → h' a b = h a b) (e1 : A 1 ≤ B 1) (e2 : A 2 ≤ B 2) (e : ∀ k, k = 8 ∨ (160 ≤ k ∧ k < 520) → B k = A k) (hP : bs_Pl h p A) : bs_Pl h' p B := by
  obtain ⟨hl, hP⟩ := hP
  refine ⟨by rw [hr _ _ (by omega) (by omega)]; exact hl, ?_⟩
  rw [hr _ _ (by omega) (by omega), hr p 2 (by omega) (by omega), e 8 (Or.inl rfl)]
  rcases hP with hP | ⟨q0, q2, q8, hr1, hn⟩
  · exact Or.inl hP
  · refine Or.inr ⟨q0, q2, q8, fun k h0 h1 => ?_, ?_⟩
    · rw [e 8 (Or.inl rfl)] at h1
      rw [hr (p + 1) _ (by omega) (by omega), hr (p + 2) _ (by omega) (by omega), hr (p + 3) _ (by omega) (by omega), hr (p + 4) _ (by omega) (by omega), hr (p + 5) _ (by omega) (by omega)]
      rw [e (160 + 6 * k) (Or.inr (by omega)), e (160 + 6 * k + 1) (Or.inr (by omega)), e (160 + 6 * k + 2) (Or.inr (by omega)), e (160 + 6 * k + 4) (Or.inr (by omega)), e (160 + 6 * k + 5) (Or.inr (by omega))]
      exact bs_ln_m e1 e2 (hr1 k h0 h1)
    · rw [e 8 (Or.inl rfl), show h' (p + 1) = h (p + 1) from funext (fun b => hr _ _ (by omega) (by omega)), show h' (p + 5) = h (p + 5) from funext (fun b => hr _ _ (by omega) (by omega))]
      exact hn
theorem bs_Cave_h {h h' : bc_H} {c p : Int} {A B NM NM' : Int → Int} (hr : ∀ a b, (c ≤ a ∧ a < c + 20) ∨ (p ≤ a ∧ a < p + 6) → h' a b = h a b) (e : ∀ k, 0 ≤ k → k < 528 → B k = A k) (en : ∀ k, 0 ≤ k → k < 26 → NM' k = NM k) (hC : bs_Cave h c p A NM) : bs_Cave h' c p B NM' := by
  obtain ⟨h1, h2, h3, h4, h5⟩ := hC
  refine ⟨bs_C_A h2 (fun k a b _ => e k a (by omega)) (bs_C_h (fun a b a0 a1 _ => hr a b (by omega)) h1), bs_W_A h2 (fun k a b _ _ => e k a (by omega)), by rw [e 6 (by omega) (by omega)]; exact h3, ?_, bs_Pl_A (fun a b a0 a1 => hr a b (by omega)) (by rw [e 1 (by omega) (by omega)]; exact Int.le_refl _) (by rw [e 2 (by omega) (by omega)]; exact Int.le_refl _) (fun k hk => e k (by omega) (by omega)) h5⟩
  rw [hr c 11 (by omega), show h' (c + 17) = h (c + 17) from funext (fun b => hr _ _ (by omega)), show h' (c + 18) = h (c + 18) from funext (fun b => hr _ _ (by omega)), show h' (c + 19) = h (c + 19) from funext (fun b => hr _ _ (by omega))]
  exact bs_Nm_A h2 (e 0 (by omega) (by omega)) (e 1 (by omega) (by omega)) (e 2 (by omega) (by omega)) (e 3 (by omega) (by omega)) en h4
/-! the places that count; m: those of the cave that is and of its row too -/
def bs_keep (s q a b : Int) : Prop := a < 0 ∨ (a = 0 ∧ b ≠ 0) ∨ (1 ≤ a ∧ a ≤ 5) ∨ (a = 6 ∧ b ≤ 2) ∨ a = 7 ∨ a = 8 ∨ a = 13 ∨ (24 ≤ a ∧ a ≤ 155 ∧ ¬ (s ≤ a ∧ a < s + 20) ∧ ¬ (q ≤ a ∧ a < q + 6)) ∨ (a = 156 ∧ (b = 3 ∨ b = 4 ∨ b = 10 ∨ b = 16 ∨ b = 17 ∨ b = 48 ∨ b = 49)) ∨ (a = 157 ∧ b < 2112) ∨ (a = 158 ∧ b < 104) ∨ (159 ≤ a ∧ a ≤ 162) ∨ a = 182 ∨ a = 184
def bs_F (s q : Int) (h h' : bc_H) : Prop := ∀ a b, bs_keep s q a b → h' a b = h a b
theorem bs_F_refl (s q : Int) (h : bc_H) : bs_F s q h h := fun _ _ _ => rfl
theorem bs_F_tr {s q : Int} {h h1 h2 : bc_H} (a : bs_F s q h h1) (b : bs_F s q h1 h2) : bs_F s q h h2 := fun x y k => (b x y k).trans (a x y k)
theorem bs_F_u {s q : Int} {h h' : bc_H} {r j v : Int} (hF : bs_F s q h h') (n : ¬ bs_keep s q r j) : bs_F s q h (bc_upd h' r j v) := fun a b k => by
  rw [bc_un2 ?_]
  · exact hF a b k
  · by_cases e : a = r
    · by_cases e2 : b = j
      · rw [e, e2] at k; exact absurd k n
      · exact Or.inr e2
    · exact Or.inl e
/-- the pieces but for the cave that is and the status -/
theorem bs_R_G {S : Int → Int} {L c s p q : Int} {h h' : bc_H} (hR : bs_R S L c s p q h) (hF : ∀ a b, bs_keep s q a b → ¬ (c ≤ a ∧ a < c + 20) → ¬ (a = 157 ∧ 0 ≤ b ∧ b < 528) → ¬ (a = 158 ∧ 0 ≤ b ∧ b < 26) → ¬ (p ≤ a ∧ a < p + 6) → h' a b = h a b) (hs : h' 0 0 = h' 156 2) (hC : bs_Cave h' c p (h' 157) (h' 158)) : bs_R S L c s p q h' := by
  obtain ⟨r1, r2, r3, r4, r5, r6, r7, r8, r9, r10, r11, ⟨m1, m2, m3, m4⟩, r13⟩ := hR
  have row : ∀ a, (a = -2 ∨ a = 1 ∨ a = 3 ∨ a = 4 ∨ a = 5 ∨ a = 7 ∨ a = 8 ∨ a = 13 ∨ a = 159 ∨ a = 160 ∨ a = 161 ∨ a = 162 ∨ a = 182 ∨ a = 184 ∨ a = 76 ∨ a = 77) → h' a = h a := fun a ha => funext (fun b => hF a b (by unfold bs_keep; omega) (by omega) (by omega) (by omega) (by omega))
  have f0 : ∀ b, b ≠ 0 → h' 0 b = h 0 b := fun b hb => hF 0 b (by unfold bs_keep; omega) (by omega) (by omega) (by omega) (by omega)
  have f6 : ∀ b, b ≤ 2 → h' 6 b = h 6 b := fun b hb => hF 6 b (by unfold bs_keep; omega) (by omega) (by omega) (by omega) (by omega)
  have fm : ∀ b, (b = 3 ∨ b = 4 ∨ b = 10 ∨ b = 16 ∨ b = 17 ∨ b = 48 ∨ b = 49) → h' 156 b = h 156 b := fun b hb => hF 156 b (by unfold bs_keep; omega) (by omega) (by omega) (by omega) (by omega)
  refine ⟨r1, ?_, ?_, hs, ?_, ?_, ?_, ?_, ?_, ?_, ?_, ⟨?_, ?_, ?_, ?_⟩, hC⟩
  · rw [f0 12 (by omega), f0 13 (by omega), f0 14 (by omega), f0 15 (by omega)]; exact r2
  · rw [row (-2) (by omega), hF (-3) 0 (by unfold bs_keep; omega) (by omega) (by omega) (by omega) (by omega)]; exact r3
  · rw [f0 1 (by omega), f0 2 (by omega), fm 3 (by omega), fm 4 (by omega)]; exact r5
  · rw [row 3 (by omega), row 4 (by omega), row 5 (by omega), row 159 (by omega), row 160 (by omega), row 161 (by omega)]; exact r6
  · rw [f6 0 (by omega), fm 10 (by omega), row 7 (by omega), row 162 (by omega)]; exact r7
  · rw [f6 1 (by omega), f6 2 (by omega), fm 16 (by omega), fm 17 (by omega)]; exact r8
  · rw [f0 3 (by omega), fm 48 (by omega), row 1 (by omega), row 184 (by omega)]; exact r9
  · rw [row 13 (by omega), row 182 (by omega)]; exact r10
  · rw [row 8 (by omega)]; exact r11
  · rw [f0 16 (by omega), fm 49 (by omega)]; exact m1
  · rw [f0 16 (by omega)]; exact m2
  · rw [row 76 (by omega), row 77 (by omega)]; exact m3
  · intro i i0 i1
    rw [f0 16 (by omega)] at i1
    refine bs_Cave_h (fun a b hab => hF a b (by unfold bs_keep; omega) (by omega) (by omega) (by omega) (by omega)) (fun k k0 k1 => hF 157 _ (by unfold bs_keep; omega) (by omega) (by omega) (by omega) (by omega)) (fun k k0 k1 => hF 158 _ (by unfold bs_keep; omega) (by omega) (by omega) (by omega) (by omega)) (m4 i i0 i1)
/-- nothing that counts has changed but the status -/
theorem bs_R_F {S : Int → Int} {L c s p q : Int} {h h' : bc_H} (hR : bs_R S L c s p q h) (hF : bs_F s q h h') (hs : h' 0 0 = h' 156 2) : bs_R S L c s p q h' := by
  have r1 := hR.1
  refine bs_R_G hR (fun a b k _ _ _ _ => hF a b k) hs ?_
  exact bs_Cave_h (fun a b hab => hF a b (by unfold bs_keep; omega)) (fun k k0 k1 => hF 157 k (by unfold bs_keep; omega)) (fun k k0 k1 => hF 158 k (by unfold bs_keep; omega)) hR.2.2.2.2.2.2.2.2.2.2.2.2
