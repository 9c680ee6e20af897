/-! ===== days: class and reference line by line ===== -/
def bs_lnX (k t v n pr a0 a1 a2 a4 a5 m1 m2 : Int) : Prop := bs_ln k t v n (if pr = -1 then a4 else pr) a0 a1 a2 a4 a5 m1 m2
theorem bs_ln_pr {k t v n a4 a0 a1 a2 a5 m1 m2 : Int} (h : bs_ln k t v n a4 a0 a1 a2 a4 a5 m1 m2) (b : Int) : bs_ln k t v n b a0 a1 a2 b a5 m1 m2 := by
  unfold bs_ln at *
  rcases h with h | h | h | h | h | h | h | h | h
  · exact Or.inl h
  · exact Or.inr (Or.inl h)
  · exact Or.inr (Or.inr (Or.inl h))
  · exact Or.inr (Or.inr (Or.inr (Or.inl h)))
  · exact Or.inr (Or.inr (Or.inr (Or.inr (Or.inl h))))
  · exact Or.inr (Or.inr (Or.inr (Or.inr (Or.inr (Or.inl ⟨h.1, rfl, h.2.2⟩)))))
  · exact Or.inr (Or.inr (Or.inr (Or.inr (Or.inr (Or.inr (Or.inl ⟨h.1, h.2.1, h.2.2.1, rfl, h.2.2.2.2⟩))))))
  · exact Or.inr (Or.inr (Or.inr (Or.inr (Or.inr (Or.inr (Or.inr (Or.inl ⟨h.1, h.2.1, rfl⟩)))))))
  · exact Or.inr (Or.inr (Or.inr (Or.inr (Or.inr (Or.inr (Or.inr (Or.inr h)))))))
def bs_DS (h : bc_H) (T : Int → Int) (n c q : Int) (m : bc_H) : Prop := bs_PT T n m ∧ (m 6 0 = 0 ∧ m 6 1 = 0 ∧ m 6 2 = -1) ∧ (m 9 1 = c ∧ m 9 2 = q) ∧ (∀ x, x ≠ 6 → x ≠ 9 → x ≠ 10 → x ≠ 11 → ¬ (q ≤ x ∧ x < q + 6) → m x = h x) ∧ (m q 0 = 0 ∧ 0 ≤ m q 2 ∧ 0 ≤ m q 1 ∧ m q 1 ≤ 30 ∧ m q 2 + m 9 6 ≤ 2 * m q 1) ∧ bs_nst (m (q + 1)) (m (q + 5)) (m q 2) (m 9 6) (m 11)
def bs_DL (m g : bc_H) (q w1 w2 k : Int) : Prop := bs_lnX (m (q + 1) k) (m (q + 2) k) (m (q + 3) k) (m (q + 4) k) (m (q + 5) k) (g 157 (2272 + 6 * k)) (g 157 (2272 + 6 * k + 1)) (g 157 (2272 + 6 * k + 2)) (g 157 (2272 + 6 * k + 4)) (g 157 (2272 + 6 * k + 5)) w1 w2
def bs_DM (T : Int → Int) (n c q w1 w2 : Int) (g0 m g : bc_H) : Prop := (∀ x, x ≠ 156 → x ≠ 157 → x ≠ 163 → x ≠ 164 → g x = g0 x) ∧ (∀ y, (y < 10 ∨ 23 < y ∨ y = 16 ∨ y = 20 ∨ y = 21) → g 156 y = g0 156 y) ∧ (g 156 10 = 0 ∧ g 156 17 = -1 ∧ g 156 18 = 0) ∧ bs_Tk T n m g ∧ (∀ k, (k < 2112 ∨ 2640 ≤ k) → g 157 k = g0 157 k) ∧ (g 157 2120 = m q 2 ∧ g 156 22 = m 9 6 ∧ g 156 23 = m q 1) ∧ (∀ i, 0 ≤ i → i < m 9 6 → g 164 i = m 11 i) ∧ (∀ k, 0 ≤ k → k < m q 2 → bs_DL m g q w1 w2 k) ∧ (bs_W (g0 157) ∧ bs_Nm (m c 11) (m (c + 17)) (m (c + 18)) (m (c + 19)) (g0 157) (g0 158) ∧ g0 157 1 = w1 ∧ g0 157 2 = w2)
def bs_DQ (g0 m g : bc_H) : Prop := (∀ x, x ≠ 156 → x ≠ 157 → x ≠ 158 → x ≠ 163 → x ≠ 164 → g x = g0 x) ∧ (∀ y, (y < 10 ∨ 23 < y ∨ y = 16 ∨ y = 20 ∨ y = 21) → g 156 y = g0 156 y) ∧ g 156 10 = 0 ∧ (g 156 18 = m 6 1 ∧ g 156 17 = m 6 2) ∧ (∀ k, (k < 2112 ∨ 2640 ≤ k) → g 157 k = g0 157 k) ∧ ∀ k, (k < 104 ∨ 130 ≤ k) → g 158 k = g0 158 k
def bs_DF (h : bc_H) (q : Int) (m : bc_H) : Prop := (m 6 0 = 0 ∧ 0 < m 6 1) ∧ ∀ x, x ≠ 6 → x ≠ 9 → x ≠ 10 → x ≠ 11 → ¬ (q ≤ x ∧ x < q + 6) → m x = h x
def bs_Dc1 (T : Int → Int) (n c q w1 w2 : Int) (m m' : bc_H) (G : bs_RT) : Prop := ∀ (g0 g : bc_H) (P N : bc_H → Prop), bs_DM T n c q w1 w2 g0 m g → (∀ g', bs_DM T n c q w1 w2 g0 m' g' → P g') → G g P N
def bs_Dc0 (T : Int → Int) (n c q w1 w2 : Int) (m m' : bc_H) (G : bs_RT) : Prop := ∀ (g0 g : bc_H) (P N : bc_H → Prop), bs_DM T n c q w1 w2 g0 m g → (∀ g', bs_DQ g0 m' g' → N g') → G g P N
def bs_dSt (D : Nat) : bs_RT := fun g P N => bf_M_dayStep (D + 7) g (bc_B P N)
theorem bs_DF_of {h : bc_H} {q k : Int} {m : bc_H} (z : m 6 0 = 0) (hm : ∀ x, x ≠ 6 → x ≠ 9 → x ≠ 10 → x ≠ 11 → ¬ (q ≤ x ∧ x < q + 6) → m x = h x) (hk : 1 ≤ k) : bs_DF h q (bs_fl m k) := by
  have f := bs_fl_1 m k
  refine ⟨⟨by rw [f.2.2.2 0 (by decide) (by decide)]; exact z, by rw [f.1]; split <;> omega⟩, fun x a b d e r => by rw [f.2.2.1 x a]; exact hm x a b d e r⟩
/-- the reference's fault at once -/
theorem bs_DQ_fg {T : Int → Int} {n c q w1 w2 k : Int} {g0 m g : bc_H} (dm : bs_DM T n c q w1 w2 g0 m g) : bs_DQ g0 (bs_fl m k) (bs_fg m g k) := by
  obtain ⟨a1, a2, ⟨a3, a4, a5⟩, a6, a7, a8, a9, a10, a11⟩ := dm
  have f := bs_fl_1 m k
  have u : ∀ x, x ≠ 156 → bs_fg m g k x = g x := fun x hx => by unfold bs_fg; rw [bc_urow hx, bc_urow hx]
  have v : ∀ y, y ≠ 17 → y ≠ 18 → bs_fg m g k 156 y = g 156 y := fun y y1 y2 => by unfold bs_fg; rw [bc_uj y1, bc_uj y2]
  have w : bs_fg m g k 156 18 = (if m 6 12 = 4 then 1 else k) := by unfold bs_fg; rw [bc_uj (by decide), bc_uu]
  have w' : bs_fg m g k 156 17 = m 6 11 := by unfold bs_fg; rw [bc_uu]
  exact ⟨fun x x1 x2 x3 x4 x5 => by rw [u x x1]; exact a1 x x1 x2 x4 x5, fun y hy => by rw [v y (by omega) (by omega)]; exact a2 y hy, by rw [v 10 (by decide) (by decide)]; exact a3, ⟨by rw [w, f.1], by rw [w', f.2.1]⟩, fun k hk => by rw [u 157 (by decide)]; exact a7 k hk, fun k hk => by rw [u 158 (by decide), a1 158 (by decide) (by decide) (by decide) (by decide)]⟩
/-- the next token -/
theorem bs_DM_nx {T : Int → Int} {n c q w1 w2 : Int} {g0 m m1 g g1 : bc_H} (hc : 24 ≤ c ∧ c ≤ 44) (hq : 64 ≤ q) (dm : bs_DM T n c q w1 w2 g0 m g) (l : bs_Tl6 m m1) (a : ∀ x, x ≠ 156 → g1 x = g x) (b : ∀ y, (y < 12 ∨ 15 < y) → g1 156 y = g 156 y) (tk : bs_Tk T n m1 g1) : bs_DM T n c q w1 w2 g0 m1 g1 := by
  obtain ⟨a1, a2, ⟨a3, a4, a5⟩, a6, a7, ⟨b1, b2, b3⟩, a9, a10, a11⟩ := dm
  have r := l.1
  refine ⟨fun x x1 x2 x3 x4 => by rw [a x x1]; exact a1 x x1 x2 x3 x4, fun y hy => by rw [b y (by omega)]; exact a2 y hy, ⟨by rw [b 10 (by decide)]; exact a3, by rw [b 17 (by decide)]; exact a4, by rw [b 18 (by decide)]; exact a5⟩, tk, fun k hk => by rw [a 157 (by decide)]; exact a7 k hk, ⟨by rw [a 157 (by decide), r q (by omega)]; exact b1, by rw [b 22 (by decide), r 9 (by decide)]; exact b2, by rw [b 23 (by decide), r q (by omega)]; exact b3⟩, fun i i0 i1 => by rw [r 9 (by decide)] at i1; rw [a 164 (by decide), r 11 (by decide)]; exact a9 i i0 i1, fun k k0 k1 => ?_, by rw [r c (by omega), r _ (by omega), r _ (by omega), r _ (by omega)]; exact a11⟩
  rw [r q (by omega)] at k1
  have := a10 k k0 k1
  unfold bs_DL at *
  rw [r _ (by omega), r _ (by omega), r _ (by omega), r _ (by omega), r _ (by omega), a 157 (by decide)]
  exact this
/-- a line more -/
def bs_Da (q i t v nn : Int) (m mA : bc_H) : Prop := (∀ x, ¬ (q ≤ x ∧ x < q + 6) → mA x = m x) ∧ (mA q 0 = m q 0 ∧ mA q 1 = m q 1 + (if i = 25 then 0 else 1) ∧ mA q 2 = m q 2 + 1) ∧ mA (q + 1) = bc_set (m (q + 1)) (m q 2) i ∧ mA (q + 2) = bc_set (m (q + 2)) (m q 2) t ∧ mA (q + 3) = bc_set (m (q + 3)) (m q 2) v ∧ mA (q + 4) = bc_set (m (q + 4)) (m q 2) nn ∧ mA (q + 5) = bc_set (m (q + 5)) (m q 2) (-1)
theorem bc_c_dayAdd {d : Nat} {q i t v nn : Int} {m : bc_H} {K : Int → bc_H → Prop} (n0 : 0 ≤ m q 2 ∧ m q 2 < 60) (n1 : 0 ≤ m q 1 ∧ m q 1 ≤ 60) (hK : ∀ mA, bs_Da q i t v nn m mA → K (m q 2) mA) : bf_Days_add d q i t v nn m (bc_I K) := by
  refine rv_Days_add ⟨fun _ => ?_, fun q => by exfalso; omega⟩
  have r1 : bc_upd m (q + 1) (m q 2) i q 2 = m q 2 := bc_ur (by omega)
  rw [r1]
  have r2 : bc_upd (bc_upd m (q + 1) (m q 2) i) (q + 2) (m q 2) t q 2 = m q 2 := by rw [bc_ur (by omega), r1]
  rw [r2]
  refine ⟨by omega, by omega, by omega, fun h2 e2 => ?_⟩
  have r3 : h2 q 2 = m q 2 := by rw [e2, bc_ur (by omega), r2]
  have r4 : bc_upd h2 (q + 4) (m q 2) nn q 2 = m q 2 := by rw [bc_ur (by omega), r3]
  have r5 : bc_upd (bc_upd h2 (q + 4) (m q 2) nn) (q + 5) (m q 2) (-1) q 2 = m q 2 := by rw [bc_ur (by omega), r4]
  rw [r3, r4, r5, bc_wi (x := m q 2 + 1) (by omega) (by omega)]
  refine ⟨by omega, by omega, fun h4 e4 => ?_⟩
  have s : ∀ x, ¬ (q ≤ x ∧ x < q + 6) → h4 x = m x := fun x hx => by
    rw [e4, bc_urow (by omega), bc_urow (by omega), bc_urow (by omega), e2, bc_urow (by omega), bc_urow (by omega), bc_urow (by omega)]
  have sq : ∀ y, y ≠ 2 → h4 q y = m q y := fun y hy => by
    rw [e4, bc_uj hy, bc_ur (by omega), bc_ur (by omega), e2, bc_ur (by omega), bc_ur (by omega), bc_ur (by omega)]
  have s2 : h4 q 2 = m q 2 + 1 := by rw [e4, bc_uu]
  have t1 : h4 (q + 1) = bc_set (m (q + 1)) (m q 2) i := by
    rw [e4, bc_urow (by omega), bc_urow (by omega), bc_urow (by omega), e2, bc_urow (by omega), bc_urow (by omega), bs_rset]
  have t2 : h4 (q + 2) = bc_set (m (q + 2)) (m q 2) t := by
    rw [e4, bc_urow (by omega), bc_urow (by omega), bc_urow (by omega), e2, bc_urow (by omega), bs_rset, bc_urow (by omega)]
  have t3 : h4 (q + 3) = bc_set (m (q + 3)) (m q 2) v := by
    rw [e4, bc_urow (by omega), bc_urow (by omega), bc_urow (by omega), e2, bs_rset, bc_urow (by omega), bc_urow (by omega)]
  have t4 : h4 (q + 4) = bc_set (m (q + 4)) (m q 2) nn := by
    rw [e4, bc_urow (by omega), bc_urow (by omega), bs_rset, e2, bc_urow (by omega), bc_urow (by omega), bc_urow (by omega)]
  have t5 : h4 (q + 5) = bc_set (m (q + 5)) (m q 2) (-1) := by
    rw [e4, bc_urow (by omega), bs_rset, bc_urow (by omega), e2, bc_urow (by omega), bc_urow (by omega), bc_urow (by omega)]
  have fin : ∀ inc, inc = (if i = 25 then (0 : Int) else 1) → K (bc_w32 (bc_upd h4 q 1 (bc_w32 (h4 q 1 + inc)) q 2 - 1)) (bc_upd h4 q 1 (bc_w32 (h4 q 1 + inc))) := fun inc hi => by
    have i0 : 0 ≤ inc ∧ inc ≤ 1 := by rw [hi]; split <;> omega
    rw [sq 1 (by decide), bc_wi (x := m q 1 + inc) (by omega) (by omega), bc_uj (by decide), s2, bc_wi (x := m q 2 + 1 - 1) (by omega) (by omega), show m q 2 + 1 - 1 = m q 2 by omega]
    refine hK _ ⟨fun x hx => by rw [bc_urow (by omega)]; exact s x hx, ⟨by rw [bc_uj (by decide)]; exact sq 0 (by decide), by rw [bc_uu, hi], by rw [bc_uj (by decide)]; exact s2⟩, by rw [bc_urow (by omega)]; exact t1, by rw [bc_urow (by omega)]; exact t2, by rw [bc_urow (by omega)]; exact t3, by rw [bc_urow (by omega)]; exact t4, by rw [bc_urow (by omega)]; exact t5⟩
  exact ⟨fun z => fin 1 (by rw [if_neg z]), fun z => fin 0 (by rw [if_pos (by omega)])⟩
theorem bs_DE_of {T : Int → Int} {n c q w1 w2 k inc : Int} {g0 m g gz : bc_H} (cnt : 0 ≤ m q 2 ∧ m q 2 ≤ 59) (dm : bs_DM T n c q w1 w2 g0 m g) (gf : bs_gz g k inc gz) : bs_DE T n m c (2272 + 6 * g 157 2120) k w1 w2 gz := by
  obtain ⟨a1, a2, ⟨a3, a4, a5⟩, a6, a7, ⟨b1, b2, b3⟩, a9, a10, ⟨hW, nm, e1, e2⟩⟩ := dm
  obtain ⟨c1, c2, c3, c4, c5, c6⟩ := gf
  have e : ∀ k, k < 2112 → gz 157 k = g0 157 k := fun k hk => by rw [c6 k (by omega) (by omega)]; exact a7 k (Or.inl hk)
  refine ⟨bs_Tk_h a6 (fun _ _ => rfl) (fun y hy => c2 y (by omega)) (c1 163 (by decide) (by decide)), by rw [c2 18 (by decide)]; exact a5, c5, ⟨by rw [e 1 (by decide)]; exact e1, by rw [e 2 (by decide)]; exact e2⟩, ?_⟩
  exact bs_Nm_A hW (e 0 (by decide)) (e 1 (by decide)) (e 2 (by decide)) (e 3 (by decide)) (fun k k0 k1 => by rw [c1 158 (by decide) (by decide), a1 158 (by decide) (by decide) (by decide) (by decide)]) nm
theorem bs_Dh_q {m m' : bc_H} (dh : bs_Dh m m') {r : Int} (h : 11 ≤ r ∨ r = 7 ∨ r = 8) : m' r = m r := dh.1 r (by omega) (by omega) (by omega)
/-- class and reference behind a line -/
theorem bs_DM_add {T : Int → Int} {n c q w1 w2 i k t v nn : Int} {X' : (Int → Int) → Int → Int} {g0 m g m' mA gz g1 : bc_H} (hc : 24 ≤ c ∧ c ≤ 44) (hq : 64 ≤ q) (i25 : i ≠ 25) (cnt : 0 ≤ m q 2 ∧ m q 2 ≤ 59) (dm : bs_DM T n c q w1 w2 g0 m g) (gf : bs_gz g k 1 gz) (dh : bs_Dh m m') (ln : bs_ln i t v nn (X' (gz 157) (2272 + 6 * g 157 2120 + 4)) (X' (gz 157) (2272 + 6 * g 157 2120)) (X' (gz 157) (2272 + 6 * g 157 2120 + 1)) (X' (gz 157) (2272 + 6 * g 157 2120 + 2)) (X' (gz 157) (2272 + 6 * g 157 2120 + 4)) (X' (gz 157) (2272 + 6 * g 157 2120 + 5)) w1 w2) (oX : bs_okX X') (X9 : ∀ A k, (k < 2272 + 6 * g 157 2120 ∨ 2272 + 6 * g 157 2120 + 5 < k) → X' A k = A k) (mid : bs_Mid T n m' X' (fun A => A) gz g1) (da : bs_Da q i t v nn m' mA) : bs_DM T n c q w1 w2 g0 mA g1 := by
  obtain ⟨a1, a2, ⟨a3, a4, a5⟩, a6, a7, ⟨b1, b2, b3⟩, a9, a10, a11⟩ := dm
  obtain ⟨c1, c2, c3, c4, c5, c6⟩ := gf
  obtain ⟨d1, d2, d3, d4, d5, d6⟩ := mid
  obtain ⟨f1, ⟨f2, f3, f4⟩, f5, f6, f7, f8, f9⟩ := da
  have mq : m' q = m q := bs_Dh_q dh (by omega)
  have m96 : mA 9 6 = m 9 6 := by rw [f1 9 (by omega), dh.2.2 6 (by decide)]
  have m11 : mA 11 = m 11 := by rw [f1 11 (by omega)]; exact bs_Dh_q dh (by omega)
  rw [mq] at f3 f4 f5 f6 f7 f8 f9
  rw [b1] at X9 ln c4 c5 c6
  have e157 : ∀ j, j ≠ 2120 → (j < 2272 + 6 * m q 2 ∨ 2272 + 6 * m q 2 + 5 < j) → g1 157 j = g 157 j := fun j j1 j2 => by rw [d3, X9 _ j j2, c6 j j1 j2]
  refine ⟨fun x x1 x2 x3 x4 => ?_, fun y hy => by rw [d2 y (by omega), c2 y (by omega)]; exact a2 y hy, ⟨by rw [d2 10 (by decide), c2 10 (by decide)]; exact a3, by rw [d2 17 (by decide), c2 17 (by decide)]; exact a4, d6⟩, bs_Tk_h d5 (fun y _ => by rw [f1 6 (by omega)]) (fun _ _ => rfl) rfl, fun k hk => by rw [e157 k (by omega) (by omega)]; exact a7 k hk, ⟨?_, by rw [d2 22 (by decide), c2 22 (by decide), m96]; exact b2, by rw [d2 23 (by decide), c3, f3, if_neg i25, b3]⟩, fun i i0 i1 => ?_, fun k k0 k1 => ?_, ?_⟩
  · by_cases e : x = 158
    · subst e; rw [d4, c1 158 (by decide) (by decide)]; exact a1 158 (by decide) (by decide) (by decide) (by decide)
    · rw [d1 x x1 x2 e, c1 x x1 x2]; exact a1 x x1 x2 x3 x4
  · rw [d3, X9 _ 2120 (by omega), c4, f4]
  · rw [m96] at i1
    rw [d1 164 (by decide) (by decide) (by decide), c1 164 (by decide) (by decide), m11]; exact a9 i i0 i1
  · rw [f4] at k1
    unfold bs_DL
    rw [f5, f6, f7, f8, f9]
    by_cases e : k = m q 2
    · rw [e, bc_setj, bc_setj, bc_setj, bc_setj, bc_setj, d3]
      unfold bs_lnX
      rw [if_pos rfl]
      exact ln
    · rw [bc_setn e, bc_setn e, bc_setn e, bc_setn e, bc_setn e, e157 _ (by omega) (by omega), e157 _ (by omega) (by omega), e157 _ (by omega) (by omega), e157 _ (by omega) (by omega), e157 _ (by omega) (by omega), bs_Dh_q dh (by omega), bs_Dh_q dh (by omega), bs_Dh_q dh (by omega), bs_Dh_q dh (by omega), bs_Dh_q dh (by omega)]
      exact a10 k k0 (by omega)
  · have r : ∀ x, c ≤ x → x < c + 20 → mA x = m x := fun x x0 x1 => by rw [f1 x (by omega)]; exact bs_Dh_q dh (by omega)
    rw [r c (by omega) (by omega), r (c + 17) (by omega) (by omega), r (c + 18) (by omega) (by omega), r (c + 19) (by omega) (by omega)]
    exact a11
/-- a line that opens -/
theorem bs_DM_push {T : Int → Int} {n c q w1 w2 x : Int} {g0 m g : bc_H} (hc : 24 ≤ c ∧ c ≤ 44) (hq : 64 ≤ q) (d0 : 0 ≤ m 9 6) (dm : bs_DM T n c q w1 w2 g0 m g) : bs_DM T n c q w1 w2 g0 (bc_upd (bc_upd m 11 (m 9 6) x) 9 6 (m 9 6 + 1)) (bc_upd (bc_upd g 164 (m 9 6) x) 156 22 (m 9 6 + 1)) := by
  obtain ⟨a1, a2, ⟨a3, a4, a5⟩, a6, a7, ⟨b1, b2, b3⟩, a9, a10, a11⟩ := dm
  have r : ∀ y, y ≠ 9 → y ≠ 11 → bc_upd (bc_upd m 11 (m 9 6) x) 9 6 (m 9 6 + 1) y = m y := fun y y1 y2 => by rw [bc_urow y1, bc_urow y2]
  have u : ∀ y, y ≠ 156 → y ≠ 164 → bc_upd (bc_upd g 164 (m 9 6) x) 156 22 (m 9 6 + 1) y = g y := fun y y1 y2 => by rw [bc_urow y1, bc_urow y2]
  have v : ∀ y, y ≠ 22 → bc_upd (bc_upd g 164 (m 9 6) x) 156 22 (m 9 6 + 1) 156 y = g 156 y := fun y hy => by rw [bc_uj hy, bc_ur (by decide)]
  have e96 : bc_upd (bc_upd m 11 (m 9 6) x) 9 6 (m 9 6 + 1) 9 6 = m 9 6 + 1 := bc_uu _ _ _ _
  refine ⟨fun y y1 y2 y3 y4 => by rw [u y y1 y4]; exact a1 y y1 y2 y3 y4, fun y hy => by rw [v y (by omega)]; exact a2 y hy, ⟨by rw [v 10 (by decide)]; exact a3, by rw [v 17 (by decide)]; exact a4, by rw [v 18 (by decide)]; exact a5⟩, bs_Tk_h a6 (fun y _ => by rw [r 6 (by decide) (by decide)]) (fun y hy => v y (by omega)) (u 163 (by decide) (by decide)), fun k hk => by rw [u 157 (by decide) (by decide)]; exact a7 k hk, ⟨by rw [u 157 (by decide) (by decide), r q (by omega) (by omega)]; exact b1, by rw [e96, bc_uu], by rw [v 23 (by decide), r q (by omega) (by omega)]; exact b3⟩, fun i i0 i1 => ?_, fun k k0 k1 => ?_, by rw [r c (by omega) (by omega), r (c + 17) (by omega) (by omega), r (c + 18) (by omega) (by omega), r (c + 19) (by omega) (by omega)]; exact a11⟩
  · rw [e96] at i1
    have p1 : bc_upd (bc_upd g 164 (m 9 6) x) 156 22 (m 9 6 + 1) 164 = bc_upd g 164 (m 9 6) x 164 := bc_urow (by decide)
    have p2 : bc_upd (bc_upd m 11 (m 9 6) x) 9 6 (m 9 6 + 1) 11 = bc_upd m 11 (m 9 6) x 11 := bc_urow (by decide)
    rw [p1, p2]
    by_cases e : i = m 9 6
    · rw [e, bc_uu, bc_uu]
    · rw [bc_uj e, bc_uj e]; exact a9 i i0 (by omega)
  · rw [r q (by omega) (by omega)] at k1
    have := a10 k k0 k1
    unfold bs_DL at *
    rw [r (q + 1) (by omega) (by omega), r (q + 2) (by omega) (by omega), r (q + 3) (by omega) (by omega), r (q + 4) (by omega) (by omega), r (q + 5) (by omega) (by omega), u 157 (by decide) (by decide)]
    exact this

