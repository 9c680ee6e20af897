/-! ===== class and reference, token by token ===== -/
def bs_Mid (T : Int → Int) (n : Int) (m : bc_H) (X Y : (Int → Int) → Int → Int) (g g1 : bc_H) : Prop := (∀ x, x ≠ 156 → x ≠ 157 → x ≠ 158 → g1 x = g x) ∧ (∀ y, (y < 12 ∨ 15 < y) → g1 156 y = g 156 y) ∧ g1 157 = X (g 157) ∧ g1 158 = Y (g 158) ∧ bs_Tk T n m g1 ∧ g1 156 18 = 0
abbrev bs_RT : Type := bc_H → (bc_H → Prop) → (bc_H → Prop) → Prop
def bs_Tr (T : Int → Int) (n : Int) (SM : bc_H → Prop) (G : bs_RT) (X Y : (Int → Int) → Int → Int) (m : bc_H) (R : bs_RT) : Prop := ∀ (g : bc_H) (P N : bc_H → Prop), SM g → (∀ g1, bs_Mid T n m X Y g g1 → R g1 P N) → G g P N
/-- a fault: how the reference's memory is, by the class's -/
def bs_SF (m g g' : bc_H) : Prop := (∀ x, x ≠ 156 → x ≠ 157 → x ≠ 158 → g' x = g x) ∧ (∀ y, (y < 12 ∨ 15 < y) → y ≠ 17 → y ≠ 18 → g' 156 y = g 156 y) ∧ (g' 156 18 = m 6 1 ∧ g' 156 17 = m 6 2) ∧ (∀ k, (k < 2112 ∨ 2640 ≤ k) → g' 157 k = g 157 k) ∧ ∀ k, (k < 104 ∨ 130 ≤ k) → g' 158 k = g 158 k
def bs_Fa (SM : bc_H → Prop) (G : bs_RT) (m : bc_H) : Prop := ∀ (g : bc_H) (P N : bc_H → Prop), SM g → (∀ g', bs_SF m g g' → N g') → G g P N
def bs_okX (X : (Int → Int) → Int → Int) : Prop := ∀ A k, (k < 2112 ∨ 2640 ≤ k) → X A k = A k
def bs_okY (Y : (Int → Int) → Int → Int) : Prop := ∀ A k, (k < 104 ∨ 130 ≤ k) → Y A k = A k
/-- a fault of the class: where it stood, which kind -/
def bs_FL (m m' : bc_H) (k : Int) : Prop := m' = bs_fl m k
theorem bs_fl_1 (m : bc_H) (k : Int) : bs_fl m k 6 1 = (if m 6 12 = 4 then 1 else k) ∧ bs_fl m k 6 2 = m 6 11 ∧ (∀ x, x ≠ 6 → bs_fl m k x = m x) ∧ ∀ y, y ≠ 1 → y ≠ 2 → bs_fl m k 6 y = m 6 y := by
  unfold bs_fl
  exact ⟨by rw [bc_uj (by decide), bc_uu], bc_uu _ _ _ _, fun x hx => by rw [bc_urow hx, bc_urow hx], fun y y1 y2 => by rw [bc_uj y2, bc_uj y1]⟩
theorem bs_fg_SF {T : Int → Int} {n k : Int} {X Y : (Int → Int) → Int → Int} {m g g1 : bc_H} (hX : bs_okX X) (hY : bs_okY Y) (h : bs_Mid T n m X Y g g1) : bs_SF (bs_fl m k) g (bs_fg m g1 k) := by
  obtain ⟨a, b, c, e, _, _⟩ := h
  have f := bs_fl_1 m k
  unfold bs_fg
  refine ⟨fun x x1 x2 x3 => by rw [bc_urow x1, bc_urow x1]; exact a x x1 x2 x3, fun y y1 y2 y3 => by rw [bc_uj y2, bc_uj y3]; exact b y y1, ⟨?_, ?_⟩, fun q hq => ?_, fun q hq => ?_⟩
  · rw [bc_uj (by decide), bc_uu, f.1]
  · rw [bc_uu, f.2.1]
  · rw [bc_urow (by decide), bc_urow (by decide), c]; exact hX _ q hq
  · rw [bc_urow (by decide), bc_urow (by decide), e]; exact hY _ q hq
theorem bs_Fa_of {T : Int → Int} {n k : Int} {SM : bc_H → Prop} {G : bs_RT} {X Y : (Int → Int) → Int → Int} {m : bc_H} {R : bs_RT} (hX : bs_okX X) (hY : bs_okY Y) (hT : bs_Tr T n SM G X Y m R) (hR : ∀ g g1 P N, SM g → bs_Mid T n m X Y g g1 → N (bs_fg m g1 k) → R g1 P N) : bs_Fa SM G (bs_fl m k) := fun g P N sm hN => hT g P N sm (fun g1 mid => hR g g1 P N sm mid (hN _ (bs_fg_SF hX hY mid)))
theorem bs_Mid_nx {T : Int → Int} {n : Int} {m m1 g g1 g2 : bc_H} {X Y : (Int → Int) → Int → Int} (h : bs_Mid T n m X Y g g1) (a : ∀ x, x ≠ 156 → g2 x = g1 x) (b : ∀ y, (y < 12 ∨ 15 < y) → g2 156 y = g1 156 y) (k : bs_Tk T n m1 g2) : bs_Mid T n m1 X Y g g2 := by
  obtain ⟨h1, h2, h3, h4, h5, h6⟩ := h
  exact ⟨fun x x1 x2 x3 => by rw [a x x1]; exact h1 x x1 x2 x3, fun y hy => by rw [b y hy]; exact h2 y hy, by rw [a 157 (by decide)]; exact h3, by rw [a 158 (by decide)]; exact h4, k, by rw [b 18 (by decide)]; exact h6⟩
/-- standing at a token: both sides go on -/
theorem bs_pa {d d' : Nat} {T : Int → Int} {n : Int} {SM : bc_H → Prop} {G : bs_RT} {X Y : (Int → Int) → Int → Int} {m : bc_H} {R : bs_RT} {P : bc_H → Prop} (n0 : 0 ≤ n ∧ n ≤ 900) (hb : bs_tb8 T n) (h : bs_PT T n m) (hT : bs_Tr T n SM G X Y m (fun g1 P' N' => bf_M_ahead (d' + 1) g1 (bc_U (fun h2 => R h2 P' N')))) (hP : ∀ m1, bs_Tl6 m m1 → bs_nx T n m m1 → bs_Tr T n SM G X Y m1 R → P m1) : bf_Text_advance (d + 1) m (bc_U P) :=
  bc_c_adv n0 h (fun m1 l x => hP m1 l x (fun g P' N' sm k => hT g P' N' sm (fun g1 mid => bc_m_adv n0 hb h x mid.2.2.2.2.1 (fun g2 a b c => k g2 (bs_Mid_nx mid a b c)))))
theorem bs_pwd {d d' : Nat} {T : Int → Int} {n i w : Int} {SM : bc_H → Prop} {G : bs_RT} {X Y : (Int → Int) → Int → Int} {m : bc_H} {R : bs_RT} {P N : bc_H → Prop} (n0 : 0 ≤ n ∧ n ≤ 900) (hb : bs_tb8 T n) (h : bs_PT T n m) (hX : bs_okX X) (hY : bs_okY Y) (i0 : 0 ≤ i) (i1 : i < 27) (hw : w = bs_kml i) (hT : bs_Tr T n SM G X Y m (fun g1 P' N' => bf_M_wantWord (d' + 2) w g1 (bc_B (fun h2 => R h2 P' N') (fun h2 => N' h2)))) (hP : ∀ m1, bs_Tl6 m m1 → bs_nx T n m m1 → bs_Tr T n SM G X Y m1 R → P m1) (hN : ∀ k, (k = 2 ∨ k = 3 ∨ k = 4 ∨ k = 5 ∨ k = 6) → bs_Fa SM G (bs_fl m k) → N (bs_fl m k)) : bf_Text_needWord (d + 2) i m (bc_B P N) :=
  bc_c_needWord n0 h (fun z m1 l x => hP m1 l x (fun g P' N' sm k => hT g P' N' sm (fun g1 mid => bc_m_wantWord n0 hb h mid.2.2.2.2.1 i0 i1 hw mid.2.2.2.2.2 (fun _ => ⟨m1, x, fun g2 a b c => k g2 (bs_Mid_nx mid a b c)⟩) (fun u => absurd z u))))
    (fun z => hN 2 (Or.inl rfl) (bs_Fa_of hX hY hT (fun g g1 P' N' sm mid hN' => bc_m_wantWord n0 hb h mid.2.2.2.2.1 i0 i1 hw mid.2.2.2.2.2 (fun u => absurd u z) (fun _ => hN'))))
theorem bs_ps {d d' : Nat} {T : Int → Int} {n c : Int} {SM : bc_H → Prop} {G : bs_RT} {X Y : (Int → Int) → Int → Int} {m : bc_H} {R : bs_RT} {P N : bc_H → Prop} (n0 : 0 ≤ n ∧ n ≤ 900) (hb : bs_tb8 T n) (h : bs_PT T n m) (hX : bs_okX X) (hY : bs_okY Y) (c0 : 0 ≤ c) (hT : bs_Tr T n SM G X Y m (fun g1 P' N' => bf_M_wantSign (d' + 2) c g1 (bc_B (fun h2 => R h2 P' N') (fun h2 => N' h2)))) (hP : ∀ m1, bs_Tl6 m m1 → bs_nx T n m m1 → bs_Tr T n SM G X Y m1 R → P m1) (hN : ∀ k, (k = 2 ∨ k = 3 ∨ k = 4 ∨ k = 5 ∨ k = 6) → bs_Fa SM G (bs_fl m k) → N (bs_fl m k)) : bf_Text_needSign (d + 2) c m (bc_B P N) :=
  bc_c_needSign n0 h (fun z m1 l x => hP m1 l x (fun g P' N' sm k => hT g P' N' sm (fun g1 mid => bc_m_wantSign n0 hb h mid.2.2.2.2.1 c0 mid.2.2.2.2.2 (fun _ => ⟨m1, x, fun g2 a b c => k g2 (bs_Mid_nx mid a b c)⟩) (fun u => absurd z u))))
    (fun z => hN 2 (Or.inl rfl) (bs_Fa_of hX hY hT (fun g g1 P' N' sm mid hN' => bc_m_wantSign n0 hb h mid.2.2.2.2.1 c0 mid.2.2.2.2.2 (fun u => absurd u z) (fun _ => hN'))))
theorem bs_row_set {g : bc_H} {to v : Int} : bc_upd g 157 to v 157 = bc_set (g 157) to v := by
  funext j
  by_cases e : j = to
  · subst e; rw [bc_uu, bc_setj]
  · rw [bc_uj e, bc_setn e]
theorem bs_Mid_set {T : Int → Int} {n to v : Int} {m m1 g g1 g2 : bc_H} {X Y : (Int → Int) → Int → Int} (h : bs_Mid T n m X Y g g1) (a : ∀ x, x ≠ 156 → g2 x = bc_upd g1 157 to v x) (b : ∀ y, (y < 12 ∨ 15 < y) → g2 156 y = g1 156 y) (k : bs_Tk T n m1 g2) : bs_Mid T n m1 (fun A => bc_set (X A) to v) Y g g2 := by
  obtain ⟨h1, h2, h3, h4, h5, h6⟩ := h
  exact ⟨fun x x1 x2 x3 => by rw [a x x1, bc_urow x2]; exact h1 x x1 x2 x3, fun y hy => by rw [b y hy]; exact h2 y hy, by rw [a 157 (by decide), bs_row_set, h3], by rw [a 158 (by decide), bc_urow (by decide)]; exact h4, k, by rw [b 18 (by decide)]; exact h6⟩
theorem bs_pn' {d d' : Nat} {T : Int → Int} {n to lo hi : Int} {SM : bc_H → Prop} {G : bs_RT} {X Y : (Int → Int) → Int → Int} {m : bc_H} {R : bs_RT} {P N : bc_H → Prop} (n0 : 0 ≤ n ∧ n ≤ 900) (hb : bs_tb8 T n) (h : bs_PT T n m) (hX : bs_okX X) (hY : bs_okY Y) (t0 : 2112 ≤ to ∧ to < 2640) (hT : bs_Tr T n SM G X Y m (fun g1 P' N' => bf_M_number (d' + 2) to lo hi g1 (bc_B (fun h2 => R h2 P' N') (fun h2 => N' h2)))) (hP : ∀ m1, bs_nu m lo hi → bs_Tl6 (bc_upd m 6 3 (m 6 14)) m1 → bs_nx T n m m1 → bs_Tr T n SM G (fun A => bc_set (X A) to (m 6 14)) Y m1 R → P m1) (hN : ∀ k, (k = 2 ∨ k = 3 ∨ k = 4 ∨ k = 5 ∨ k = 6) → bs_Fa SM G (bs_fl m k) → N (bs_fl m k)) : bf_Text_needNumber (d + 2) lo hi m (bc_B P N) :=
  bc_c_needNumber n0 h (fun z m1 l x => hP m1 z l x (fun g P' N' sm k => hT g P' N' sm (fun g1 mid => bc_m_number n0 hb h mid.2.2.2.2.1 (by omega) mid.2.2.2.2.2 (fun _ => ⟨m1, x, fun g2 a b c => k g2 (bs_Mid_set mid a b c)⟩) (fun _ u => absurd z u))))
    (fun k z ek => hN k (by rw [ek]; split <;> omega) (bs_Fa_of hX hY hT (fun g g1 P' N' sm mid hN' => bc_m_number n0 hb h mid.2.2.2.2.1 (by omega) mid.2.2.2.2.2 (fun u => absurd u z) (fun k' _ ek' => by rw [ek', ← ek]; exact hN'))))
theorem bs_okX_s {X : (Int → Int) → Int → Int} {to v : Int} (h : bs_okX X) (t0 : 2112 ≤ to ∧ to < 2640) : bs_okX (fun A => bc_set (X A) to v) := fun A k hk => by
  show bc_set (X A) to v k = A k
  rw [bc_setn (by omega)]; exact h A k hk
/-- what stands in the class's list of names, by the reference's -/
def bs_NmAt (SM : bc_H → Prop) (X Y : (Int → Int) → Int → Int) (m : bc_H) (c K off ci : Int) : Prop := ∀ g l, SM g → bs_word l → bs_cn (m c 11) (m (c + 17)) (m (c + 18)) (m (c + 19)) K (bs_c32 l) = bs_fst (fun k => Y (g 158) (off + k) = bs_c256 l) (X (g 157) ci) ∧ (0 ≤ X (g 157) ci ∧ off + X (g 157) ci ≤ 156)
theorem bs_isn_l {T : Int → Int} {n : Int} {m : bc_H} (h : bs_PT T n m) (z : bs_isn m) : bs_word (bs_wl T (m 6 11) (m 6 10)) ∧ m 6 5 = bs_c32 (bs_wl T (m 6 11) (m 6 10)) := by
  obtain ⟨p, p0, t⟩ := h.2.2.2
  have w := bs_To_w t z.1
  exact ⟨bs_wl_word w z.2.2, (w.2.2.2.1 z.2.2).1⟩
theorem bs_pk' {d d' : Nat} {T : Int → Int} {n c K off ci to : Int} {SM : bc_H → Prop} {G : bs_RT} {X Y : (Int → Int) → Int → Int} {m : bc_H} {R : bs_RT} {P N : bc_H → Prop} (hc : 24 ≤ c ∧ c ≤ 44) (n0 : 0 ≤ n ∧ n ≤ 900) (hb : bs_tb8 T n) (h : bs_PT T n m) (h9 : m 9 1 = c) (q0 : 0 ≤ m c 11) (q1 : m c 11 ≤ 26) (K0 : 0 ≤ K) (K1 : K < 12) (hX : bs_okX X) (hY : bs_okY Y) (t0 : 2112 ≤ to ∧ to < 2640) (o0 : 0 ≤ off) (hNm : bs_NmAt SM X Y m c K off ci) (hT : bs_Tr T n SM G X Y m (fun g1 P' N' => bf_M_oldOne (d' + 3) off (g1 157 ci) to g1 (bc_B (fun h2 => R h2 P' N') (fun h2 => N' h2)))) (hP : ∀ m1 y, y ≠ -1 → bs_isn m → y = bs_cn (m c 11) (m (c + 17)) (m (c + 18)) (m (c + 19)) K (m 6 5) → bs_Tl6 (bc_upd m 10 K y) m1 → bs_nx T n m m1 → bs_Tr T n SM G (fun A => bc_set (X A) to y) Y m1 R → P m1) (hN : ∀ k, (k = 2 ∨ k = 3 ∨ k = 4 ∨ k = 5 ∨ k = 6) → bs_Fa SM G (bs_fl m k) → N (bs_fl m k)) : bf_Reader_knownName (d + 2) K (-1) m (bc_B P N) := by
  have fst : ∀ g, SM g → bs_isn m → bs_cn (m c 11) (m (c + 17)) (m (c + 18)) (m (c + 19)) K (m 6 5) = bs_fst (fun k => Y (g 158) (off + k) = bs_c256 (bs_wl T (m 6 11) (m 6 10))) (X (g 157) ci) ∧ (0 ≤ X (g 157) ci ∧ off + X (g 157) ci ≤ 156) := fun g sm z => by
    have l := bs_isn_l h z
    rw [l.2]; exact hNm g _ sm l.1
  refine bc_c_knownName hc n0 h h9 q0 q1 K0 K1 (fun z a _ m1 l x => ?_) (fun z => ?_) (fun z a => ?_) (fun z a b => absurd b a)
  · refine hP m1 _ a z rfl l x (fun g P' N' sm k => hT g P' N' sm (fun g1 mid => ?_))
    have f := fst g sm z
    have e157 : g1 157 ci = X (g 157) ci := by rw [mid.2.2.1]
    dsimp only
    rw [e157]
    refine bc_m_oldOne (NM := fun k => Y (g 158) (off + k)) n0 hb h mid.2.2.2.2.1 (by omega) mid.2.2.2.2.2 o0 f.2.1 f.2.2 (fun k _ _ => by rw [mid.2.2.2.1]) (fun _ _ => ⟨m1, x, fun g2 a' b' c' => k g2 ?_⟩) (fun u => absurd z u) (fun _ u => absurd (by rw [f.1]; exact u) a)
    rw [← f.1] at a'
    exact bs_Mid_set mid a' b' c'
  · refine hN 2 (Or.inl rfl) (bs_Fa_of hX hY hT (fun g g1 P' N' sm mid hN' => ?_))
    by_cases bnd : 0 ≤ X (g 157) ci ∧ off + X (g 157) ci ≤ 156
    · have e157 : g1 157 ci = X (g 157) ci := by rw [mid.2.2.1]
      rw [e157]
      exact bc_m_oldOne (NM := fun k => Y (g 158) (off + k)) n0 hb h mid.2.2.2.2.1 (by omega) mid.2.2.2.2.2 o0 bnd.1 bnd.2 (fun k _ _ => by rw [mid.2.2.2.1]) (fun u => absurd u z) (fun _ => hN') (fun u => absurd u z)
    · have := (hNm g [1] sm ⟨by decide, by decide, fun c hc => by simp at hc; omega⟩).2
      exact absurd this bnd
  · have f3 : ∀ g, SM g → bs_fst (fun k => Y (g 158) (off + k) = bs_c256 (bs_wl T (m 6 11) (m 6 10))) (X (g 157) ci) = -1 := fun g sm => by rw [← (fst g sm z).1]; exact a
    refine hN 3 (Or.inr (Or.inl rfl)) (fun g P' N' sm hN' => hT g P' N' sm (fun g1 mid => ?_))
    have f := fst g sm z
    have e157 : g1 157 ci = X (g 157) ci := by rw [mid.2.2.1]
    dsimp only
    rw [e157]
    refine bc_m_oldOne (NM := fun k => Y (g 158) (off + k)) n0 hb h mid.2.2.2.2.1 (by omega) mid.2.2.2.2.2 o0 f.2.1 f.2.2 (fun k _ _ => by rw [mid.2.2.2.1]) (fun _ u => absurd (f3 g sm) u) (fun u => absurd z u) (fun _ _ => hN' _ ?_)
    have mid' : bs_Mid T n m (fun A => bc_set (X A) to (-1)) Y g (bc_upd g1 157 to (-1)) := ⟨fun x x1 x2 x3 => by rw [bc_urow x2]; exact mid.1 x x1 x2 x3, fun y hy => by rw [bc_urow (by decide)]; exact mid.2.1 y hy, by rw [bs_row_set, mid.2.2.1], by rw [bc_urow (by decide)]; exact mid.2.2.2.1, bs_Tk_h mid.2.2.2.2.1 (fun _ _ => rfl) (fun y _ => by rw [bc_urow (by decide)]) (bc_urow (by decide)), by rw [bc_urow (by decide)]; exact mid.2.2.2.2.2⟩
    exact bs_fg_SF (bs_okX_s hX t0) hY mid'
theorem bs_pkB {d d' : Nat} {T : Int → Int} {n c to : Int} {SM : bc_H → Prop} {G : bs_RT} {X Y : (Int → Int) → Int → Int} {m : bc_H} {R : bs_RT} {P N : bc_H → Prop} (hc : 24 ≤ c ∧ c ≤ 44) (n0 : 0 ≤ n ∧ n ≤ 900) (hb : bs_tb8 T n) (h : bs_PT T n m) (h9 : m 9 1 = c) (q0 : 0 ≤ m c 11) (q1 : m c 11 ≤ 26) (hX : bs_okX X) (hY : bs_okY Y) (t0 : 2112 ≤ to ∧ to < 2640) (hNm : bs_NmAt SM X Y m c 2 104 2112) (hT : bs_Tr T n SM G X Y m (fun g1 P' N' => bf_M_newBeastTo (d' + 4) to g1 (bc_B (fun h2 => R h2 P' N') (fun h2 => N' h2)))) (hP : ∀ m1 y, y ≠ -1 → bs_isn m → y = bs_cn (m c 11) (m (c + 17)) (m (c + 18)) (m (c + 19)) 2 (m 6 5) → bs_Tl6 (bc_upd m 10 2 y) m1 → bs_nx T n m m1 → bs_Tr T n SM G (fun A => bc_set (X A) to y) Y m1 R → P m1) (hN : ∀ k, (k = 2 ∨ k = 3 ∨ k = 4 ∨ k = 5 ∨ k = 6) → bs_Fa SM G (bs_fl m k) → N (bs_fl m k)) : bf_Reader_knownName (d + 2) 2 (-1) m (bc_B P N) :=
  bs_pk' (d' := d') hc n0 hb h h9 q0 q1 (by decide) (by decide) hX hY t0 (by decide) hNm (fun g P' N' sm k => hT g P' N' sm (fun g1 mid => rv_M_newBeastTo (d := d' + 3) (k g1 mid))) hP hN
