/-! ===== names, new and twice ===== -/
def bs_ct (X Y : (Int → Int) → Int → Int) (g : bc_H) (off ci : Int) (l : List Int) : Int := bs_fst (fun k => Y (g 158) (off + k) = bs_c256 l) (X (g 157) ci)
def bs_TkAt (SM : bc_H → Prop) (X Y : (Int → Int) → Int → Int) (m : bc_H) (c : Int) : Prop := ∀ g l, SM g → bs_word l → (bs_fst (fun i => m (c + 17) i = bs_c32 l) (m c 11) ≠ -1 ↔ (bs_ct X Y g 104 2112 l ≠ -1 ∨ bs_ct X Y g 109 2113 l ≠ -1 ∨ bs_ct X Y g 116 2114 l ≠ -1 ∨ bs_ct X Y g 122 2115 l ≠ -1)) ∧ (0 ≤ X (g 157) 2112 ∧ X (g 157) 2112 ≤ 5) ∧ (0 ≤ X (g 157) 2113 ∧ X (g 157) 2113 ≤ 7) ∧ (0 ≤ X (g 157) 2114 ∧ X (g 157) 2114 ≤ 6) ∧ (0 ≤ X (g 157) 2115 ∧ X (g 157) 2115 ≤ 8)
theorem bc_m_isOld {d : Nat} {T : Int → Int} {n : Int} {X Y : (Int → Int) → Int → Int} {m g g1 : bc_H} {P N : bc_H → Prop} (n0 : 0 ≤ n ∧ n ≤ 900) (hb : bs_tb8 T n) (h : bs_PT T n m) (z : bs_isn m) (mid : bs_Mid T n m X Y g g1) (b0 : 0 ≤ X (g 157) 2112 ∧ X (g 157) 2112 ≤ 5) (b1 : 0 ≤ X (g 157) 2113 ∧ X (g 157) 2113 ≤ 7) (b2 : 0 ≤ X (g 157) 2114 ∧ X (g 157) 2114 ≤ 6) (b3 : 0 ≤ X (g 157) 2115 ∧ X (g 157) 2115 ≤ 8)
    (hP : (bs_ct X Y g 104 2112 (bs_wl T (m 6 11) (m 6 10)) ≠ -1 ∨ bs_ct X Y g 109 2113 (bs_wl T (m 6 11) (m 6 10)) ≠ -1 ∨ bs_ct X Y g 116 2114 (bs_wl T (m 6 11) (m 6 10)) ≠ -1 ∨ bs_ct X Y g 122 2115 (bs_wl T (m 6 11) (m 6 10)) ≠ -1) → P g1)
    (hN : ¬ (bs_ct X Y g 104 2112 (bs_wl T (m 6 11) (m 6 10)) ≠ -1 ∨ bs_ct X Y g 109 2113 (bs_wl T (m 6 11) (m 6 10)) ≠ -1 ∨ bs_ct X Y g 116 2114 (bs_wl T (m 6 11) (m 6 10)) ≠ -1 ∨ bs_ct X Y g 122 2115 (bs_wl T (m 6 11) (m 6 10)) ≠ -1) → N g1) : bf_M_isOld (d + 3) g1 (bc_B P N) := by
  obtain ⟨p, p0, t⟩ := h.2.2.2
  have e : ∀ ci, g1 157 ci = X (g 157) ci := fun ci => by rw [mid.2.2.1]
  have e8 : ∀ off k, g1 158 (off + k) = Y (g 158) (off + k) := fun off k => by rw [mid.2.2.2.1]
  have hk := mid.2.2.2.2.1
  refine rv_M_isOld (d := d + 2) ?_
  rw [e 2112]
  refine bc_m_findHere (d := d) (NM := fun k => Y (g 158) (104 + k)) n0 p0 hb t hk z.1 z.2.2 (by decide) b0.1 (by omega) (fun k _ _ => e8 104 k) ⟨fun a => hP (Or.inl a), fun a => ?_⟩
  rw [e 2113]
  refine bc_m_findHere (d := d) (NM := fun k => Y (g 158) (109 + k)) n0 p0 hb t hk z.1 z.2.2 (by decide) b1.1 (by omega) (fun k _ _ => e8 109 k) ⟨fun b => ?_, fun b => hP (Or.inr (Or.inl b))⟩
  rw [e 2114]
  refine bc_m_findHere (d := d) (NM := fun k => Y (g 158) (116 + k)) n0 p0 hb t hk z.1 z.2.2 (by decide) b2.1 (by omega) (fun k _ _ => e8 116 k) ⟨fun c => hP (Or.inr (Or.inr (Or.inl c))), fun c => ?_⟩
  rw [e 2115]
  refine bc_m_findHere (d := d) (NM := fun k => Y (g 158) (122 + k)) n0 p0 hb t hk z.1 z.2.2 (by decide) b3.1 (by omega) (fun k _ _ => e8 122 k) ⟨fun f => hP (Or.inr (Or.inr (Or.inr f))), fun f => hN (fun u => ?_)⟩
  rcases u with u | u | u | u
  · exact u a
  · exact u b
  · exact u c
  · exact f u
theorem bs_pnew {d d' : Nat} {T : Int → Int} {n c K x i so cnt : Int} {SM : bc_H → Prop} {G : bs_RT} {X Y : (Int → Int) → Int → Int} {m : bc_H} {R : bs_RT} {P N : bc_H → Prop} (hc : 24 ≤ c ∧ c ≤ 44) (n0 : 0 ≤ n ∧ n ≤ 900) (hb : bs_tb8 T n) (h : bs_PT T n m) (h9 : m 9 1 = c) (q0 : 0 ≤ m c 11) (q1 : m c 11 < 26) (hX : bs_okX X) (hY : bs_okY Y) (hTk : bs_TkAt SM X Y m c) (i0 : 0 ≤ i ∧ i ≤ 3) (s0 : 0 ≤ so) (c0 : 0 ≤ cnt ∧ so + cnt < 26) (hcnt : ∀ g, SM g → X (g 157) (2112 + i) = cnt)
    (hT : bs_Tr T n SM G X Y m (fun g1 P' N' => bf_M_isName (d' + 3) g1 (bc_B (fun h4 => bf_M_isOld (d' + 3) h4 (bc_B (fun h6 => bf_M_fails (d' + 3) 3 h6 (bc_B (fun h8 => R h8 P' N') (fun h8 => N' h8))) (fun h6 => (0 ≤ (bc_w32 (2112 + i)) ∧ (bc_w32 (2112 + i)) < 3968) ∧ bf_M_nameHere (d' + 3) h6 (bc_J (fun y12 h10 => (0 ≤ (bc_w32 ((bc_w32 (104 + so)) + (h6 157 (bc_w32 (2112 + i))))) ∧ (bc_w32 ((bc_w32 (104 + so)) + (h6 157 (bc_w32 (2112 + i))))) < 156) ∧ bf_M_ahead (d' + 3) (bc_upd h10 158 (bc_w32 ((bc_w32 (104 + so)) + (h6 157 (bc_w32 (2112 + i))))) y12) (bc_U (fun h13 => R h13 P' N'))))))) (fun h4 => bf_M_fails (d' + 3) 2 h4 (bc_B (fun h15 => R h15 P' N') (fun h15 => N' h15))))))
    (hP : ∀ m1 l, bs_isn m → bs_word l → m 6 5 = bs_c32 l → bs_fst (fun i => m (c + 17) i = bs_c32 l) (m c 11) = -1 → bs_Tl6 (bs_an m c K x) m1 → bs_nx T n m m1 → bs_Tr T n SM G X (fun A => bc_set (Y A) (104 + so + cnt) (bs_c256 l)) m1 R → P m1) (hN : ∀ k, (k = 2 ∨ k = 3 ∨ k = 4 ∨ k = 5 ∨ k = 6) → bs_Fa SM G (bs_fl m k) → N (bs_fl m k)) : bf_Reader_newName (d + 2) K x m (bc_B P N) := by
  obtain ⟨p, p0, t⟩ := h.2.2.2
  refine bc_c_newName hc n0 h h9 q0 q1 (fun z fr m1 l nx => ?_) (fun z => ?_) (fun z tk => ?_)
  · have li := bs_isn_l h z
    rw [li.2] at fr
    refine hP m1 _ z li.1 li.2 fr l nx (fun g P' N' sm k => hT g P' N' sm (fun g1 mid => ?_))
    have tk := hTk g _ sm li.1
    refine bc_m_isName (d := d' + 1) n0 p0 hb t mid.2.2.2.2.1 (fun _ => ?_) (fun u => absurd z u)
    refine bc_m_isOld (d := d') n0 hb h z mid tk.2.1 tk.2.2.1 tk.2.2.2.1 tk.2.2.2.2 (fun u => absurd fr (tk.1.2 u)) (fun _ => ?_)
    have ec : g1 157 (2112 + i) = cnt := by rw [mid.2.2.1]; exact hcnt g sm
    rw [bc_wi (x := 2112 + i) (by omega) (by omega), bc_wi (x := 104 + so) (by omega) (by omega), ec, bc_wi (x := 104 + so + cnt) (by omega) (by omega)]
    refine ⟨by omega, bc_m_nameHere (d := d' + 2) n0 p0 hb t mid.2.2.2.2.1 z.1 z.2.2 ⟨by omega, ?_⟩⟩
    have hk' : bs_Tk T n m (bc_upd g1 158 (104 + so + cnt) (bs_c256 (bs_wl T (m 6 11) (m 6 10)))) := bs_Tk_h mid.2.2.2.2.1 (fun _ _ => rfl) (fun y _ => by rw [bc_urow (by decide)]) (bc_urow (by decide))
    refine bc_m_adv n0 hb h nx hk' (fun g2 a b c' => k g2 ⟨fun x x1 x2 x3 => by rw [a x x1, bc_urow x3]; exact mid.1 x x1 x2 x3, fun y hy => by rw [b y hy, bc_urow (by decide)]; exact mid.2.1 y hy, by rw [a 157 (by decide), bc_urow (by decide)]; exact mid.2.2.1, ?_, c', by rw [b 18 (by decide), bc_urow (by decide)]; exact mid.2.2.2.2.2⟩)
    rw [a 158 (by decide)]
    funext j
    show _ = bc_set (Y (g 158)) _ _ j
    by_cases e : j = 104 + so + cnt
    · subst e; rw [bc_uu, bc_setj]
    · rw [bc_uj e, bc_setn e, mid.2.2.2.1]
  · refine hN 2 (Or.inl rfl) (bs_Fa_of hX hY hT (fun g g1 P' N' sm mid hN' => ?_))
    exact bc_m_isName (d := d' + 1) n0 p0 hb t mid.2.2.2.2.1 (fun u => absurd u z) (fun _ => bc_m_fails mid.2.2.2.2.1 mid.2.2.2.2.2 hN')
  · have li := bs_isn_l h z
    rw [li.2] at tk
    refine hN 3 (Or.inr (Or.inl rfl)) (bs_Fa_of hX hY hT (fun g g1 P' N' sm mid hN' => ?_))
    have tt := hTk g _ sm li.1
    refine bc_m_isName (d := d' + 1) n0 p0 hb t mid.2.2.2.2.1 (fun _ => ?_) (fun u => absurd z u)
    exact bc_m_isOld (d := d') n0 hb h z mid tt.2.1 tt.2.2.1 tt.2.2.2.1 tt.2.2.2.2 (fun _ => bc_m_fails mid.2.2.2.2.1 mid.2.2.2.2.2 hN') (fun u => absurd (tt.1.1 tk) u)
theorem bs_pk2 {d d' : Nat} {T : Int → Int} {n c K off ci a2 u : Int} {SM : bc_H → Prop} {G : bs_RT} {X Y : (Int → Int) → Int → Int} {m : bc_H} {R : bs_RT} {P N : bc_H → Prop} (hc : 24 ≤ c ∧ c ≤ 44) (n0 : 0 ≤ n ∧ n ≤ 900) (hb : bs_tb8 T n) (h : bs_PT T n m) (h9 : m 9 1 = c) (q0 : 0 ≤ m c 11) (q1 : m c 11 ≤ 26) (K0 : 0 ≤ K) (K1 : K < 12) (hX : bs_okX X) (hY : bs_okY Y) (t0 : 2112 ≤ a2 ∧ a2 + 1 < 2640) (o0 : 0 ≤ off) (hu : u ≠ -1) (hNm : bs_NmAt SM X Y m c K off ci) (ha2 : ∀ g, SM g → X (g 157) a2 = u ∧ ci ≠ a2 + 1)
    (hT : bs_Tr T n SM G X Y m (fun g1 P' N' => bf_M_isName (d' + 3) g1 (bc_B (fun h3 => bf_M_findHere (d' + 3) off (g1 157 ci) h3 (bc_I (fun y7 h5 => (0 ≤ a2 ∧ a2 < 3968) ∧ (y7 ≠ (h5 157 a2) → (bf_M_oldOne (d' + 3) off (g1 157 ci) (bc_w32 (a2 + 1)) h5 (bc_B (fun h9 => R h9 P' N') (fun h9 => N' h9)))) ∧ (y7 = (h5 157 a2) → (bf_M_fails (d' + 3) 5 h5 (bc_B (fun h11 => R h11 P' N') (fun h11 => N' h11))))))) (fun h3 => bf_M_oldOne (d' + 3) off (g1 157 ci) (bc_w32 (a2 + 1)) h3 (bc_B (fun h13 => R h13 P' N') (fun h13 => N' h13))))))
    (hP : ∀ m1 y, y ≠ -1 → y ≠ u → bs_isn m → y = bs_cn (m c 11) (m (c + 17)) (m (c + 18)) (m (c + 19)) K (m 6 5) → bs_Tl6 (bc_upd m 10 K y) m1 → bs_nx T n m m1 → bs_Tr T n SM G (fun A => bc_set (X A) (a2 + 1) y) Y m1 R → P m1) (hN : ∀ k, (k = 2 ∨ k = 3 ∨ k = 4 ∨ k = 5 ∨ k = 6) → bs_Fa SM G (bs_fl m k) → N (bs_fl m k)) : bf_Reader_knownName (d + 2) K u m (bc_B P N) := by
  obtain ⟨p, p0, t⟩ := h.2.2.2
  have fst : ∀ g, SM g → bs_isn m → bs_cn (m c 11) (m (c + 17)) (m (c + 18)) (m (c + 19)) K (m 6 5) = bs_fst (fun k => Y (g 158) (off + k) = bs_c256 (bs_wl T (m 6 11) (m 6 10))) (X (g 157) ci) ∧ (0 ≤ X (g 157) ci ∧ off + X (g 157) ci ≤ 156) := fun g sm z => by
    have l := bs_isn_l h z
    rw [l.2]; exact hNm g _ sm l.1
  have ew : bc_w32 (a2 + 1) = a2 + 1 := bc_wi (by omega) (by omega)
  refine bc_c_knownName hc n0 h h9 q0 q1 K0 K1 (fun z a b m1 l x => ?_) (fun z => ?_) (fun z a => ?_) (fun z a b => ?_)
  · refine hP m1 _ a b z rfl l x (fun g P' N' sm k => hT g P' N' sm (fun g1 mid => ?_))
    have f := fst g sm z
    have e157 : g1 157 ci = X (g 157) ci := by rw [mid.2.2.1]
    have ea2 : g1 157 a2 = u := by rw [mid.2.2.1]; exact (ha2 g sm).1
    dsimp only
    rw [e157, ew]
    refine bc_m_isName (d := d' + 1) n0 p0 hb t mid.2.2.2.2.1 (fun _ => ?_) (fun v => absurd z v)
    refine bc_m_findHere (d := d' + 1) (NM := fun k => Y (g 158) (off + k)) n0 p0 hb t mid.2.2.2.2.1 z.1 z.2.2 o0 f.2.1 f.2.2 (fun k _ _ => by rw [mid.2.2.2.1]) ⟨by omega, fun _ => ?_, fun v => absurd (by rw [f.1, v]; exact ea2) b⟩
    refine bc_m_oldOne (d := d') (NM := fun k => Y (g 158) (off + k)) n0 hb h mid.2.2.2.2.1 (by omega) mid.2.2.2.2.2 o0 f.2.1 f.2.2 (fun k _ _ => by rw [mid.2.2.2.1]) (fun _ _ => ⟨m1, x, fun g2 a' b' c' => k g2 ?_⟩) (fun v => absurd z v) (fun _ v => absurd (by rw [f.1]; exact v) a)
    rw [← f.1] at a'
    exact bs_Mid_set mid a' b' c'
  · refine hN 2 (Or.inl rfl) (bs_Fa_of hX hY hT (fun g g1 P' N' sm mid hN' => ?_))
    have bnd := (hNm g [1] sm ⟨by decide, by decide, fun c hc => by simp at hc; omega⟩).2
    have e157 : g1 157 ci = X (g 157) ci := by rw [mid.2.2.1]
    rw [e157, ew]
    refine bc_m_isName (d := d' + 1) n0 p0 hb t mid.2.2.2.2.1 (fun v => absurd v z) (fun _ => ?_)
    exact bc_m_oldOne (d := d') (NM := fun k => Y (g 158) (off + k)) n0 hb h mid.2.2.2.2.1 (by omega) mid.2.2.2.2.2 o0 bnd.1 bnd.2 (fun k _ _ => by rw [mid.2.2.2.1]) (fun v => absurd v z) (fun _ => hN') (fun v => absurd v z)
  · refine hN 3 (Or.inr (Or.inl rfl)) (fun g P' N' sm hN' => hT g P' N' sm (fun g1 mid => ?_))
    have f := fst g sm z
    have f3 : bs_fst (fun k => Y (g 158) (off + k) = bs_c256 (bs_wl T (m 6 11) (m 6 10))) (X (g 157) ci) = -1 := by rw [← f.1]; exact a
    have e157 : g1 157 ci = X (g 157) ci := by rw [mid.2.2.1]
    have ea2 : g1 157 a2 = u := by rw [mid.2.2.1]; exact (ha2 g sm).1
    dsimp only
    rw [e157, ew]
    refine bc_m_isName (d := d' + 1) n0 p0 hb t mid.2.2.2.2.1 (fun _ => ?_) (fun v => absurd z v)
    refine bc_m_findHere (d := d' + 1) (NM := fun k => Y (g 158) (off + k)) n0 p0 hb t mid.2.2.2.2.1 z.1 z.2.2 o0 f.2.1 f.2.2 (fun k _ _ => by rw [mid.2.2.2.1]) ⟨by omega, fun _ => ?_, fun v => absurd (by rw [← ea2, ← v]; exact f3) hu⟩
    refine bc_m_oldOne (d := d') (NM := fun k => Y (g 158) (off + k)) n0 hb h mid.2.2.2.2.1 (by omega) mid.2.2.2.2.2 o0 f.2.1 f.2.2 (fun k _ _ => by rw [mid.2.2.2.1]) (fun _ v => absurd f3 v) (fun v => absurd z v) (fun _ _ => hN' _ ?_)
    have mid' : bs_Mid T n m (fun A => bc_set (X A) (a2 + 1) (-1)) Y g (bc_upd g1 157 (a2 + 1) (-1)) := ⟨fun x x1 x2 x3 => by rw [bc_urow x2]; exact mid.1 x x1 x2 x3, fun y hy => by rw [bc_urow (by decide)]; exact mid.2.1 y hy, by rw [bs_row_set, mid.2.2.1], by rw [bc_urow (by decide)]; exact mid.2.2.2.1, bs_Tk_h mid.2.2.2.2.1 (fun _ _ => rfl) (fun y _ => by rw [bc_urow (by decide)]) (bc_urow (by decide)), by rw [bc_urow (by decide)]; exact mid.2.2.2.2.2⟩
    exact bs_fg_SF (bs_okX_s hX (by omega)) hY mid'
  · refine hN 5 (Or.inr (Or.inr (Or.inr (Or.inl rfl)))) (bs_Fa_of hX hY hT (fun g g1 P' N' sm mid hN' => ?_))
    have f := fst g sm z
    have e157 : g1 157 ci = X (g 157) ci := by rw [mid.2.2.1]
    have ea2 : g1 157 a2 = u := by rw [mid.2.2.1]; exact (ha2 g sm).1
    rw [e157, ew]
    refine bc_m_isName (d := d' + 1) n0 p0 hb t mid.2.2.2.2.1 (fun _ => ?_) (fun v => absurd z v)
    exact bc_m_findHere (d := d' + 1) (NM := fun k => Y (g 158) (off + k)) n0 p0 hb t mid.2.2.2.2.1 z.1 z.2.2 o0 f.2.1 f.2.2 (fun k _ _ => by rw [mid.2.2.2.1]) ⟨by omega, fun v => absurd (by rw [ea2, ← f.1]; exact b) v, fun _ => bc_m_fails mid.2.2.2.2.1 mid.2.2.2.2.2 hN'⟩
