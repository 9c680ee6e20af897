/-! ===== a part, step by step ===== -/
/-- the class's memory but for its token -/
def bs_Ch (m m' : bc_H) : Prop := (∀ r, r ≠ 6 → r ≠ 10 → m' r = m r) ∧ ∀ y, y < 3 → m' 6 y = m 6 y
theorem bs_Ch_t {m m1 m2 : bc_H} (a : bs_Ch m m1) (b : bs_Ch m1 m2) : bs_Ch m m2 := ⟨fun r r1 r2 => by rw [b.1 r r1 r2, a.1 r r1 r2], fun y hy => by rw [b.2 y hy, a.2 y hy]⟩
theorem bs_Ch_l {m m1 : bc_H} (l : bs_Tl6 m m1) : bs_Ch m m1 := ⟨fun r r1 _ => l.1 r r1, fun y hy => l.2 y (Or.inl (by omega))⟩
theorem bs_Ch_k {m m1 : bc_H} {k v : Int} (l : bs_Tl6 (bc_upd m 10 k v) m1) : bs_Ch m m1 := ⟨fun r r1 r2 => by rw [l.1 r r1, bc_urow r2], fun y hy => by rw [l.2 y (Or.inl (by omega)), bc_urow (by decide)]⟩
theorem bs_Ch_n {m m1 : bc_H} {v : Int} (l : bs_Tl6 (bc_upd m 6 3 v) m1) : bs_Ch m m1 := ⟨fun r r1 r2 => by rw [l.1 r r1, bc_urow r1], fun y hy => by rw [l.2 y (Or.inl (by omega)), bc_uj (by omega)]⟩
theorem bs_Tl6_k {m m1 : bc_H} {k v : Int} (l : bs_Tl6 (bc_upd m 10 k v) m1) : m1 10 k = v ∧ ∀ y, y ≠ k → m1 10 y = m 10 y := ⟨by rw [l.1 10 (by decide), bc_uu], fun y hy => by rw [l.1 10 (by decide), bc_uj hy]⟩
theorem bs_Tl6_n {m m1 : bc_H} {v : Int} (l : bs_Tl6 (bc_upd m 6 3 v) m1) : m1 6 3 = v ∧ m1 10 = m 10 := ⟨by rw [l.2 3 (by decide), bc_uu], by rw [l.1 10 (by decide), bc_urow (by decide)]⟩
/-- and for a name more -/
def bs_Ca (c K x : Int) (l : List Int) (m m' : bc_H) : Prop := ((∀ r, r ≠ 6 → r ≠ 10 → r ≠ c → r ≠ c + 17 → r ≠ c + 18 → r ≠ c + 19 → m' r = m r) ∧ (∀ y, y < 3 → m' 6 y = m 6 y)) ∧ (∀ y, y ≠ 11 → m' c y = m c y) ∧ m' c 11 = m c 11 + 1 ∧ m' (c + 17) = bc_set (m (c + 17)) (m c 11) (bs_c32 l) ∧ m' (c + 18) = bc_set (m (c + 18)) (m c 11) K ∧ m' (c + 19) = bc_set (m (c + 19)) (m c 11) x
theorem bs_Ca_of {c K x : Int} {l : List Int} {m m1 m2 : bc_H} (hc : 24 ≤ c) (a : bs_Ch m m1) (el : m1 6 5 = bs_c32 l) (b : bs_Tl6 (bs_an m1 c K x) m2) : bs_Ca c K x l m m2 := by
  have an := bs_an_1 m1 c K x
  have e := a.1 c (by omega) (by omega)
  refine ⟨⟨fun r r1 r2 r3 r4 r5 r6 => by rw [b.1 r r1, an.1 r r3 r4 r5 r6, a.1 r r1 r2], fun y hy => by rw [b.2 y (Or.inl (by omega)), an.1 6 (by omega) (by omega) (by omega) (by omega), a.2 y hy]⟩, fun y hy => by rw [b.1 c (by omega), an.2.1 y hy, e], by rw [b.1 c (by omega), an.2.2.1, e], ?_, ?_, ?_⟩
  · rw [b.1 _ (by omega), an.2.2.2.1, el, e, a.1 _ (by omega) (by omega)]
  · rw [b.1 _ (by omega), an.2.2.2.2.1, e, a.1 _ (by omega) (by omega)]
  · rw [b.1 _ (by omega), an.2.2.2.2.2, e, a.1 _ (by omega) (by omega)]
theorem bs_Ca_t {c K x : Int} {l : List Int} {m m1 m2 : bc_H} (hc : 24 ≤ c) (a : bs_Ca c K x l m m1) (b : bs_Ch m1 m2) : bs_Ca c K x l m m2 := by
  obtain ⟨⟨a1, a2⟩, a3, a4, a5, a6, a7⟩ := a
  have e := b.1 c (by omega) (by omega)
  exact ⟨⟨fun r r1 r2 r3 r4 r5 r6 => by rw [b.1 r r1 r2, a1 r r1 r2 r3 r4 r5 r6], fun y hy => by rw [b.2 y hy, a2 y hy]⟩, fun y hy => by rw [e]; exact a3 y hy, by rw [e]; exact a4, by rw [b.1 _ (by omega) (by omega)]; exact a5, by rw [b.1 _ (by omega) (by omega)]; exact a6, by rw [b.1 _ (by omega) (by omega)]; exact a7⟩
theorem bs_cn_o {n x K k y z : Int} {co ki nu : Int → Int} (n0 : 0 ≤ n) (hz : z ≠ -1) (ne : k ≠ K) : bs_cn (n + 1) (bc_set co n y) (bc_set ki n k) (bc_set nu n z) K x = bs_cn n co ki nu K x := by
  rw [bs_cn_add n0 hz]
  by_cases u : bs_fst (fun i => co i = x ∧ ki i = K) n = -1
  · rw [if_pos u, if_neg (fun v => ne v.2)]
    unfold bs_cn
    rw [if_pos u]
  · rw [if_neg u]
/-- names of the kind K are as they were -/
def bs_Kn (c K : Int) (m m' : bc_H) : Prop := ∀ x, bs_cn (m' c 11) (m' (c + 17)) (m' (c + 18)) (m' (c + 19)) K x = bs_cn (m c 11) (m (c + 17)) (m (c + 18)) (m (c + 19)) K x
theorem bs_Kn_h {c K : Int} {m m' : bc_H} (hc : 24 ≤ c) (a : bs_Ch m m') : bs_Kn c K m m' := fun x => by rw [a.1 c (by omega) (by omega), a.1 _ (by omega) (by omega), a.1 _ (by omega) (by omega), a.1 _ (by omega) (by omega)]
theorem bs_Kn_a {c K K0 x : Int} {l : List Int} {m m' : bc_H} (a : bs_Ca c K0 x l m m') (n0 : 0 ≤ m c 11) (hx : x ≠ -1) (ne : K0 ≠ K) : bs_Kn c K m m' := fun y => by
  obtain ⟨_, _, a4, a5, a6, a7⟩ := a
  rw [a4, a5, a6, a7, bs_cn_o n0 hx ne]
theorem bs_NmAt_1 {T : Int → Int} {n c K i off : Int} {m m' : bc_H} {X Y : (Int → Int) → Int → Int} (hk : bs_kd K i off) (kn : bs_Kn c K m m') (hX : ∀ A, X A (2112 + i) = A (2112 + i)) (hY : ∀ A k, 104 + off ≤ k → k < 104 + off + (if i = 0 then 5 else if i = 1 then 7 else if i = 2 then 6 else 8) → Y A k = A k) : bs_NmAt (bs_SE T n c m) X Y m' c K (104 + off) (2112 + i) := fun g l ⟨g0, sm⟩ hl => by
  rw [kn]
  exact bs_NmAt_0 (g0 := g0) hk rfl rfl rfl rfl hX hY g l sm hl
/-- a name that is told: its number -/
theorem bs_kr {h : bc_H} {T : Int → Int} {n c K i off y : Int} {m m1 : bc_H} {B NM : Int → Int} (nw : bs_Nw m c B NM) (hk : bs_kd K i off) (pt : bs_PT T n m1) (z : bs_isn m1) (kn : bs_Kn c K m m1) (ne : y ≠ -1) (e : y = bs_cn (m1 c 11) (m1 (c + 17)) (m1 (c + 18)) (m1 (c + 19)) K (m1 6 5)) : 0 ≤ y ∧ y < B i := by
  have l := bs_isn_l pt z
  rw [kn, l.2, bs_Nm_kd nw.2.2.2.2.2.2.2.2.2 hk l.1] at e
  have b := bs_Nw_n nw
  have b0 : 0 ≤ B i := by
    rcases hk with ⟨rfl, rfl, rfl⟩ | ⟨rfl, rfl, rfl⟩ | ⟨rfl, rfl, rfl⟩ | ⟨rfl, rfl, rfl⟩
    · exact b.2.1.1
    · exact b.2.2.1.1
    · exact b.2.2.2.1.1
    · exact b.2.2.2.2.1.1
  have r : bs_rn NM off (B i) (bs_c256 (bs_wl T (m1 6 11) (m1 6 10))) = -1 ∨ (0 ≤ bs_rn NM off (B i) (bs_c256 (bs_wl T (m1 6 11) (m1 6 10))) ∧ bs_rn NM off (B i) (bs_c256 (bs_wl T (m1 6 11) (m1 6 10))) < B i) := by
    unfold bs_rn
    refine bc_it_ind (fun (n : Int) (r : Int) => r = -1 ∨ (0 ≤ r ∧ r < n)) (Or.inl rfl) (fun i r i0 ih => ?_) b0
    (repeat' split) <;> omega
  omega
/-- there is a word: or not -/
theorem bs_pth {d d' : Nat} {T : Int → Int} {n i w : Int} {SM : bc_H → Prop} {G : bs_RT} {X Y : (Int → Int) → Int → Int} {m : bc_H} {R R' : bs_RT} {P : bc_H → Prop} (n0 : 0 ≤ n ∧ n ≤ 900) (hb : bs_tb8 T n) (h : bs_PT T n m) (i0 : 0 ≤ i) (i1 : i < 27) (hw : w = bs_kml i) (z : m 6 4 = i) (hT : bs_Tr T n SM G X Y m (fun g1 P' N' => bf_M_isThere (d' + 2) w g1 (bc_B (fun h2 => R h2 P' N') (fun h2 => R' h2 P' N')))) (hP : ∀ m1, bs_Tl6 m m1 → bs_nx T n m m1 → bs_Tr T n SM G X Y m1 R → P m1) : bf_Text_advance (d + 1) m (bc_U P) :=
  bc_c_adv n0 h (fun m1 l x => hP m1 l x (fun g P' N' sm k => hT g P' N' sm (fun g1 mid => bc_m_isThere n0 hb h mid.2.2.2.2.1 i0 i1 hw (fun _ => ⟨m1, x, fun g2 a b c => k g2 (bs_Mid_nx mid a b c)⟩) (fun u => absurd z u))))
theorem bs_pthn {d' : Nat} {T : Int → Int} {n i w : Int} {SM : bc_H → Prop} {G : bs_RT} {X Y : (Int → Int) → Int → Int} {m : bc_H} {R R' : bs_RT} (n0 : 0 ≤ n ∧ n ≤ 900) (hb : bs_tb8 T n) (h : bs_PT T n m) (i0 : 0 ≤ i) (i1 : i < 27) (hw : w = bs_kml i) (z : m 6 4 ≠ i) (hT : bs_Tr T n SM G X Y m (fun g1 P' N' => bf_M_isThere (d' + 2) w g1 (bc_B (fun h2 => R h2 P' N') (fun h2 => R' h2 P' N')))) : bs_Tr T n SM G X Y m R' := fun g P' N' sm k => hT g P' N' sm (fun g1 mid => bc_m_isThere n0 hb h mid.2.2.2.2.1 i0 i1 hw (fun u => absurd u z) (fun _ => k g1 mid))
/-- the end of a part -/
theorem bs_fin {h : bc_H} {T : Int → Int} {n c : Int} {m m5 m' : bc_H} {G R0 : bs_RT} {X Y X' Y' : (Int → Int) → Int → Int} {P : bc_H → Prop} (hc : 24 ≤ c ∧ c ≤ 44) (ps : bs_PS h T n c m) (pt : bs_PT T n m5) (pr : m 6 10 ≤ m5 6 10) (e6 : m' 6 = m5 6) (f6 : ∀ y, y < 3 → m5 6 y = m 6 y) (fr : ∀ r, r ≠ 6 → r ≠ 10 → ¬ (c ≤ r ∧ r < c + 20) → m' r = m r) (r78 : m5 7 = m 7 ∧ m5 8 = m 8) (hX : bs_okX X') (hY : bs_okY Y') (hT : bs_Tr T n (bs_SE T n c m) G X Y m5 R0) (hR : ∀ g g1 P N, bs_SE T n c m g → bs_Mid T n m5 X Y g g1 → (∀ g2, bs_Mid T n m' X' Y' g g2 → P g2) → R0 g1 P N) (nwk : ∀ A N', bs_Nw m c (fun k => A (2112 + k)) (fun k => N' (104 + k)) → bs_Nw m' c (fun k => X' A (2112 + k)) (fun k => Y' N' (104 + k))) (hP : ∀ m', bs_PS h T n c m' → m 6 10 ≤ m' 6 10 → bs_Go1 T n c m m' G → P m') : P m' := by
  obtain ⟨ps1, ps2, ps3, ps4, B, NM, nw⟩ := ps
  have e9 := fr 9 (by decide) (by decide) (by omega)
  refine hP m' ⟨bs_PT_h pt (fun y _ => by rw [e6]) (by rw [fr 7 (by decide) (by decide) (by omega), r78.1]) (by rw [fr 8 (by decide) (by decide) (by omega), r78.2]), ⟨by rw [e6, f6 0 (by decide)]; exact ps2.1, by rw [e6, f6 1 (by decide)]; exact ps2.2.1, by rw [e6, f6 2 (by decide)]; exact ps2.2.2⟩, by rw [e9]; exact ps3, fun x a b e f => by rw [fr x a e f]; exact ps4 x a b e f, _, _, nwk (fun j => B (j - 2112)) (fun j => NM (j - 104)) ?_⟩ (by rw [e6]; exact pr) (bs_Go1_of (X := X') (Y := Y') (R := fun g P' N' => P' g) (bs_Tr_r hT (fun g g1 P' N' se mid k => hR g g1 P' N' se mid k)) hX hY (by rw [e9]) (by rw [e9]) (fun g g1 P' N' _ _ u => u) (fun g se => nwk _ _ se.choose_spec.2.2.2.2.2.2.1))
  have e1 : (fun k => B (2112 + k - 2112)) = B := funext (fun k => by rw [show 2112 + k - 2112 = k by omega])
  have e2 : (fun k => NM (104 + k - 104)) = NM := funext (fun k => by rw [show 104 + k - 104 = k by omega])
  show bs_Nw m c (fun k => B (2112 + k - 2112)) (fun k => NM (104 + k - 104))
  rw [e1, e2]; exact nw
