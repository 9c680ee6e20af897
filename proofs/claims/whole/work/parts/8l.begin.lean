/-! ===== a cave's text begins ===== -/
theorem bc_c_fill {d n0 : Nat} {r v : Int} {h : bc_H} {K : bc_H → Prop} (hn : n0 ≤ 1000) (hK : ∀ h', (∀ x, x ≠ r → h' x = h x) → (∀ k, 0 ≤ k → k < (n0 : Int) → h' r k = v) → K h') : bf_JArrays_fill d n0 r v h (bc_U K) := by
  refine rv_JArrays_fill ?_
  have key : ∀ h1 : bc_H, (∀ x, x ≠ r → h1 x = h x) → (∀ k, 0 ≤ k → k < (0 : Int) → h1 r k = v) → bl_JArrays_fill_5 d n0 r v 0 (n0 : Int) h1 (bc_U K) := by
    refine bc_lup (P := fun i => ∀ h1 : bc_H, (∀ x, x ≠ r → h1 x = h x) → (∀ k, 0 ≤ k → k < i → h1 r k = v) → bl_JArrays_fill_5 d n0 r v i (n0 : Int) h1 (bc_U K)) (n := (n0 : Int)) ?_ (fun i i0 i1 ih => ?_) (Int.le_refl 0) (by omega)
    · intro h1 e1 e2
      exact rv_JArrays_fill_5 ⟨fun _ => hK h1 e1 e2, fun q => absurd q (by omega)⟩
    · intro h1 e1 e2
      refine rv_JArrays_fill_5 ⟨fun q => absurd q (by omega), fun _ => ⟨by omega, ?_⟩⟩
      rw [bc_wi (x := i + 1) (by omega) (by omega)]
      refine ih _ (fun x hx => by rw [bc_urow hx]; exact e1 x hx) (fun k k0 k1 => ?_)
      by_cases e : k = i
      · subst e; exact bc_uu _ _ _ _
      · rw [bc_uj e]; exact e2 k k0 (by omega)
  exact key h (fun _ _ => rfl) (fun k k0 k1 => absurd k1 (by omega))
def bs_clr (h : bc_H) (c : Int) : Prop := (h c 0 = 60 ∧ h c 1 = 4 ∧ h c 2 = 0 ∧ h c 3 = 0 ∧ h c 11 = 0) ∧ (h (c + 1) 0 = 0 ∧ h (c + 3) 0 = 0 ∧ h (c + 3) 1 = 0 ∧ h (c + 8) 0 = 0) ∧ (∀ k, 0 ≤ k → k < 25 → h (c + 1 + 1) k = 0) ∧ ∀ k, 0 ≤ k → k < 49 → h (c + 3 + 3) k = 0
theorem bc_c_clear {d : Nat} {c : Int} {h : bc_H} {K : bc_H → Prop} (hK : ∀ h', (∀ x, ¬ (c ≤ x ∧ x < c + 20) → h' x = h x) → bs_clr h' c → K h') : bf_Cave_clear (d + 2) c h (bc_U K) := by
  refine rv_Cave_clear (d := d + 1) (rv_Beasts_clear (d := d) (bc_c_fill (by decide) (fun h1 a1 b1 => ?_)))
  refine rv_Walls_clear (d := d) (bc_c_fill (by decide) (fun h2 a2 b2 => ?_))
  refine rv_Figures_clear ?_
  have r1 : ∀ x, x ≠ c + 1 + 1 → x ≠ c + 1 → x ≠ c → h1 x = h x := fun x x1 x2 x3 => by rw [a1 x x1, bc_urow x2, bc_urow x3, bc_urow x3, bc_urow x3, bc_urow x3, bc_urow x3]
  have r2 : ∀ x, x ≠ c + 3 + 3 → x ≠ c + 3 → h2 x = h1 x := fun x x1 x2 => by rw [a2 x x1, bc_urow x2, bc_urow x2]
  have rc : ∀ y, bc_upd h2 (c + 8) 0 0 c y = h1 c y := fun y => by rw [bc_ur (by omega), r2 c (by omega) (by omega)]
  have r1c : ∀ y, h1 c y = bc_upd (bc_upd (bc_upd (bc_upd (bc_upd h c 0 60) c 1 4) c 2 0) c 3 0) c 11 0 c y := fun y => by rw [a1 c (by omega), bc_ur (by omega)]
  refine hK _ (fun x hx => ?_) ⟨⟨?_, ?_, ?_, ?_, ?_⟩, ⟨?_, ?_, ?_, bc_uu _ _ _ _⟩, fun k k0 k1 => ?_, fun k k0 k1 => ?_⟩
  · rw [bc_urow (by omega), r2 x (by omega) (by omega), r1 x (by omega) (by omega) (by omega)]
  · rw [rc, r1c, bc_uj (by decide), bc_uj (by decide), bc_uj (by decide), bc_uj (by decide), bc_uu]
  · rw [rc, r1c, bc_uj (by decide), bc_uj (by decide), bc_uj (by decide), bc_uu]
  · rw [rc, r1c, bc_uj (by decide), bc_uj (by decide), bc_uu]
  · rw [rc, r1c, bc_uj (by decide), bc_uu]
  · rw [rc, r1c, bc_uu]
  · rw [bc_ur (by omega), r2 _ (by omega) (by omega), a1 _ (by omega), bc_uu]
  · rw [bc_ur (by omega), a2 _ (by omega), bc_uj (by decide), bc_uu]
  · rw [bc_ur (by omega), a2 _ (by omega), bc_uu]
  · rw [bc_urow (by omega), r2 _ (by omega) (by omega)]; exact b1 k k0 k1
  · rw [bc_urow (by omega)]; exact b2 k k0 k1
def bs_pl0 (k : Int) : Int := if k = 4 then 60 else if k = 5 then 4 else if k = 8 then -1 else 0
theorem bs_fst_0 (p : Int → Prop) [DecidablePred p] {n : Int} (h : n ≤ 0) : bs_fst p n = -1 := by
  have e : n.toNat = 0 := by omega
  unfold bs_fst bc_it
  rw [e]; rfl
theorem bs_Nw_0 {m : bc_H} {c : Int} {B NM : Int → Int} (h : bs_clr m c) (eB : ∀ k, 0 ≤ k → k < 160 → B k = bs_pl0 k) : bs_Nw m c B NM := by
  obtain ⟨⟨c0, c1, c2, c3, c11⟩, ⟨d1, d2, d3, d4⟩, e1, e2⟩ := h
  have z : ∀ k, 0 ≤ k → k < 160 → k ≠ 4 → k ≠ 5 → k ≠ 8 → B k = 0 := fun k k0 k1 k4 k5 k8 => by rw [eB k k0 k1]; unfold bs_pl0; rw [if_neg k4, if_neg k5, if_neg k8]
  have b0 := z 0 (by decide) (by decide) (by decide) (by decide) (by decide)
  have b1 := z 1 (by decide) (by decide) (by decide) (by decide) (by decide)
  have b2 := z 2 (by decide) (by decide) (by decide) (by decide) (by decide)
  have b3 := z 3 (by decide) (by decide) (by decide) (by decide) (by decide)
  have b6 := z 6 (by decide) (by decide) (by decide) (by decide) (by decide)
  have b7 := z 7 (by decide) (by decide) (by decide) (by decide) (by decide)
  have b4 : B 4 = 60 := eB 4 (by decide) (by decide)
  have b5 : B 5 = 4 := eB 5 (by decide) (by decide)
  have b8 : B 8 = -1 := eB 8 (by decide) (by decide)
  have w : ∀ a b, bs_way B a b = 1000000 := fun a b => by unfold bs_way; rw [b7]; rfl
  refine ⟨⟨by omega, by omega, by omega, by omega, by omega, by omega, by omega, by omega⟩, ⟨b6, b8⟩, fun w w0 w1 => absurd w1 (by omega), fun f f0 f1 => absurd f1 (by omega), fun v v0 v1 => absurd v1 (by omega), fun a b a0 a1 b0 b1 => ?_, fun a b a0 a1 b0 b1 => ?_, ⟨fun f f0 f1 => z _ (by omega) (by omega) (by omega) (by omega) (by omega), fun v v0 v1 => ⟨z _ (by omega) (by omega) (by omega) (by omega) (by omega), fun b b0 b1 => z _ (by omega) (by omega) (by omega) (by omega) (by omega)⟩, fun w w0 w1 => z _ (by omega) (by omega) (by omega) (by omega) (by omega)⟩, ⟨⟨by omega, by omega, by omega, by omega, by omega, by omega, by omega⟩, fun w w0 w1 => absurd w1 (by omega), fun k k0 k1 => absurd k1 (by omega), fun v v0 v1 => absurd v1 (by omega), fun f f0 f1 => absurd f1 (by omega), fun a b a0 a1 => absurd a1 (by omega)⟩, ?_⟩
  · have := z (134 + 5 * a + b) (by omega) (by omega) (by omega) (by omega) (by omega)
    rw [e1 _ (by omega) (by omega)]
    omega
  · rw [e2 _ (by omega) (by omega), w, if_neg (by decide)]
  · rw [c11]
    refine ⟨by omega, fun l hl => ?_⟩
    have cn : ∀ K, bs_cn 0 (m (c + 17)) (m (c + 18)) (m (c + 19)) K (bs_c32 l) = -1 := fun K => by
      unfold bs_cn
      rw [if_pos (bs_fst_0 _ (by omega))]
    have rn : ∀ off x, x ≤ 0 → bs_rn NM off x (bs_c256 l) = -1 := fun off x hx => by unfold bs_rn; exact bs_fst_0 _ hx
    rw [cn, cn, cn, cn, rn _ _ (by omega), rn _ _ (by omega), rn _ _ (by omega), rn _ _ (by omega)]
    refine ⟨⟨rfl, rfl, rfl, rfl⟩, ⟨fun u => absurd (bs_fst_0 _ (by omega)) u, fun u => ?_⟩⟩
    rcases u with u | u | u | u <;> exact absurd rfl u
/-- the class begins -/
theorem bc_c_begin {d : Nat} {T : Int → Int} {n c : Int} {h : bc_H} {K : bc_H → Prop} (hc : 24 ≤ c ∧ c ≤ 44) (n0 : 0 ≤ n ∧ n ≤ 900) (n6 : n ≤ h 6 0) (hT : ∀ k, 0 ≤ k → k < n → h 7 k = T k) (h8 : ∀ i, 0 ≤ i → i < 27 → h 8 i = bc_hB 8 i) (hK : ∀ m, bs_PS h T n c m → bs_To T n 0 m → bs_clr m c → m 9 3 = 0 → m 9 4 = 0 → K m) : bf_Cave_clear (d + 4) c (bc_upd h 9 1 c) (bc_U (fun h1 => bf_Text_begin (d + 4) n (bc_upd (bc_upd h1 9 3 0) 9 4 0) (bc_U K))) := by
  refine bc_c_clear (d := d + 2) (fun h1 a1 b1 => rv_Text_begin (d := d + 3) ?_)
  have e60 : bc_upd (bc_upd h1 9 3 0) 9 4 0 6 0 = h 6 0 := by rw [bc_ur (by decide), bc_ur (by decide), a1 6 (by omega), bc_ur (by decide)]
  rw [e60]
  have en : (if h 6 0 < n then h 6 0 else n) = n := if_neg (by omega)
  rw [en]
  have q : ∀ x, x ≠ 6 → x ≠ 9 → ¬ (c ≤ x ∧ x < c + 20) → ∀ y, bc_upd (bc_upd (bc_upd (bc_upd (bc_upd (bc_upd (bc_upd h1 9 3 0) 9 4 0) 6 9 n) 6 0 0) 6 10 0) 6 1 0) 6 2 (-1) x y = h x y := fun x x6 x9 xc y => by
    rw [bc_ur x6, bc_ur x6, bc_ur x6, bc_ur x6, bc_ur x6, bc_ur x9, bc_ur x9, a1 x xc, bc_ur x9]
  have q9 : bc_upd (bc_upd (bc_upd (bc_upd (bc_upd (bc_upd (bc_upd h1 9 3 0) 9 4 0) 6 9 n) 6 0 0) 6 10 0) 6 1 0) 6 2 (-1) 9 = bc_upd (bc_upd h1 9 3 0) 9 4 0 9 := by
    rw [bc_urow (by decide), bc_urow (by decide), bc_urow (by decide), bc_urow (by decide), bc_urow (by decide)]
  have qc : ∀ x, c ≤ x → x < c + 20 → bc_upd (bc_upd (bc_upd (bc_upd (bc_upd (bc_upd (bc_upd h1 9 3 0) 9 4 0) 6 9 n) 6 0 0) 6 10 0) 6 1 0) 6 2 (-1) x = h1 x := fun x x0 x1 => by
    rw [bc_urow (by omega), bc_urow (by omega), bc_urow (by omega), bc_urow (by omega), bc_urow (by omega), bc_urow (by omega), bc_urow (by omega)]
  have z0 : bc_upd (bc_upd (bc_upd (bc_upd (bc_upd (bc_upd (bc_upd h1 9 3 0) 9 4 0) 6 9 n) 6 0 0) 6 10 0) 6 1 0) 6 2 (-1) 6 0 = 0 := by
    rw [bc_uj (by decide), bc_uj (by decide), bc_uj (by decide), bc_uu]
  have z1 : bc_upd (bc_upd (bc_upd (bc_upd (bc_upd (bc_upd (bc_upd h1 9 3 0) 9 4 0) 6 9 n) 6 0 0) 6 10 0) 6 1 0) 6 2 (-1) 6 1 = 0 := by
    rw [bc_uj (by decide), bc_uu]
  have z2 : bc_upd (bc_upd (bc_upd (bc_upd (bc_upd (bc_upd (bc_upd h1 9 3 0) 9 4 0) 6 9 n) 6 0 0) 6 10 0) 6 1 0) 6 2 (-1) 6 2 = -1 := bc_uu _ _ _ _
  have z9 : bc_upd (bc_upd (bc_upd (bc_upd (bc_upd (bc_upd (bc_upd h1 9 3 0) 9 4 0) 6 9 n) 6 0 0) 6 10 0) 6 1 0) 6 2 (-1) 6 9 = n := by
    rw [bc_uj (by decide), bc_uj (by decide), bc_uj (by decide), bc_uj (by decide), bc_uu]
  have z10 : bc_upd (bc_upd (bc_upd (bc_upd (bc_upd (bc_upd (bc_upd h1 9 3 0) 9 4 0) 6 9 n) 6 0 0) 6 10 0) 6 1 0) 6 2 (-1) 6 10 = 0 := by
    rw [bc_uj (by decide), bc_uj (by decide), bc_uu]
  generalize bc_upd (bc_upd (bc_upd (bc_upd (bc_upd (bc_upd (bc_upd h1 9 3 0) 9 4 0) 6 9 n) 6 0 0) 6 10 0) 6 1 0) 6 2 (-1) = m0 at q q9 qc z0 z1 z2 z9 z10 ⊢
  refine bc_c_advance (d := d + 2) (T := T) (n := n) (p := 0) n0 ⟨Int.le_refl 0, n0.1⟩ (fun k k0 k1 => by rw [q 7 (by decide) (by decide) (by omega)]; exact hT k k0 k1) (fun i i0 i1 => by rw [q 8 (by decide) (by decide) (by omega)]; exact h8 i i0 i1) z9 z10 (fun m l t => ?_)
  have cl : bs_clr m c := by
    unfold bs_clr
    rw [l.1 c (by omega), l.1 (c + 1) (by omega), l.1 (c + 3) (by omega), l.1 (c + 8) (by omega), l.1 (c + 1 + 1) (by omega), l.1 (c + 3 + 3) (by omega), qc c (by omega) (by omega), qc (c + 1) (by omega) (by omega), qc (c + 3) (by omega) (by omega), qc (c + 8) (by omega) (by omega), qc (c + 1 + 1) (by omega) (by omega), qc (c + 3 + 3) (by omega) (by omega)]
    exact b1
  refine hK m ⟨⟨fun k k0 k1 => by rw [l.1 7 (by decide), q 7 (by decide) (by decide) (by omega)]; exact hT k k0 k1, fun i i0 i1 => by rw [l.1 8 (by decide), q 8 (by decide) (by decide) (by omega)]; exact h8 i i0 i1, by rw [l.2 9 (by decide)]; exact z9, 0, Int.le_refl 0, t⟩, ⟨by rw [l.2 0 (by decide)]; exact z0, by rw [l.2 1 (by decide)]; exact z1, by rw [l.2 2 (by decide)]; exact z2⟩, by rw [l.1 9 (by decide), q9, bc_uj (by decide), bc_uj (by decide), a1 9 (by omega), bc_uu], fun x x6 x9 _ xc => by rw [l.1 x x6]; exact funext (q x x6 x9 xc), bs_pl0, fun _ => 0, bs_Nw_0 cl (fun _ _ _ => rfl)⟩ t cl (by rw [l.1 9 (by decide), q9, bc_uj (by decide), bc_uu]) (by rw [l.1 9 (by decide), q9, bc_uu])
/-- the reference begins -/
theorem bc_m_begins {D : Nat} {T : Int → Int} {n lim : Int} {g m : bc_H} {A B : bc_H → Prop} (n0 : 0 ≤ n ∧ n ≤ 900) (l0 : n ≤ lim) (hb : bs_tb8 T n) (g10 : n ≤ g 156 10) (hT : ∀ k, 0 ≤ k → k < n → bc_w8 (g 162 k) = T k) (t : bs_To T n 0 m) (hK : ∀ g1, (∀ x, x ≠ 156 → x ≠ 163 → g1 x = g x) → (∀ y, (y < 10 ∨ y = 16 ∨ 19 < y) → g1 156 y = g 156 y) → (g1 156 10 = 0 ∧ g1 156 17 = -1 ∧ g1 156 18 = 0) → bs_Tk T n m g1 → A g1) : bf_M_begins (D + 2) n lim g (bc_B A B) := by
  refine rv_M_begins (d := D + 1) ⟨fun q => absurd q (by omega), fun _ => ⟨fun q => absurd q (by omega), fun _ => ⟨fun _ => ?_, fun q => absurd q (by omega)⟩⟩⟩
  have key : ∀ g1 : bc_H, (∀ x, x ≠ 163 → g1 x = bc_upd g 156 11 n x) → (∀ k, 0 ≤ k → k < (0 : Int) → g1 163 k = T k) → bl_M_begins_16 (D + 2) n 0 g1 (bc_B A B) := by
    refine bc_lup (P := fun i => ∀ g1 : bc_H, (∀ x, x ≠ 163 → g1 x = bc_upd g 156 11 n x) → (∀ k, 0 ≤ k → k < i → g1 163 k = T k) → bl_M_begins_16 (D + 2) n i g1 (bc_B A B)) (n := n) ?_ (fun i i0 i1 ih => ?_) (Int.le_refl 0) n0.1
    · intro g1 e1 e2
      refine rv_M_begins_16 (d := D + 1) ⟨fun _ => ?_, fun q => absurd q (by omega)⟩
      have u11 : bc_upd (bc_upd (bc_upd (bc_upd (bc_upd g1 156 10 0) 156 18 0) 156 17 (-1)) 156 14 0) 156 19 0 156 11 = n := by
        rw [bc_uj (by decide), bc_uj (by decide), bc_uj (by decide), bc_uj (by decide), bc_uj (by decide), e1 156 (by decide), bc_uu]
      have u14 : bc_upd (bc_upd (bc_upd (bc_upd (bc_upd g1 156 10 0) 156 18 0) 156 17 (-1)) 156 14 0) 156 19 0 156 14 = 0 := by
        rw [bc_uj (by decide), bc_uu]
      have u10 : bc_upd (bc_upd (bc_upd (bc_upd (bc_upd g1 156 10 0) 156 18 0) 156 17 (-1)) 156 14 0) 156 19 0 156 10 = 0 := by
        rw [bc_uj (by decide), bc_uj (by decide), bc_uj (by decide), bc_uj (by decide), bc_uu]
      have u17 : bc_upd (bc_upd (bc_upd (bc_upd (bc_upd g1 156 10 0) 156 18 0) 156 17 (-1)) 156 14 0) 156 19 0 156 17 = -1 := by
        rw [bc_uj (by decide), bc_uj (by decide), bc_uu]
      have u18 : bc_upd (bc_upd (bc_upd (bc_upd (bc_upd g1 156 10 0) 156 18 0) 156 17 (-1)) 156 14 0) 156 19 0 156 18 = 0 := by
        rw [bc_uj (by decide), bc_uj (by decide), bc_uj (by decide), bc_uu]
      have ur : ∀ x, x ≠ 156 → bc_upd (bc_upd (bc_upd (bc_upd (bc_upd g1 156 10 0) 156 18 0) 156 17 (-1)) 156 14 0) 156 19 0 x = g1 x := fun x hx => by
        rw [bc_urow hx, bc_urow hx, bc_urow hx, bc_urow hx, bc_urow hx]
      have uy : ∀ y, (y < 10 ∨ y = 16 ∨ 19 < y) → bc_upd (bc_upd (bc_upd (bc_upd (bc_upd g1 156 10 0) 156 18 0) 156 17 (-1)) 156 14 0) 156 19 0 156 y = g 156 y := fun y hy => by
        rw [bc_uj (by omega), bc_uj (by omega), bc_uj (by omega), bc_uj (by omega), bc_uj (by omega), e1 156 (by decide), bc_uj (by omega)]
      generalize bc_upd (bc_upd (bc_upd (bc_upd (bc_upd g1 156 10 0) 156 18 0) 156 17 (-1)) 156 14 0) 156 19 0 = g2 at u11 u14 u10 u17 u18 ur uy ⊢
      refine bc_m_ahead (d := D) (p := 0) n0 (Int.le_refl 0) hb ⟨u11, fun k k0 k1 => by rw [ur 163 (by decide)]; exact e2 k k0 k1⟩ u14 t (fun g3 a b tk => ?_)
      refine hK g3 (fun x x1 x2 => by rw [a x x1, ur x x1, e1 x x2, bc_urow x1]) (fun y hy => by rw [b y (by omega)]; exact uy y hy) ⟨by rw [b 10 (by decide)]; exact u10, by rw [b 17 (by decide)]; exact u17, by rw [b 18 (by decide)]; exact u18⟩ tk
    · intro g1 e1 e2
      refine rv_M_begins_16 (d := D + 1) ⟨fun q => absurd q (by omega), fun _ => ⟨by omega, by omega, ?_⟩⟩
      rw [bc_wi (x := i + 1) (by omega) (by omega), e1 162 (by decide), bc_ur (by decide), hT i i0 i1]
      refine ih _ (fun x hx => by rw [bc_urow hx]; exact e1 x hx) (fun k k0 k1 => ?_)
      by_cases e : k = i
      · subst e; exact bc_uu _ _ _ _
      · rw [bc_uj e]; exact e2 k k0 (by omega)
  exact key _ (fun x hx => rfl) (fun k k0 k1 => absurd k1 (by omega))
theorem bc_m_plain {D : Nat} {g : bc_H} {K : bc_H → Prop} (hK : ∀ g1, (∀ x, x ≠ 157 → g1 x = g x) → (∀ k, (k < 2112 ∨ 2640 ≤ k) → g1 157 k = g 157 k) → (∀ k, 0 ≤ k → k < 528 → g1 157 (2112 + k) = bs_pl0 k) → K g1) : bf_M_plain D 2112 g (bc_U K) := by
  refine rv_M_plain ?_
  have key : ∀ g1 : bc_H, (∀ x, x ≠ 157 → g1 x = g x) → (∀ k, (k < 2112 ∨ 2640 ≤ k) → g1 157 k = g 157 k) → (∀ k, 0 ≤ k → k < (0 : Int) → g1 157 (2112 + k) = 0) → bl_M_plain_2 D 2112 0 g1 (bc_U K) := by
    refine bc_lup (P := fun i => ∀ g1 : bc_H, (∀ x, x ≠ 157 → g1 x = g x) → (∀ k, (k < 2112 ∨ 2640 ≤ k) → g1 157 k = g 157 k) → (∀ k, 0 ≤ k → k < i → g1 157 (2112 + k) = 0) → bl_M_plain_2 D 2112 i g1 (bc_U K)) (n := 528) ?_ (fun i i0 i1 ih => ?_) (Int.le_refl 0) (by decide)
    · intro g1 e1 e2 e3
      refine rv_M_plain_2 ⟨fun _ => ⟨by decide, by decide, by decide, ?_⟩, fun q => absurd q (by omega)⟩
      rw [show bc_w32 (2112 + 4) = 2116 from rfl, show bc_w32 (2112 + 5) = 2117 from rfl, show bc_w32 (2112 + 8) = 2120 from rfl]
      refine hK _ (fun x hx => by rw [bc_urow hx, bc_urow hx, bc_urow hx]; exact e1 x hx) (fun k hk => by rw [bc_uj (by omega), bc_uj (by omega), bc_uj (by omega)]; exact e2 k hk) (fun k k0 k1 => ?_)
      unfold bs_pl0
      by_cases k8 : k = 8
      · subst k8; rw [if_neg (by decide), if_neg (by decide), if_pos rfl]; exact bc_uu _ _ _ _
      · rw [bc_uj (by omega)]
        by_cases k5 : k = 5
        · subst k5; rw [if_neg (by decide), if_pos rfl]; exact bc_uu _ _ _ _
        · rw [bc_uj (by omega)]
          by_cases k4 : k = 4
          · subst k4; rw [if_pos rfl]; exact bc_uu _ _ _ _
          · rw [bc_uj (by omega), if_neg k4, if_neg k5, if_neg k8]; exact e3 k k0 k1
    · intro g1 e1 e2 e3
      refine rv_M_plain_2 ⟨fun q => absurd q (by omega), fun _ => ?_⟩
      rw [bc_wi (x := 2112 + i) (by omega) (by omega), bc_wi (x := i + 1) (by omega) (by omega)]
      refine ⟨by omega, ih _ (fun x hx => by rw [bc_urow hx]; exact e1 x hx) (fun k hk => by rw [bc_uj (by omega)]; exact e2 k hk) (fun k k0 k1 => ?_)⟩
      by_cases e : k = i
      · subst e; exact bc_uu _ _ _ _
      · rw [bc_uj (by omega)]; exact e3 k k0 (by omega)
  exact key g (fun _ _ => rfl) (fun _ _ => rfl) (fun k k0 k1 => absurd k1 (by omega))
