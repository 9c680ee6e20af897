/-! ===== one visitor, one figure more; one over another ===== -/
theorem bs_c256_pos {l : List Int} (h : bs_word l) : 0 < bs_c256 l := by
  have key : ∀ (l : List Int) (x : Int), 0 ≤ x → (∀ c ∈ l, 1 ≤ c ∧ c ≤ 26) → 0 ≤ l.foldl (fun x c => x * 256 + (96 + c)) x ∧ (l ≠ [] → 0 < l.foldl (fun x c => x * 256 + (96 + c)) x) := by
    intro l
    induction l with
    | nil => intro x h0 _; exact ⟨h0, fun q => absurd rfl q⟩
    | cons a l ih =>
      intro x h0 hc
      have ha := hc a List.mem_cons_self
      have := ih (x * 256 + (96 + a)) (by omega) (fun c hc' => hc c (List.mem_cons_of_mem _ hc'))
      rw [List.foldl_cons]
      refine ⟨this.1, fun _ => ?_⟩
      by_cases e : l = []
      · subst e; show 0 < x * 256 + (96 + a); omega
      · exact this.2 e
  have := (key l 0 (Int.le_refl _) h.2.2).2 (fun e => by have := h.1; rw [e] at this; exact absurd this (by decide))
  exact this
theorem bs_fst_s {p : Int → Prop} [DecidablePred p] {n : Int} (h : 0 ≤ n) : bs_fst p (n + 1) = (if bs_fst p n = -1 then (if p n then n else -1) else bs_fst p n) := bc_its _ _ h
theorem bs_rn_more {NM NM' : Int → Int} {off m x : Int} (m0 : 0 ≤ m) (h : ∀ k, 0 ≤ k → k < m → NM' (off + k) = NM (off + k)) (hn : NM' (off + m) = 0) (hx : 0 < x) : bs_rn NM' off (m + 1) x = bs_rn NM off m x := by
  have e := bs_rn_A (x := x) h
  unfold bs_rn at e ⊢
  rw [bs_fst_s m0, e]
  split
  · rename_i q
    rw [if_neg (by omega), q]
  · rfl
theorem bc_c_addVisitor {d : Nat} {c a b n : Int} {h : bc_H} {K : bc_H → Prop} (hn : h c 3 = n) (n0 : 0 ≤ n) (n6 : n < 6) (hK : ∀ h', (∀ x y, (x ≠ c ∨ y ≠ 3) → x ≠ c + 13 → x ≠ c + 14 → x ≠ c + 15 → x ≠ c + 16 → h' x y = h x y) → h' c 3 = n + 1 → h' (c + 13) = bc_set (h (c + 13)) n a → h' (c + 14) = bc_set (h (c + 14)) n b → h' (c + 15) = bc_set (h (c + 15)) n 0 → h' (c + 16) = bs_zer (h (c + 16)) (n * 5) 5 → K h') : bf_Cave_addVisitor d c a b h (bc_U K) := by
  refine rv_Cave_addVisitor ?_
  simp (disch := omega) only [bc_ur, bc_uu, bc_uj, bc_wi, Int.add_zero]
  rw [hn]
  refine ⟨by omega, by omega, by omega, ?_⟩
  intro m em
  have key : bl_Cave_addVisitor_20 d c 0 (bc_row m (c + 16) (bs_zer (h (c + 16)) (n * 5) 0)) (bc_U K) := by
    refine bc_lup (P := fun i => bl_Cave_addVisitor_20 d c i (bc_row m (c + 16) (bs_zer (h (c + 16)) (n * 5) i)) (bc_U K)) (n := 5) ?_ (fun i i0 hi ih => ?_) (Int.le_refl 0) (by omega)
    · refine rv_Cave_addVisitor_20 ⟨fun _ => ?_, fun q => absurd q (by omega)⟩
      have m3 : bc_row m (c + 16) (bs_zer (h (c + 16)) (n * 5) 5) c 3 = n := by rw [bc_rn (by omega), em, bc_ur (by omega), bc_ur (by omega), bc_ur (by omega), hn]
      rw [m3, bc_wi (by omega) (by omega)]
      refine hK _ (fun x y k1 k2 k3 k4 k5 => ?_) (by rw [bc_uu]) ?_ ?_ ?_ ?_
      · rw [bc_un2 (by omega), bc_rn k5, em, bc_ur k4, bc_ur k3, bc_ur k2]
      · rw [bc_urow (by omega), bc_rn (by omega), em, bc_urow (by omega), bc_urow (by omega), bc_u_row, bs_rr]
      · rw [bc_urow (by omega), bc_rn (by omega), em, bc_urow (by omega), bc_u_row, bs_rr, bc_urow (by omega)]
      · rw [bc_urow (by omega), bc_rn (by omega), em, bc_u_row, bs_rr, bc_urow (by omega), bc_urow (by omega)]
      · rw [bc_urow (by omega), bs_rr]
    · refine rv_Cave_addVisitor_20 ⟨fun q => absurd q (by omega), fun _ => ?_⟩
      have m3 : bc_row m (c + 16) (bs_zer (h (c + 16)) (n * 5) i) c 3 = n := by rw [bc_rn (by omega), em, bc_ur (by omega), bc_ur (by omega), bc_ur (by omega), hn]
      rw [m3]
      simp (disch := omega) only [bc_wi, Int.add_zero]
      rw [bc_ru, bs_zer_s i0]
      exact ⟨by omega, ih⟩
  rw [bs_zer_0, show h (c + 16) = m (c + 16) by rw [em, bc_urow (by omega), bc_urow (by omega), bc_urow (by omega)], bc_rself] at key
  exact key
def bs_come (A : Int → Int) (a b : Int) : Int → Int := bc_set (bc_set (bs_zer (bc_set A 2 (A 2 + 1)) (54 + 8 * A 2) 8) (54 + 8 * A 2) a) (54 + 8 * A 2 + 1) b
theorem bs_come_n {A : Int → Int} {a b k : Int} (h2 : k ≠ 2) (h : k < 54 + 8 * A 2 ∨ 54 + 8 * A 2 + 8 ≤ k) : bs_come A a b k = A k := by
  unfold bs_come; rw [bc_setn (by omega), bc_setn (by omega)]; unfold bs_zer; rw [if_neg (by omega), bc_setn h2]
theorem bs_come_2 {A : Int → Int} {a b : Int} (h : 0 ≤ A 2) : bs_come A a b 2 = A 2 + 1 := by
  unfold bs_come; rw [bc_setn (by omega), bc_setn (by omega)]; unfold bs_zer; rw [if_neg (by omega), bc_setj]
theorem bs_come_v {A : Int → Int} {a b : Int} : bs_come A a b (54 + 8 * A 2) = a ∧ bs_come A a b (54 + 8 * A 2 + 1) = b ∧ ∀ k, 2 ≤ k → k < 8 → bs_come A a b (54 + 8 * A 2 + k) = 0 := by
  unfold bs_come
  refine ⟨by rw [bc_setn (by omega), bc_setj], by rw [bc_setj], fun k k0 k1 => ?_⟩
  rw [bc_setn (by omega), bc_setn (by omega)]; unfold bs_zer; rw [if_pos (by omega)]
theorem bs_W_come {A : Int → Int} {a b : Int} (hW : bs_W A) (h6 : A 2 < 6) (ha : 1 ≤ a ∧ a ≤ 60) (hb : 0 ≤ b ∧ b < A 1) : bs_W (bs_come A a b) := by
  obtain ⟨⟨w0, w1, w2, w3, w4, w5, w7⟩, hw, hy, hv, hf, hg⟩ := hW
  have es : ∀ k, k ≠ 2 → (k < 54 ∨ 102 ≤ k) → bs_come A a b k = A k := fun k k2 hk => bs_come_n k2 (by omega)
  have e2 := bs_come_2 (a := a) (b := b) w2.1
  refine ⟨?_, bs_WW_p w1.2 (es _ (by omega) (by omega)) (es _ (by omega) (by omega)) (fun k _ _ => es k (by omega) (by omega)) hw, bs_WY_p w7.2 ⟨es _ (by omega) (by omega), es _ (by omega) (by omega), fun k _ _ => es k (by omega) (by omega)⟩ hy, fun u u0 u1 => ?_, bs_WF_p w3.2 (es _ (by omega) (by omega)) (es _ (by omega) (by omega)) (fun k _ _ => es k (by omega) (by omega)) hf, bs_WG_p w0.2 (es _ (by omega) (by omega)) (fun k _ _ => es k (by omega) (by omega)) hg⟩
  · rw [es 0 (by omega) (by omega), es 1 (by omega) (by omega), e2, es 3 (by omega) (by omega), es 4 (by omega) (by omega), es 5 (by omega) (by omega), es 7 (by omega) (by omega)]
    exact ⟨w0, w1, by omega, w3, w4, w5, w7⟩
  · rw [e2] at u1
    rw [es 1 (by omega) (by omega), es 0 (by omega) (by omega)]
    by_cases e : u = A 2
    · obtain ⟨v1, v2, v3⟩ := bs_come_v (A := A) (a := a) (b := b)
      rw [e, v1, v2, v3 2 (by omega) (by omega)]
      refine ⟨ha, hb, by omega, fun j j0 j5 => ?_⟩
      rw [v3 (3 + j) (by omega) (by omega)]
      exact ⟨by omega, fun _ => rfl⟩
    · rw [bs_come_n (by omega) (by omega), bs_come_n (k := 54 + 8 * u + 1) (by omega) (by omega), bs_come_n (k := 54 + 8 * u + 2) (by omega) (by omega)]
      have q := hv u u0 (by omega)
      refine ⟨q.1, q.2.1, q.2.2.1, fun j j0 j5 => ?_⟩
      rw [bs_come_n (by omega) (by omega)]
      exact q.2.2.2 j j0 j5
/-- the class's cave with one visitor more -/
theorem bs_C_come {h h' : bc_H} {c a b : Int} {A : Int → Int} (hC : bs_C h c A) (hW : bs_W A) (h6 : A 2 < 6) (f1 : ∀ x y, (x ≠ c ∨ y ≠ 3) → x ≠ c + 13 → x ≠ c + 14 → x ≠ c + 15 → x ≠ c + 16 → h' x y = h x y) (f2 : h' c 3 = A 2 + 1) (f3 : h' (c + 13) = bc_set (h (c + 13)) (A 2) a) (f4 : h' (c + 14) = bc_set (h (c + 14)) (A 2) b) (f5 : h' (c + 15) = bc_set (h (c + 15)) (A 2) 0) (f6 : h' (c + 16) = bs_zer (h (c + 16)) (A 2 * 5) 5) : bs_C h' c (bs_come A a b) := by
  obtain ⟨⟨n4, n5, n6, n2, n0, n1, n3⟩, hw, hd, hg, hf, hm⟩ := id hC
  obtain ⟨⟨w0, w1, w2, w3, w4, w5, w7⟩, hww, hwy, hwv, hwf, hwg⟩ := id hW
  have es : ∀ k, k ≠ 2 → (k < 54 ∨ 102 ≤ k) → bs_come A a b k = A k := fun k k2 hk => bs_come_n k2 (by omega)
  have e2 := bs_come_2 (a := a) (b := b) w2.1
  have er : ∀ x, x ≠ c → x ≠ c + 13 → x ≠ c + 14 → x ≠ c + 15 → x ≠ c + 16 → h' x = h x := fun x x1 x2 x3 x4 x5 => funext fun y => f1 x y (Or.inl x1) x2 x3 x4 x5
  refine ⟨⟨?_, ?_, ?_, ?_, ?_, ?_, ?_⟩, ?_, ?_, ?_, ?_, fun u u0 u1 => ?_⟩
  · rw [f1 _ _ (by omega) (by omega) (by omega) (by omega) (by omega), es _ (by omega) (by omega)]; exact n4
  · rw [f1 _ _ (by omega) (by omega) (by omega) (by omega) (by omega), es _ (by omega) (by omega)]; exact n5
  · rw [f1 _ _ (by omega) (by omega) (by omega) (by omega) (by omega), es _ (by omega) (by omega)]; exact n6
  · rw [f2, e2]
  · rw [er _ (by omega) (by omega) (by omega) (by omega) (by omega), es _ (by omega) (by omega)]; exact n0
  · rw [er _ (by omega) (by omega) (by omega) (by omega) (by omega), es _ (by omega) (by omega)]; exact n1
  · rw [er _ (by omega) (by omega) (by omega) (by omega) (by omega), es _ (by omega) (by omega)]; exact n3
  · exact bs_Cw_p w1.2 (er _ (by omega) (by omega) (by omega) (by omega) (by omega)) (er _ (by omega) (by omega) (by omega) (by omega) (by omega)) (es _ (by omega) (by omega)) (fun k _ _ => es k (by omega) (by omega)) hw
  · exact bs_Cd_p w7 (er _ (by omega) (by omega) (by omega) (by omega) (by omega)) (er _ (by omega) (by omega) (by omega) (by omega) (by omega)) ⟨es _ (by omega) (by omega), es _ (by omega) (by omega), fun k _ _ => es k (by omega) (by omega)⟩ hd
  · exact bs_Cg_p w0.2 (er _ (by omega) (by omega) (by omega) (by omega) (by omega)) (es _ (by omega) (by omega)) (fun k _ _ => es k (by omega) (by omega)) hg
  · exact bs_Cf_p w3.2 (er _ (by omega) (by omega) (by omega) (by omega) (by omega)) (er _ (by omega) (by omega) (by omega) (by omega) (by omega)) (er _ (by omega) (by omega) (by omega) (by omega) (by omega)) (er _ (by omega) (by omega) (by omega) (by omega) (by omega)) (es _ (by omega) (by omega)) (fun k _ _ => es k (by omega) (by omega)) hf
  · rw [e2] at u1
    rw [f3, f4, f5, f6]
    by_cases e : u = A 2
    · obtain ⟨v1, v2, v3⟩ := bs_come_v (A := A) (a := a) (b := b)
      rw [e, v1, v2, v3 2 (by omega) (by omega), bc_setj, bc_setj, bc_setj]
      refine ⟨rfl, rfl, rfl, fun j j0 j5 => ?_⟩
      rw [v3 (3 + j) (by omega) (by omega)]
      unfold bs_zer; rw [if_pos (by omega)]
    · rw [bs_come_n (by omega) (by omega), bs_come_n (k := 54 + 8 * u + 1) (by omega) (by omega), bs_come_n (k := 54 + 8 * u + 2) (by omega) (by omega), bc_setn e, bc_setn e, bc_setn e]
      have q := hm u u0 (by omega)
      refine ⟨q.1, q.2.1, q.2.2.1, fun j j0 j5 => ?_⟩
      rw [bs_come_n (by omega) (by omega)]
      unfold bs_zer; rw [if_neg (by omega)]
      exact q.2.2.2 j j0 j5
theorem bs_o_come {d : Nat} {a b : Int} {S : Int → Int} {L c s p q : Int} {h : bc_H} (hR : bs_R S L c s p q h) {P : Int → Int → bc_H → Prop} {Q1 : Int → bc_H → Prop} (hQ : ∀ y h1, h1 (-2) = h (-2) → h1 (-3) = h (-3) → bf_M_come (d + 4) a b h1 (bc_I fun y2 h2 => P y y2 h2) → Q1 y h1) (hK : ∀ y h2, bs_R S L c s p q h2 → P y y h2) : bf_X_come (d + 4) a b h (bc_I Q1) := by
  obtain ⟨⟨hcs, hpq⟩, ⟨e12, e13, e14, e15⟩, hS, est, efr, htr, htp, hfa, hlv, hlo, hrs, hmk, ⟨hC, hW, hck, hN, hP⟩⟩ := id hR
  obtain ⟨⟨n4, n5, n6, n2, n0, n1, n3⟩, hw, hd, hg, hf, hm⟩ := id hC
  obtain ⟨⟨w0, w1, w2, w3, w4, w5, w7⟩, hww, hwy, hwv, hwf, hwg⟩ := id hW
  have hq : ∀ y v, P y y (bc_upd (bc_upd h 0 0 v) 156 2 v) := fun y v => hK _ _ (bs_R_st hR v)
  have e157 : ∀ v, bc_upd h 0 0 v 157 = h 157 := fun v => bc_urow (by decide)
  have bad : ¬ ((1 ≤ a ∧ a ≤ 60) ∧ 0 ≤ b ∧ b < h 157 1) → Q1 (-1) (bc_upd h 0 0 1) := fun z => by
    refine hQ _ _ (by first | rfl | exact bc_urow (by decide)) (by first | rfl | exact bc_urow (by decide)) ?_
    refine rv_M_come (d := d + 3) ?_
    rw [e157]
    exact ⟨fun z1 => ⟨fun z2 => absurd ⟨z1, z2⟩ z, fun _ => hq _ _⟩, fun _ => hq _ _⟩
  refine rv_X_come (d := d + 2) ?_
  rw [e12, n2, n1, bc_wi (x := h 157 1 - 1) (by omega) (by omega)]
  refine ⟨fun za => ⟨by omega, fun zb => ⟨by omega, fun z => ⟨by omega, ?_⟩, fun z => ?_⟩, fun z => bad (by omega)⟩, fun z => bad (by omega)⟩
  · refine bc_c_addVisitor n2 w2.1 z (fun h1 f1 f2 f3 f4 f5 f6 => ?_)
    have e0 : ∀ x y, (x < 24 ∨ 155 < x) → h1 x y = h x y := fun x y hx => f1 x y (by omega) (by omega) (by omega) (by omega) (by omega)
    have hC1 := bs_C_come (a := a) (b := b) hC hW z f1 f2 f3 f4 f5 f6
    have hW1 := bs_W_come hW z za (by omega : 0 ≤ b ∧ b < h 157 1)
    rw [e0 0 12 (by omega), e12, f2, bc_wi (x := h 157 2 + 1 - 1) (by omega) (by omega), show h 157 2 + 1 - 1 = h 157 2 by omega]
    refine ⟨by omega, ?_⟩
    refine hQ _ _ (by rw [bc_urow (by decide)]; exact funext fun y => e0 _ _ (by omega)) (by rw [bc_urow (by decide)]; exact funext fun y => e0 _ _ (by omega)) ?_
    have e1571 : bc_upd h1 0 0 0 157 = h 157 := by rw [bc_urow (by decide)]; exact funext fun y => e0 _ _ (by omega)
    have e1581 : bc_upd h1 0 0 0 158 = h 158 := by rw [bc_urow (by decide)]; exact funext fun y => e0 _ _ (by omega)
    refine rv_M_come (d := d + 3) ?_
    rw [e1571]
    refine ⟨fun _ => ⟨fun _ => ⟨fun _ => ?_, fun q => absurd q (by omega)⟩, fun q => absurd (by omega) q⟩, fun q => absurd za q⟩
    rw [bc_wi (by omega) (by omega), bc_u_row _ 157, e1571]
    have key : bl_M_come_36 (d + 4) a b (h 157 2) 0 (bc_row (bc_upd h1 0 0 0) 157 (bs_zer (bc_set (h 157) 2 (h 157 2 + 1)) (54 + 8 * h 157 2) 0)) (bc_I fun y2 h2 => P (h 157 2) y2 h2) := by
      refine bc_lup (P := fun i => bl_M_come_36 (d + 4) a b (h 157 2) i (bc_row (bc_upd h1 0 0 0) 157 (bs_zer (bc_set (h 157) 2 (h 157 2 + 1)) (54 + 8 * h 157 2) i)) (bc_I fun y2 h2 => P (h 157 2) y2 h2)) (n := 8) ?_ (fun i i0 hi ih => ?_) (Int.le_refl 0) (by omega)
      · refine rv_M_come_36 (d := d + 3) ⟨fun _ => ?_, fun q => absurd q (by omega)⟩
        simp (disch := omega) only [bc_wi, Int.add_zero]
        refine ⟨by omega, by omega, by omega, fun g eg => ?_⟩
        have g157 : bc_upd g 156 2 0 157 = bs_come (h 157) a b := by
          rw [bc_urow (by decide), eg, bc_urow (by decide), bc_ru, bc_ru, bs_rr]; rfl
        have g158 : bc_upd g 156 2 0 158 = bc_set (h 158) (12 + h 157 2) 0 := by
          rw [bc_urow (by decide), eg, bc_ru, bc_ru, bc_u_row, bs_rr, bc_rn (by decide), e1581]
        have go : ∀ x y, x ≠ 157 → x ≠ 158 → (x ≠ 0 ∨ y ≠ 0) → (x ≠ 156 ∨ y ≠ 2) → bc_upd g 156 2 0 x y = h1 x y := fun x y k1 k2 k3 k4 => by
          rw [bc_un2 k4, eg, bc_ur k2, bc_ru, bc_ru, bc_rn k1, bc_un2 k3]
        refine hK _ _ (bs_R_G hR (fun x y k k1 k2 k3 k4 => ?_) ?_ ⟨?_, ?_, ?_, ?_, ?_⟩)
        · have kf := bs_kf k
          by_cases q7 : x = 157
          · subst q7; rw [g157]; exact bs_come_n (by omega) (by omega)
          · by_cases q8 : x = 158
            · subst q8; rw [g158, bc_setn (by omega)]
            · rw [go x y q7 q8 kf.1 kf.2]; exact f1 x y (by omega) (by omega) (by omega) (by omega) (by omega)
        · rw [bc_uu, bc_ur (by decide), eg, bc_ur (by decide), bc_ru, bc_ru, bc_rn (by decide), bc_uu]
        · rw [g157]
          exact bs_C_h (fun x y x0 x1 _ => go x y (by omega) (by omega) (by omega) (by omega)) hC1
        · rw [g157]; exact hW1
        · rw [g157, bs_come_n (by omega) (by omega)]; exact hck
        · rw [g157, g158, go c 11 (by omega) (by omega) (by omega) (by omega), f1 c 11 (by omega) (by omega) (by omega) (by omega) (by omega)]
          have rr : ∀ x, c + 17 ≤ x → x ≤ c + 19 → bc_upd g 156 2 0 x = h x := fun x x0 x1 => funext fun y => by rw [go x y (by omega) (by omega) (by omega) (by omega)]; exact f1 x y (by omega) (by omega) (by omega) (by omega) (by omega)
          rw [rr _ (by omega) (by omega), rr _ (by omega) (by omega), rr _ (by omega) (by omega)]
          refine ⟨?_, fun l hl => ?_⟩
          · rw [bs_come_n (k := 0) (by omega) (by omega), bs_come_n (k := 1) (by omega) (by omega), bs_come_2 w2.1, bs_come_n (k := 3) (by omega) (by omega)]
            have := hN.1
            omega
          · have t := hN.2 l hl
            rw [bs_come_n (k := 0) (by omega) (by omega), bs_come_n (k := 1) (by omega) (by omega), bs_come_2 w2.1, bs_come_n (k := 3) (by omega) (by omega)]
            rw [bs_rn_A (NM' := bc_set (h 158) (12 + h 157 2) 0) (NM := h 158) (off := 0) (fun k k0 k1 => bc_setn (by omega)), bs_rn_A (NM' := bc_set (h 158) (12 + h 157 2) 0) (NM := h 158) (off := 5) (fun k k0 k1 => bc_setn (by omega)), bs_rn_A (NM' := bc_set (h 158) (12 + h 157 2) 0) (NM := h 158) (off := 18) (fun k k0 k1 => bc_setn (by omega)), bs_rn_more (NM := h 158) w2.1 (fun k k0 k1 => bc_setn (by omega)) (bc_setj _ _ _) (bs_c256_pos hl)]
            exact t
        · rw [g157]
          refine bs_Pl_A (A := h 157) (fun x y x0 x1 => ?_) (by rw [bs_come_n (k := 1) (by omega) (by omega)]; exact Int.le_refl _) (by rw [bs_come_2 w2.1]; omega) (fun k hk => bs_come_n (by omega) (by omega)) hP
          rw [go x y (by omega) (by omega) (by omega) (by omega)]; exact f1 x y (by omega) (by omega) (by omega) (by omega) (by omega)
      · refine rv_M_come_36 (d := d + 3) ⟨fun q => absurd q (by omega), fun _ => ?_⟩
        simp (disch := omega) only [bc_wi, Int.add_zero]
        rw [bc_ru, bs_zer_s i0]
        exact ⟨by omega, ih⟩
    rw [bs_zer_0] at key
    exact key
  · refine hQ _ _ (by first | rfl | exact bc_urow (by decide)) (by first | rfl | exact bc_urow (by decide)) ?_
    refine rv_M_come (d := d + 3) ?_
    rw [e157]
    exact ⟨fun _ => ⟨fun _ => ⟨fun q => absurd (by omega) q, fun _ => hq _ _⟩, fun q => absurd (by omega) q⟩, fun q => absurd za q⟩
