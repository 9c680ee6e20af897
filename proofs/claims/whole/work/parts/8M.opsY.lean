/-! ===== tour, tourAt ===== -/
theorem bs_lshF : ∀ n : Nat, n < 9 → bc_lshl 1 (n : Int) = ((2 ^ n : Nat) : Int) := by decide +kernel
theorem bs_lsh {n : Int} (n0 : 0 ≤ n) (n8 : n ≤ 8) : bc_lshl 1 n = bc_shl 1 n := by
  have t := bs_lshF n.toNat (by omega)
  rw [show ((n.toNat : Nat) : Int) = n by omega] at t
  rw [t, bs_shl n0 n8]
def bs_tg (A : Int → Int) (v S st : Int) : Prop := (0 ≤ v ∧ v < A 2) ∧ (0 ≤ S ∧ S < 128) ∧ bs_pn S ≤ 5 ∧ (1 ≤ st ∧ st ≤ 9)
theorem bs_tourSt {v Z st : Int} {S : Int → Int} {L c s p q : Int} {h : bc_H} (hR : bs_R S L c s p q h) : (∃ y : Int, (1 ≤ y) ∧ (∀ (d : Nat) (K : Int → bc_H → Prop), K y h → bf_X_statusOfTour (d + 2) v Z st h (bc_I K)) ∧ (∀ (d : Nat) (m : bc_H) (K : Int → bc_H → Prop), m 157 = h 157 → K y m → bf_M_wrongTour (d + 5) v Z st m (bc_I K))) ∨ (bs_tg (h 157) v Z st ∧ (∀ (d : Nat) (K : Int → bc_H → Prop), bf_Search_findTour (d + 1) c v Z st h (bc_B (fun h11 => K 0 h11) (fun h11 => K 6 h11)) → bf_X_statusOfTour (d + 2) v Z st h (bc_I K)) ∧ (∀ (d : Nat) (m : bc_H) (K : Int → bc_H → Prop), m 157 = h 157 → K 0 m → bf_M_wrongTour (d + 5) v Z st m (bc_I K))) := by
  obtain ⟨⟨hcs, hpq⟩, ⟨e12, e13, e14, e15⟩, hS, est, efr, htr, htp, hfa, hlv, hlo, hrs, hmk, ⟨hC, hW, hck, hN, hP⟩⟩ := id hR
  obtain ⟨⟨n4, n5, n6, n2, n0, n1, n3⟩, hw, hd, hg, hf, hm⟩ := id hC
  obtain ⟨⟨w0, w1, w2, w3, w4, w5, w7⟩, hww, hwy, hwv, hwf, hwg⟩ := id hW
  have sr := bs_shl_r w1.1 (show h 157 1 ≤ 8 by omega)
  have sl : bc_shl 1 (h 157 1) ≤ 128 := by
    have := bs_shl_le (f := h 157 1) (k := 8) w1.1 (by omega) (by omega)
    rw [show bc_shl 1 8 = 256 by decide] at this
    omega
  by_cases zv : 0 ≤ v ∧ v < h 157 2
  · by_cases zs : 0 ≤ Z ∧ Z ≤ bc_shl 1 (h 157 1) - 1
    · by_cases zb : bs_pn Z ≤ 5
      · by_cases zm : 1 ≤ st ∧ st ≤ 9
        · have qv := hwv v zv.1 zv.2
          have cm := hm v zv.1 zv.2
          have cls : ∀ (d : Nat) (K : Int → bc_H → Prop), (bs_turned (h 157) v → K 7 h) → (¬ bs_turned (h 157) v → (h 157 (54 + 8 * v + 2) ≤ 0 → bf_Search_findTour (d + 1) c v Z st h (bc_B (fun h11 => K 0 h11) (fun h11 => K 6 h11))) ∧ (0 < h 157 (54 + 8 * v + 2) → K 7 h)) → bf_X_statusOfTour (d + 2) v Z st h (bc_I K) := fun d K k1 k2 => by
            refine rv_X_statusOfTour (d := d) ?_
            rw [e12, n2, n1, bc_wi (x := h 157 2 - 1) (by omega) (by omega), bc_wi (x := bc_shl 1 (h 157 1) - 1) (by omega) (by omega)]
            refine ⟨by omega, fun _ => ⟨fun _ => ⟨by omega, fun _ => ?_, fun z => absurd zs z⟩, fun z => absurd zm z⟩, fun z => absurd (show 0 ≤ v ∧ v ≤ h 157 2 - 1 by omega) z⟩
            refine bc_bitCount ⟨fun _ => ?_, fun z => absurd zb (by omega)⟩
            rw [e12]
            refine ⟨by omega, ?_⟩
            refine bc_c_isTurned hm zv.1 zv.2 w2.2 k1 (fun nt => ?_)
            rw [e12, cm.2.2.1]
            refine ⟨by omega, by omega, fun z => ⟨by omega, (k2 nt).1 z⟩, fun z => (k2 nt).2 z⟩
          have ref : ∀ (d : Nat) (m : bc_H) (K : Int → bc_H → Prop), m 157 = h 157 → (bs_turned (h 157) v → K 7 m) → (¬ bs_turned (h 157) v → K (if h 157 (54 + 8 * v + 2) ≤ 0 then 0 else 7) m) → bf_M_wrongTour (d + 5) v Z st m (bc_I K) := fun d m K e k1 k2 => by
            refine rv_M_wrongTour (d := d + 3) ?_
            rw [e, bs_lsh w1.1 (by omega), bc_wl (x := bc_shl 1 (h 157 1) - 1) (by omega) (by omega)]
            refine ⟨fun _ => ⟨fun _ => ?_, fun z => absurd zs z⟩, fun z => absurd zv z⟩
            refine bc_m_bitsN (by omega) (by omega) ⟨fun z => absurd zb (by omega), fun _ => ⟨fun _ => ?_, fun z => absurd zm z⟩⟩
            refine bc_m_isTurned (d := d) e hW zv.1 zv.2 k1 (fun nt => ?_)
            rw [bc_wi (x := 8 * v) (by omega) (by omega), bc_wi (x := 54 + 8 * v) (by omega) (by omega), bc_wi (x := 54 + 8 * v + 2) (by omega) (by omega), e]
            exact ⟨by omega, k2 nt⟩
          by_cases tu : bs_turned (h 157) v
          · exact Or.inl ⟨7, by omega, fun d K hk => cls d K (fun _ => hk) (fun z => absurd tu z), fun d m K e hk => ref d m K e (fun _ => hk) (fun z => absurd tu z)⟩
          · by_cases tg : h 157 (54 + 8 * v + 2) ≤ 0
            · refine Or.inr ⟨⟨zv, by omega, zb, zm⟩, fun d K hk => cls d K (fun z => absurd z tu) (fun _ => ⟨fun _ => hk, fun z => absurd tg (by omega)⟩), fun d m K e hk => ref d m K e (fun z => absurd z tu) (fun _ => ?_)⟩
              rw [if_pos tg]; exact hk
            · refine Or.inl ⟨7, by omega, fun d K hk => cls d K (fun z => absurd z tu) (fun _ => ⟨fun z => absurd z tg, fun _ => hk⟩), fun d m K e hk => ref d m K e (fun z => absurd z tu) (fun _ => ?_)⟩
              rw [if_neg tg]; exact hk
        · refine Or.inl ⟨1, by omega, fun d K hk => rv_X_statusOfTour (d := d) ?_, fun d m K e hk => rv_M_wrongTour (d := d + 3) ?_⟩
          · rw [e12, n2, bc_wi (x := h 157 2 - 1) (by omega) (by omega)]
            exact ⟨by omega, fun _ => ⟨fun z => absurd z zm, fun _ => hk⟩, fun z => absurd (show 0 ≤ v ∧ v ≤ h 157 2 - 1 by omega) z⟩
          · rw [e, bs_lsh w1.1 (by omega), bc_wl (x := bc_shl 1 (h 157 1) - 1) (by omega) (by omega)]
            exact ⟨fun _ => ⟨fun _ => bc_m_bitsN (by omega) (by omega) ⟨fun z => absurd zb (by omega), fun _ => ⟨fun z => absurd z zm, fun _ => hk⟩⟩, fun z => absurd zs z⟩, fun z => absurd zv z⟩
      · refine Or.inl ⟨1, by omega, fun d K hk => rv_X_statusOfTour (d := d) ?_, fun d m K e hk => rv_M_wrongTour (d := d + 3) ?_⟩
        · rw [e12, n2, n1, bc_wi (x := h 157 2 - 1) (by omega) (by omega), bc_wi (x := bc_shl 1 (h 157 1) - 1) (by omega) (by omega)]
          refine ⟨by omega, fun _ => ⟨fun _ => ⟨by omega, fun _ => ?_, fun z => absurd zs z⟩, fun _ => hk⟩, fun z => absurd (show 0 ≤ v ∧ v ≤ h 157 2 - 1 by omega) z⟩
          exact bc_bitCount ⟨fun z => absurd z zb, fun _ => hk⟩
        · rw [e, bs_lsh w1.1 (by omega), bc_wl (x := bc_shl 1 (h 157 1) - 1) (by omega) (by omega)]
          exact ⟨fun _ => ⟨fun _ => bc_m_bitsN (by omega) (by omega) ⟨fun _ => hk, fun z => absurd z zb⟩, fun z => absurd zs z⟩, fun z => absurd zv z⟩
    · refine Or.inl ⟨1, by omega, fun d K hk => rv_X_statusOfTour (d := d) ?_, fun d m K e hk => rv_M_wrongTour (d := d + 3) ?_⟩
      · rw [e12, n2, n1, bc_wi (x := h 157 2 - 1) (by omega) (by omega), bc_wi (x := bc_shl 1 (h 157 1) - 1) (by omega) (by omega)]
        exact ⟨by omega, fun _ => ⟨fun _ => ⟨by omega, fun z => absurd z zs, fun _ => hk⟩, fun _ => hk⟩, fun z => absurd (show 0 ≤ v ∧ v ≤ h 157 2 - 1 by omega) z⟩
      · rw [e, bs_lsh w1.1 (by omega), bc_wl (x := bc_shl 1 (h 157 1) - 1) (by omega) (by omega)]
        exact ⟨fun _ => ⟨fun z => absurd z zs, fun _ => hk⟩, fun z => absurd zv z⟩
  · refine Or.inl ⟨1, by omega, fun d K hk => rv_X_statusOfTour (d := d) ?_, fun d m K e hk => rv_M_wrongTour (d := d + 3) ?_⟩
    · rw [e12, n2, bc_wi (x := h 157 2 - 1) (by omega) (by omega)]
      exact ⟨by omega, fun z => absurd (show 0 ≤ v ∧ v < h 157 2 by omega) zv, fun _ => hk⟩
    · rw [e]
      exact ⟨fun z => absurd z zv, fun _ => hk⟩
theorem bc_c_start {d : Nat} {c v : Int} {h : bc_H} {A : Int → Int} {K : bc_H → Prop} (hc : 24 ≤ c ∧ c ≤ 130) (hC : bs_C h c A) (hW : bs_W A) (v0 : 0 ≤ v) (v1 : v < A 2) (hK : ∀ m : bc_H, (∀ x, x ≠ 18 → x ≠ 21 → m x = h x) → (∀ y, y ≠ 6 → y ≠ 7 → y ≠ 8 → m 18 y = h 18 y) → (m 18 6 = c + 3 ∧ m 18 7 = A (54 + 8 * v) ∧ m 18 8 = A 4) → (∀ b, 0 ≤ b → b < 5 → m 21 b = A (54 + 8 * v + (3 + b))) → K m) : bf_Search_start (d + 1) c v h (bc_U K) := by
  obtain ⟨⟨n4, n5, n6, n2, n0, n1, n3⟩, hw, hd, hgg, hff, hmm⟩ := id hC
  have w2 := hW.1.2.2.1
  have cm := hmm v v0 v1
  refine rv_Search_start (d := d) ⟨by omega, fun h1 e1 => ?_⟩
  rw [bc_wi (x := v * 5) (by omega) (by omega)]
  refine bs_copyRow (by omega) (by omega) (by omega) (Or.inl (by omega)) (fun h' c1 c2 => ?_)
  have x1 : ∀ x, x ≠ 18 → h1 x = h x := fun x hx => by rw [e1, bc_urow hx, bc_urow hx, bc_urow hx]
  refine hK h' (fun x a b => funext fun y => by rw [c1 x y (Or.inl b), x1 x a]) (fun y a b e => ?_) ⟨?_, ?_, ?_⟩ (fun b b0 b5 => ?_)
  · rw [c1 18 y (by omega), e1, bc_uj e, bc_uj b, bc_uj a]
  · rw [c1 18 6 (by omega), e1, bc_uj (by decide), bc_uj (by decide), bc_uu]
  · rw [c1 18 7 (by omega), e1, bc_uj (by decide), bc_uu, bc_ur (by omega)]; exact cm.1
  · rw [c1 18 8 (by omega), e1, bc_uu, bc_ur (by omega), bc_ur (by omega)]; exact n4
  · rw [show b = 0 + b by omega, c2 b b0 b5, x1 (c + 16) (by omega), cm.2.2.2 b b0 b5, Int.zero_add]
def bs_tr (A : Int → Int) (v S st : Int) : Int × (Int → Int) := bs_Tg A v st (bs_pn S).toNat A S 0 0 (fun _ => 0) (-1, fun _ => 0)
theorem bc_c_findTour {d : Nat} {c v S st : Int} {h : bc_H} {A : Int → Int} {P N : bc_H → Prop} (hc : 24 ≤ c ∧ c ≤ 130) (hC : bs_C h c A) (hW : bs_W A) (hg : bs_tg A v S st) (hK : ∀ m, bs_Tf h m → bs_Tb m c (A (54 + 8 * v)) st (bs_pn S) (bs_tr A v S st) → ((bs_tr A v S st).1 ≠ -1 → P m) ∧ ((bs_tr A v S st).1 = -1 → N m)) : bf_Search_findTour (d + 8) c v S st h (bc_B P N) := by
  obtain ⟨zv, zS, zb, zm⟩ := hg
  have w2 := hW.1.2.2.1
  have pn := bs_pnI (s := S) zS.1 (by omega)
  refine rv_Search_findTour (d := d + 7) (bc_c_start (d := d + 6) hc hC hW zv.1 zv.2 (fun m m1 m2 m3 m4 => ⟨by omega, ?_⟩))
  obtain ⟨d0, e⟩ : ∃ d0, d + 7 = d0 + (bs_pn S).toNat + 2 := ⟨d + 5 - (bs_pn S).toNat, by omega⟩
  rw [e]
  have ea : bc_upd (bc_upd m 18 9 st) 18 0 (-1) (c + 14) v = A (54 + 8 * v + 1) := by
    rw [bc_ur (by omega), bc_ur (by omega), m1 (c + 14) (by omega) (by omega)]
    exact (hC.2.2.2.2.2 v zv.1 zv.2).2.1
  rw [ea]
  refine bc_c_goOn hc hC hW zv.1 zv.2 (by omega) zm.2 zb (bs_pn S).toNat A S 0 0 (fun _ => 0) (-1, fun _ => 0) _ _ ⟨hW, fun _ _ _ => rfl⟩ zS (by omega) (by omega) (by omega) (fun x x1 x2 x3 x4 => by rw [bc_urow x1, bc_urow x1]; exact m1 x x1 x4) ⟨?_, ?_, fun z => absurd rfl z⟩ (fun b b0 b5 => ?_) (fun j j0 j1 => absurd j1 (by omega)) (fun m' a1 a2 _ _ => ?_)
  · rw [bc_uj (by decide), bc_uj (by decide), bc_uj (by decide), bc_uj (by decide), bc_uj (by decide), bc_uu]
    exact ⟨m3.1, m3.2.1, rfl⟩
  · rw [bc_uu]
  · rw [bc_urow (by decide), bc_urow (by decide), show 0 * 5 + b = b by omega]; exact m4 b b0 b5
  · have q := hK m' a1 a2
    have e18 : m' 18 0 = (bs_tr A v S st).1 := a2.2.1
    rw [e18]
    exact ⟨q.1, fun z => q.2 (Classical.byContradiction z)⟩
theorem bc_m_laysTour {d : Nat} {v S st : Int} {h : bc_H} {A : Int → Int} {K : bc_H → Prop} (eA : h 157 = A) (hW : bs_W A) (hg : bs_tg A v S st) (hK : ∀ m, bs_Tm h m A (bs_pn S) (bs_tr A v S st) → (∀ q, q < 3168 → m 157 q = A q) → K m) : bf_M_laysTour (d + 7) v S st h (bc_U K) := by
  obtain ⟨zv, zS, zb, zm⟩ := hg
  have pn := bs_pnI (s := S) zS.1 (by omega)
  refine rv_M_laysTour (d := d + 5) (bc_m_bitsN zS.1 (by omega) (bc_m_laysFar (d := d + 5) eA hW (fun X ag => ?_)))
  refine bc_m_keepsX (A := A) (by rw [bc_urow (by decide), bc_rn (by decide)]; exact eA) (by omega) (by omega) ?_
  generalize eG : bc_upd (bc_upd (bc_row (bc_upd (bc_row h 165 X) 156 28 (if bs_pn S = 0 then 0 else -1)) 157 (bs_kp A 3168 160)) 166 0 (-1)) 167 0 0 = G
  have Gx : ∀ x, x ≠ 156 → x ≠ 157 → x ≠ 165 → x ≠ 166 → x ≠ 167 → G x = h x := fun x x1 x2 x3 x4 x5 => by rw [← eG, bc_urow x5, bc_urow x4, bc_rn x2, bc_urow x1, bc_rn x3]
  have G156 : ∀ y, y ≠ 28 → G 156 y = h 156 y := fun y hy => by rw [← eG, bc_urow (by decide), bc_urow (by decide), bc_rn (by decide), bc_uj hy, bc_rn (by decide)]
  have G28 : G 156 28 = if bs_pn S = 0 then 0 else -1 := by rw [← eG, bc_urow (by decide), bc_urow (by decide), bc_rn (by decide), bc_uu]
  have G157 : G 157 = bs_kp A 3168 160 := by rw [← eG, bc_urow (by decide), bc_urow (by decide), bs_rr]
  have G165 : G 165 = X := by rw [← eG, bc_urow (by decide), bc_urow (by decide), bc_rn (by decide), bc_urow (by decide), bs_rr]
  have G166 : G 166 0 = -1 := by rw [← eG, bc_urow (by decide), bc_uu]
  have G167 : G 167 0 = 0 := by rw [← eG, bc_uu]
  have lo : ∀ q, q < 3168 → bs_kp A 3168 160 q = A q := fun q hq => if_neg (by omega)
  have hi : ∀ q, 0 ≤ q → q < 160 → bs_kp A 3168 160 (3168 + q) = A q := fun q q0 q1 => by
    unfold bs_kp; rw [if_pos (by omega), show 3168 + q - 3168 = q by omega]
  by_cases z : bs_pn S = 0
  · have er : bs_tr A v S st = (0, fun _ => 0) := by
      unfold bs_tr; rw [z]; rfl
    refine rv_M_laysTour_28 (d := d + 5) ⟨fun q => absurd q (by omega), fun _ => ⟨fun _ => ?_, fun q => absurd q (by omega)⟩⟩
    refine bc_m_restoresX rfl (by omega) (by omega) ?_
    refine hK _ ⟨fun x x1 x2 x3 x4 x5 x6 => by rw [bc_rn x2]; exact Gx x x1 x2 x3 x4 x5, fun y hy => by rw [bc_rn (by decide)]; exact G156 y hy, by rw [bc_rn (by decide), G165]; exact ag, by rw [bc_rn (by decide), G28, if_pos z, er], fun _ j j0 j1 => absurd j1 (by omega)⟩ (fun q hq => ?_)
    rw [bs_rr]
    unfold bs_rs
    by_cases u : 0 ≤ q ∧ q < 160
    · rw [if_pos u, G157]; exact hi q u.1 u.2
    · rw [if_neg u, G157]; exact lo q hq
  · obtain ⟨k, ek⟩ : ∃ k : Nat, (bs_pn S).toNat = k + 1 := ⟨(bs_pn S).toNat - 1, by omega⟩
    have er : bs_tr A v S st = bs_Tg A v st (k + 1) A S 0 0 (fun _ => 0) (-1, fun _ => 0) := by unfold bs_tr; rw [ek]
    refine bc_m_tourL (d := d) (h := h) hW zv.1 zv.2 (by omega) zm.2 (many := bs_pn S) zb k A S 0 0 (fun _ => 0) (-1, fun _ => 0) G K ⟨hW, fun _ _ _ => rfl⟩ zS (by omega) (by omega) ⟨fun x x1 x2 x3 x4 x5 _ => Gx x x1 x2 x3 x4 x5, G156, by rw [G165]; exact ag, by rw [G28, if_neg z], fun q => absurd rfl q⟩ (fun q q0 q1 => by rw [G157, show 3168 + 160 * 0 + q = 3168 + q by omega]; exact hi q q0 q1) G166 G167 (fun j j0 j1 => absurd j1 (by omega)) (fun w _ _ => ⟨fun b => ⟨b, fun j j0 j1 => absurd j1 (by omega)⟩, fun b => b.1⟩) (fun m a1 a2 a3 _ => ?_)
    rw [← er] at a1
    refine rv_M_laysTour_28 (d := d + 5) ⟨fun _ => ?_, fun q => absurd q (by omega)⟩
    refine bc_m_restoresX rfl (by omega) (by omega) ?_
    refine hK _ ⟨fun x x1 x2 x3 x4 x5 x6 => by rw [bc_rn x2]; exact a1.1 x x1 x2 x3 x4 x5 x6, fun y hy => by rw [bc_rn (by decide)]; exact a1.2.1 y hy, by rw [bc_rn (by decide)]; exact a1.2.2.1, by rw [bc_rn (by decide)]; exact a1.2.2.2.1, by rw [bc_rn (by decide)]; exact a1.2.2.2.2⟩ (fun q hq => ?_)
    rw [bs_rr]
    unfold bs_rs
    by_cases u : 0 ≤ q ∧ q < 160
    · rw [if_pos u, show (3168 : Int) + q = 3168 + 160 * 0 + q by omega]; exact a3 q u.1 u.2
    · rw [if_neg u, a2 q (by omega), G157]; exact lo q hq
theorem bs_Tfin {S : Int → Int} {L c s p q : Int} {h : bc_H} (hR : bs_R S L c s p q h) {m0 g : bc_H} {v : Int} (f1 : ∀ x, x ≠ 0 → ¬ (18 ≤ x ∧ x ≤ 22) → m0 x = h x) (f0 : ∀ y, y ≠ 0 → m0 0 y = h 0 y) (f00 : m0 0 0 = v) (g1 : ∀ x, x ≠ 156 → x ≠ 157 → ¬ (165 ≤ x ∧ x ≤ 168) → ¬ (178 ≤ x ∧ x ≤ 180) → g x = m0 x) (g2 : ∀ y, y ≠ 28 → g 156 y = m0 156 y) (g3 : ∀ k, k < 2112 → g 157 k = h 157 k) : bs_R S L c s p q (bc_upd g 156 2 v) := by
  refine bs_R_F hR (fun a b k => ?_) ?_
  · have kf := bs_kf k
    rw [bc_un2 kf.2]
    by_cases e7 : a = 157
    · subst e7
      refine g3 b ?_
      unfold bs_keep at k; omega
    · by_cases e6 : a = 156
      · subst e6
        have nb : b ≠ 28 := by unfold bs_keep at k; omega
        rw [g2 b nb, f1 156 (by decide) (by decide)]
      · have n1 : ¬ (165 ≤ a ∧ a ≤ 168) := fun e => bs_nk (by omega) k
        have n3 : ¬ (178 ≤ a ∧ a ≤ 180) := fun e => bs_nk (by omega) k
        have n2 : ¬ (18 ≤ a ∧ a ≤ 22) := fun e => bs_nk (by omega) k
        rw [g1 a e6 e7 n1 n3]
        by_cases e0 : a = 0
        · subst e0; exact f0 b (kf.1.resolve_left (fun w => w rfl))
        · rw [f1 a e0 n2]
  · rw [bc_uu, bc_ur (by decide), g1 0 (by decide) (by decide) (by decide) (by decide), f00]
theorem bs_o_tour {d : Nat} {v S' st : Int} {S : Int → Int} {L c s p q : Int} {h : bc_H} (hR : bs_R S L c s p q h) {P : Int → Int → bc_H → Prop} {Q1 : Int → bc_H → Prop} (hQ : ∀ y h1, h1 (-2) = h (-2) → h1 (-3) = h (-3) → bf_M_tour (d + 10) v S' st h1 (bc_I fun y2 h2 => P y y2 h2) → Q1 y h1) (hK : ∀ y h2, bs_R S L c s p q h2 → P y y h2) : bf_X_tour (d + 10) v S' st h (bc_I Q1) := by
  obtain ⟨⟨hcs, hpq⟩, ⟨e12, e13, e14, e15⟩, hS, est, efr, htr, htp, hfa, hlv, hlo, hrs, hmk, ⟨hC, hW, hck, hN, hP⟩⟩ := id hR
  obtain ⟨⟨n4, n5, n6, n2, n0, n1, n3⟩, hw, hd, hg, hf, hm⟩ := id hC
  obtain ⟨⟨w0, w1, w2, w3, w4, w5, w7⟩, hww, hwy, hwv, hwf, hwg⟩ := id hW
  have hq : ∀ y v, P y y (bc_upd (bc_upd h 0 0 v) 156 2 v) := fun y v => hK _ _ (bs_R_st hR v)
  rcases bs_tourSt (v := v) (Z := S') (st := st) hR with ⟨y, y1, cS, mS⟩ | ⟨hg, cS, mS⟩
  · refine rv_X_tour (d := d + 9) (cS (d + 7) _ ⟨fun z => absurd z (by omega), fun _ => ?_⟩)
    refine hQ _ _ (by first | rfl | exact bc_urow (by decide)) (by first | rfl | exact bc_urow (by decide)) ?_
    exact rv_M_tour (d := d + 8) (mS (d + 4) _ _ (bc_urow (by decide)) ⟨fun z => absurd z (by omega), fun _ => hq _ _⟩)
  · refine rv_X_tour (d := d + 9) (cS (d + 7) _ (bc_c_findTour (d := d) (by omega) hC hW hg (fun m a1 a2 => ?_)))
    have mid : ∀ st' yy, ((bs_tr (h 157) v S' st).1 ≠ -1 → st' = 0 ∧ yy = (bs_tr (h 157) v S' st).1) → ((bs_tr (h 157) v S' st).1 = -1 → st' = 6 ∧ yy = -1) → Q1 yy (bc_upd m 0 0 st') := fun st' yy b1 b2 => by
      have mx : ∀ x, x ≠ 0 → ¬ (18 ≤ x ∧ x ≤ 22) → bc_upd m 0 0 st' x = h x := fun x x0 x1 => by rw [bc_urow x0]; exact a1 x (by omega) (by omega) (by omega) (by omega)
      have m0 : ∀ y, y ≠ 0 → bc_upd m 0 0 st' 0 y = h 0 y := fun y hy => by rw [bc_uj hy, a1 0 (by decide) (by decide) (by decide) (by decide)]
      have e157 := mx 157 (by decide) (by decide)
      refine hQ _ _ (mx _ (by decide) (by decide)) (mx _ (by decide) (by decide)) ?_
      refine rv_M_tour (d := d + 8) (mS (d + 4) _ _ e157 ⟨fun _ => ?_, fun z => absurd z (by omega)⟩)
      refine bc_m_laysTour (d := d + 2) e157 hW hg (fun g g1 g2 => ?_)
      rw [g1.2.2.2.1]
      have fin := bs_Tfin hR (v := st') (m0 := bc_upd m 0 0 st') (g := g) mx m0 (bc_uu _ _ _ _) (fun x x1 x2 x3 x4 => g1.1 x x1 x2 (by omega) (by omega) (by omega) (by omega)) g1.2.1 (fun k hk => g2 k (by omega))
      refine ⟨fun z => ?_, fun z => ?_⟩
      · obtain ⟨c1, c2⟩ := b1 z
        subst c1; rw [← c2]; exact hK _ _ fin
      · obtain ⟨c1, c2⟩ := b2 z
        subst c1; rw [c2]; exact hK _ _ fin
    refine ⟨fun z => ⟨fun _ => ?_, fun u => absurd rfl u⟩, fun z => ⟨fun u => absurd u (by decide), fun _ => mid 6 _ (fun u => absurd z u) (fun _ => ⟨rfl, rfl⟩)⟩⟩
    rw [a2.2.1]
    exact mid 0 _ (fun _ => ⟨rfl, rfl⟩) (fun u => absurd u z)
theorem bs_o_tourAt {d : Nat} {v S' st k : Int} {S : Int → Int} {L c s p q : Int} {h : bc_H} (hR : bs_R S L c s p q h) {P : Int → Int → bc_H → Prop} {Q1 : Int → bc_H → Prop} (hQ : ∀ y h1, h1 (-2) = h (-2) → h1 (-3) = h (-3) → bf_M_tourAt (d + 10) v S' st k h1 (bc_I fun y2 h2 => P y y2 h2) → Q1 y h1) (hK : ∀ y h2, bs_R S L c s p q h2 → P y y h2) : bf_X_tourAt (d + 10) v S' st k h (bc_I Q1) := by
  obtain ⟨⟨hcs, hpq⟩, ⟨e12, e13, e14, e15⟩, hS, est, efr, htr, htp, hfa, hlv, hlo, hrs, hmk, ⟨hC, hW, hck, hN, hP⟩⟩ := id hR
  obtain ⟨⟨n4, n5, n6, n2, n0, n1, n3⟩, hw, hd, hg, hf, hm⟩ := id hC
  obtain ⟨⟨w0, w1, w2, w3, w4, w5, w7⟩, hww, hwy, hwv, hwf, hwg⟩ := id hW
  have hq : ∀ y v, P y y (bc_upd (bc_upd h 0 0 v) 156 2 v) := fun y v => hK _ _ (bs_R_st hR v)
  refine rv_X_tourAt (d := d + 9) ⟨fun zk => ?_, fun zk => ?_⟩
  · rcases bs_tourSt (v := v) (Z := S') (st := st) hR with ⟨y, y1, cS, mS⟩ | ⟨hg, cS, mS⟩
    · refine cS (d + 7) _ ⟨fun z => absurd z (by omega), fun _ => ?_⟩
      refine hQ _ _ (by first | rfl | exact bc_urow (by decide)) (by first | rfl | exact bc_urow (by decide)) ?_
      exact rv_M_tourAt (d := d + 9) ⟨fun _ => mS (d + 4) _ _ (bc_urow (by decide)) ⟨fun z => absurd z (by omega), fun _ => hq _ _⟩, fun z => absurd z (by omega)⟩
    · refine cS (d + 7) _ (bc_c_findTour (d := d) (by omega) hC hW hg (fun m a1 a2 => ?_))
      have pn := bs_pnI (s := S') hg.2.1.1 (by have := hg.2.1; omega)
      have zb := hg.2.2.1
      have mid : ∀ st' yy, ((bs_tr (h 157) v S' st).1 ≠ -1 → k < bs_pn S' → st' = 0 ∧ yy = (bs_tr (h 157) v S' st).2 k) → (((bs_tr (h 157) v S' st).1 = -1 ∨ bs_pn S' ≤ k) → st' = 6 ∧ yy = -1) → Q1 yy (bc_upd m 0 0 st') := fun st' yy b1 b2 => by
        have mx : ∀ x, x ≠ 0 → ¬ (18 ≤ x ∧ x ≤ 22) → bc_upd m 0 0 st' x = h x := fun x x0 x1 => by rw [bc_urow x0]; exact a1 x (by omega) (by omega) (by omega) (by omega)
        have m0 : ∀ y, y ≠ 0 → bc_upd m 0 0 st' 0 y = h 0 y := fun y hy => by rw [bc_uj hy, a1 0 (by decide) (by decide) (by decide) (by decide)]
        have e157 := mx 157 (by decide) (by decide)
        refine hQ _ _ (mx _ (by decide) (by decide)) (mx _ (by decide) (by decide)) ?_
        refine rv_M_tourAt (d := d + 9) ⟨fun _ => mS (d + 4) _ _ e157 ⟨fun _ => ?_, fun z => absurd z (by omega)⟩, fun z => absurd z (by omega)⟩
        refine bc_m_laysTour (d := d + 2) e157 hW hg (fun g g1 g2 => ?_)
        rw [g1.2.2.2.1]
        have fin := bs_Tfin hR (v := st') (m0 := bc_upd m 0 0 st') (g := g) mx m0 (bc_uu _ _ _ _) (fun x x1 x2 x3 x4 => g1.1 x x1 x2 (by omega) (by omega) (by omega) (by omega)) g1.2.1 (fun k hk => g2 k (by omega))
        refine ⟨fun z => ?_, fun z => ?_⟩
        · obtain ⟨c1, c2⟩ := b2 (Or.inl z)
          subst c1; rw [c2]; exact hK _ _ fin
        · refine bc_m_bitsN hg.2.1.1 (by have := hg.2.1; omega) ⟨fun lt => ⟨by omega, ?_⟩, fun le => ?_⟩
          · obtain ⟨c1, c2⟩ := b1 z lt
            rw [g1.2.2.2.2 z k (by omega) lt]
            subst c1; rw [c2]; exact hK _ _ fin
          · obtain ⟨c1, c2⟩ := b2 (Or.inr le)
            subst c1; rw [c2]; exact hK _ _ fin
      refine ⟨fun z => ⟨fun _ => ?_, fun u => absurd rfl u⟩, fun z => ⟨fun u => absurd u (by decide), fun _ => mid 6 _ (fun u => absurd z u) (fun _ => ⟨rfl, rfl⟩)⟩⟩
      refine bc_bitCount ⟨fun le => mid 6 _ (fun _ u => absurd u (by omega)) (fun _ => ⟨rfl, rfl⟩), fun lt => ⟨fun _ => ⟨by omega, ?_⟩, fun u => absurd u (by omega)⟩⟩
      rw [a2.2.2 z k (by omega) lt]
      exact mid 0 _ (fun _ _ => ⟨rfl, rfl⟩) (fun u => by
        rcases u with u | u
        · exact absurd u z
        · exact absurd lt (by omega))
  · refine hQ _ _ (by first | rfl | exact bc_urow (by decide)) (by first | rfl | exact bc_urow (by decide)) ?_
    exact rv_M_tourAt (d := d + 9) ⟨fun z => absurd z (by omega), fun _ => hq _ _⟩
