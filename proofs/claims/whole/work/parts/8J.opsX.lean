/-! ===== fits, fitsAt, ask ===== -/
theorem bs_sv_h {h m : bc_H} {t n : Int} (e1 : m 157 = h 157) (e2 : m 5 = h 5) (e3 : m 161 = h 161) (hs : bs_sv h t n) : bs_sv m t n := by
  unfold bs_sv bs_sx at *
  rw [e1, e2, e3]; exact hs
theorem bs_sx_h {h m : bc_H} {t : Int} (e3 : m 161 = h 161) : bs_sx m t = bs_sx h t := by unfold bs_sx; rw [e3]
theorem bs_tfin {S : Int → Int} {L c s p q : Int} {h : bc_H} (hR : bs_R S L c s p q h) {h1 g : bc_H} {v : Int} (f1 : ∀ x, x ≠ 15 → x ≠ 16 → x ≠ 17 → h1 x = h x) (g1 : ∀ x, x ≠ 156 → x ≠ 157 → ¬ (174 ≤ x ∧ x ≤ 177) → g x = bc_upd h1 0 0 v x) (g2 : ∀ y, y ≠ 37 → g 156 y = bc_upd h1 0 0 v 156 y) (g3 : ∀ k, k < 2112 → g 157 k = h 157 k) : bs_R S L c s p q (bc_upd g 156 2 v) := by
  refine bs_R_F hR (fun a b k => ?_) ?_
  · have kf := bs_kf k
    rw [bc_un2 kf.2]
    by_cases e7 : a = 157
    · subst e7
      refine g3 b ?_
      unfold bs_keep at k; omega
    · by_cases e6 : a = 156
      · subst e6
        have nb : b ≠ 37 := by unfold bs_keep at k; omega
        rw [g2 b nb, bc_ur (by decide), f1 156 (by decide) (by decide) (by decide)]
      · have n1 : ¬ (174 ≤ a ∧ a ≤ 177) := fun e => bs_nk (by omega) k
        rw [g1 a e6 e7 n1, bc_un2 kf.1, f1 a (fun e => bs_nk (by omega) k) (fun e => bs_nk (by omega) k) (fun e => bs_nk (by omega) k)]
  · rw [bc_uu, bc_ur (by decide), g1 0 (by decide) (by decide) (by omega), bc_uu]
theorem bs_seenI {S : Int → Int} {L c s p q : Int} {h : bc_H} (hR : bs_R S L c s p q h) {v t n : Int} (v0 : 0 ≤ v ∧ v < h 157 2) (hs : bs_sv h t n) : ∃ lo hi : Int, (1 ≤ lo ∧ lo ≤ hi ∧ hi ≤ 61) ∧ ∀ self, 1 ≤ self → self ≤ 60 → (bs_fit (bs_B (h 157)) (bs_sx h t) v self n ↔ lo ≤ self ∧ self < hi) := by
  obtain ⟨⟨hcs, hpq⟩, ⟨e12, e13, e14, e15⟩, hS, est, efr, htr, htp, hfa, hlv, hlo, hrs, hmk, ⟨hC, hW, hck, hN, hP⟩⟩ := id hR
  obtain ⟨⟨n4, n5, n6, n2, n0, n1, n3⟩, hw, hd, hg, hf, hm⟩ := id hC
  obtain ⟨⟨w0, w1, w2, w3, w4, w5, w7⟩, hww, hwy, hwv, hwf, hwg⟩ := id hW
  exact bs_iv (bs_W_B hW) v0.1 (by rw [bs_B_n (by omega)]; exact v0.2) hs.2.1.1 (fun i i0 i1 => (hs.2.2 i i0 i1).1.1.1)
theorem bs_o_fits {d : Nat} {v t n : Int} {S : Int → Int} {L c s p q : Int} {h : bc_H} (hR : bs_R S L c s p q h) {P : Int → Int → bc_H → Prop} {Q1 : Int → bc_H → Prop} (hQ : ∀ y h1, h1 (-2) = h (-2) → h1 (-3) = h (-3) → bf_M_fits (d + 9) v t n h1 (bc_I fun y2 h2 => P y y2 h2) → Q1 y h1) (hK : ∀ y h2, bs_R S L c s p q h2 → P y y h2) : bf_X_fits (d + 9) v t n h (bc_I Q1) := by
  obtain ⟨⟨hcs, hpq⟩, ⟨e12, e13, e14, e15⟩, hS, est, efr, htr, htp, hfa, hlv, hlo, hrs, hmk, ⟨hC, hW, hck, hN, hP⟩⟩ := id hR
  obtain ⟨⟨n4, n5, n6, n2, n0, n1, n3⟩, hw, hd, hg, hf, hm⟩ := id hC
  obtain ⟨⟨w0, w1, w2, w3, w4, w5, w7⟩, hww, hwy, hwv, hwf, hwg⟩ := id hW
  have hq : ∀ y v, P y y (bc_upd (bc_upd h 0 0 v) 156 2 v) := fun y v => hK _ _ (bs_R_st hR v)
  obtain ⟨y, y0, cS, mS, hy⟩ := bs_seen (d := d + 6) (v := v) (t := t) (n := n) hR
  refine rv_X_fits (d := d + 8) (cS _ ⟨fun yz => ?_, fun yz => ?_⟩)
  · obtain ⟨zv, zt, zn, _, hsg⟩ := hy yz
    have hs : bs_sv h t n := ⟨zt, zn, hsg⟩
    obtain ⟨lo, hi, hlh, hf⟩ := bs_seenI hR zv hs
    rw [e12]
    refine ⟨by omega, ?_⟩
    refine bc_c_fitting (d := d + 6) (by omega) (bs_C_B hW hC) (bs_W_B hW) zv.1 (by rw [bs_B_n (by omega)]; exact zv.2) (bs_B_n (by omega)) hs hlh hf (fun h1 f1 f2 => bc_jlongBits ?_)
    rw [bs_iZ_n (by omega) hlh.2.1 (by omega)]
    have sm : ∀ x, x ≠ 0 → x ≠ 15 → x ≠ 16 → x ≠ 17 → bc_upd h1 0 0 0 x = h x := fun x x0 x1 x2 x3 => by rw [bc_urow x0]; exact f1 x x1 x2 x3
    have e157 := sm 157 (by decide) (by decide) (by decide) (by decide)
    refine hQ _ _ (sm _ (by decide) (by decide) (by decide) (by decide)) (sm _ (by decide) (by decide) (by decide) (by decide)) ?_
    refine rv_M_fits (d := d + 8) (mS _ _ e157 (sm _ (by decide) (by decide) (by decide) (by decide)) (sm _ (by decide) (by decide) (by decide) (by decide)) ⟨fun _ => ?_, fun w => absurd w (by omega)⟩)
    refine bc_m_laysFits (d := d + 1) (lo := lo) (hi := hi) (by rw [e157]; exact hW) (by rw [e157]; exact hck) zv.1 (by rw [e157]; exact zv.2) (bs_sv_h e157 (sm 5 (by decide) (by decide) (by decide) (by decide)) (sm 161 (by decide) (by decide) (by decide) (by decide)) hs) hlh (by rw [e157, bs_sx_h (sm 161 (by decide) (by decide) (by decide) (by decide))]; exact hf) (fun g hg => ?_)
    obtain ⟨g1, g2, g3, g4, g5, g6⟩ := hg
    rw [g5]
    exact hK _ _ (bs_tfin hR f1 (fun x x1 x2 x3 => g1 x x1 x2 (by omega)) g2 (fun k k0 => by rw [g3 k k0, e157]))
  · refine hQ _ _ (by first | rfl | exact bc_urow (by decide)) (by first | rfl | exact bc_urow (by decide)) ?_
    refine rv_M_fits (d := d + 8) (mS _ _ (bc_urow (by decide)) (bc_urow (by decide)) (bc_urow (by decide)) ⟨fun w => absurd w (by omega), fun _ => hq _ _⟩)
theorem bs_o_fitsAt {d : Nat} {v t n w : Int} {S : Int → Int} {L c s p q : Int} {h : bc_H} (hR : bs_R S L c s p q h) {P : Int → Int → bc_H → Prop} {Q1 : Int → bc_H → Prop} (hQ : ∀ y h1, h1 (-2) = h (-2) → h1 (-3) = h (-3) → bf_M_fitsAt (d + 9) v t n w h1 (bc_I fun y2 h2 => P y y2 h2) → Q1 y h1) (hK : ∀ y h2, bs_R S L c s p q h2 → P y y h2) : bf_X_fitsAt (d + 9) v t n w h (bc_I Q1) := by
  obtain ⟨⟨hcs, hpq⟩, ⟨e12, e13, e14, e15⟩, hS, est, efr, htr, htp, hfa, hlv, hlo, hrs, hmk, ⟨hC, hW, hck, hN, hP⟩⟩ := id hR
  obtain ⟨⟨n4, n5, n6, n2, n0, n1, n3⟩, hw, hd, hg, hf, hm⟩ := id hC
  obtain ⟨⟨w0, w1, w2, w3, w4, w5, w7⟩, hww, hwy, hwv, hwf, hwg⟩ := id hW
  have hq : ∀ y v, P y y (bc_upd (bc_upd h 0 0 v) 156 2 v) := fun y v => hK _ _ (bs_R_st hR v)
  obtain ⟨y, y0, cS, mS, hy⟩ := bs_seen (d := d + 6) (v := v) (t := t) (n := n) hR
  refine rv_X_fitsAt (d := d + 8) ⟨fun zw => cS _ ⟨fun yz => ?_, fun yz => ?_⟩, fun zw => ?_⟩
  · obtain ⟨zv, zt, zn, _, hsg⟩ := hy yz
    have hs : bs_sv h t n := ⟨zt, zn, hsg⟩
    obtain ⟨lo, hi, hlh, hf⟩ := bs_seenI hR zv hs
    rw [e12]
    refine ⟨by omega, ?_⟩
    refine bc_c_fitting (d := d + 6) (by omega) (bs_C_B hW hC) (bs_W_B hW) zv.1 (by rw [bs_B_n (by omega)]; exact zv.2) (bs_B_n (by omega)) hs hlh hf (fun h1 f1 f2 => ?_)
    have sm : ∀ st x, x ≠ 0 → x ≠ 15 → x ≠ 16 → x ≠ 17 → bc_upd h1 0 0 st x = h x := fun st x x0 x1 x2 x3 => by rw [bc_urow x0]; exact f1 x x1 x2 x3
    have ref : ∀ st yy, (lo < hi → st = 0 ∧ yy = if w = 0 then lo else hi - 1) → (¬ lo < hi → st = 6 ∧ yy = -1) → bf_M_fitsAt (d + 9) v t n w (bc_upd h1 0 0 st) (bc_I fun y2 h2 => P yy y2 h2) := fun st yy a1 a2 => by
      have e157 := sm st 157 (by decide) (by decide) (by decide) (by decide)
      refine rv_M_fitsAt (d := d + 8) ⟨fun u => absurd u (by omega), fun _ => ⟨fun _ => ?_, fun u => absurd u (by omega)⟩⟩
      refine mS _ _ e157 (sm st _ (by decide) (by decide) (by decide) (by decide)) (sm st _ (by decide) (by decide) (by decide) (by decide)) ⟨fun _ => ?_, fun u => absurd u (by omega)⟩
      refine bc_m_laysFits (d := d + 1) (lo := lo) (hi := hi) (by rw [e157]; exact hW) (by rw [e157]; exact hck) zv.1 (by rw [e157]; exact zv.2) (bs_sv_h e157 (sm st 5 (by decide) (by decide) (by decide) (by decide)) (sm st 161 (by decide) (by decide) (by decide) (by decide)) hs) hlh (by rw [e157, bs_sx_h (sm st 161 (by decide) (by decide) (by decide) (by decide))]; exact hf) (fun g hg => ?_)
      obtain ⟨g1, g2, g3, g4, g5, g6⟩ := hg
      have fin := bs_tfin hR f1 (v := st) (g := g) (fun x x1 x2 x3 => g1 x x1 x2 (by omega)) g2 (fun k k0 => by rw [g3 k k0, e157])
      rw [g5]
      refine ⟨fun z => ?_, fun z => ?_⟩
      · obtain ⟨b1, b2⟩ := a1 (by omega)
        subst b1
        by_cases w0 : w = 0
        · subst w0
          rw [if_pos rfl] at b2
          rw [if_pos rfl]
          refine bc_lupF (P := fun k => bl_M_fitsAt_37 (d + 9) 0 k g (bc_I fun y2 h2 => P yy y2 h2)) (a := 1) (n := lo) ?_ (fun k k0 k1 ih => ?_) (Int.le_refl 1) hlh.1
          · refine rv_M_fitsAt_37 (d := d + 8) ?_
            rw [g6 lo (by omega) (by omega), if_pos (by omega)]
            refine ⟨by omega, fun _ => ?_, fun u => absurd u (by decide)⟩
            rw [b2]; exact hK _ _ fin
          · refine rv_M_fitsAt_37 (d := d + 8) ?_
            rw [g6 k (by omega) (by omega), if_neg (by omega), if_pos rfl, bc_wi (x := k + 1) (by omega) (by omega)]
            exact ⟨by omega, fun u => absurd rfl u, fun _ => ih⟩
        · rw [if_neg w0] at b2
          rw [if_neg w0]
          have key : bl_M_fitsAt_37 (d + 9) w (60 - 0) g (bc_I fun y2 h2 => P yy y2 h2) := by
            refine bc_lup (P := fun k => bl_M_fitsAt_37 (d + 9) w (60 - k) g (bc_I fun y2 h2 => P yy y2 h2)) (n := 61 - hi) ?_ (fun k k0 k1 ih => ?_) (Int.le_refl 0) (by omega)
            · refine rv_M_fitsAt_37 (d := d + 8) ?_
              rw [g6 (60 - (61 - hi)) (by omega) (by omega), if_pos (by omega)]
              refine ⟨by omega, fun _ => ?_, fun u => absurd u (by decide)⟩
              rw [b2, show 60 - (61 - hi) = hi - 1 by omega]; exact hK _ _ fin
            · refine rv_M_fitsAt_37 (d := d + 8) ?_
              rw [g6 (60 - k) (by omega) (by omega), if_neg (by omega), if_neg w0, bc_wi (x := 60 - k + -1) (by omega) (by omega), show 60 - k + -1 = 60 - (k + 1) by omega]
              exact ⟨by omega, fun u => absurd rfl u, fun _ => ih⟩
          exact key
      · obtain ⟨b1, b2⟩ := a2 (by omega)
        subst b1
        rw [b2]; exact hK _ _ fin
    by_cases ne : lo < hi
    · by_cases w0 : w = 0
      · subst w0
        refine bc_lupF (P := fun k => bl_X_fitsAt_32 (d + 9) 0 (bs_iZ lo hi) k h1 (bc_I Q1)) (a := 1) (n := lo) ?_ (fun k k0 k1 ih => ?_) (Int.le_refl 1) hlh.1
        · refine rv_X_fitsAt_32 (d := d + 8) ⟨fun u => absurd u (by omega), fun _ => ?_⟩
          rw [if_pos rfl, bs_iZ_bit (by omega) hlh.2.1 (by omega) (by omega) (by omega), if_pos (by omega)]
          refine ⟨fun u => absurd u (by decide), fun _ => ?_⟩
          exact hQ _ _ (sm 0 _ (by decide) (by decide) (by decide) (by decide)) (sm 0 _ (by decide) (by decide) (by decide) (by decide)) (ref 0 _ (fun _ => ⟨rfl, (if_pos rfl).symm⟩) (fun u => absurd ne u))
        · refine rv_X_fitsAt_32 (d := d + 8) ⟨fun u => absurd u (by omega), fun _ => ?_⟩
          rw [if_pos rfl, bs_iZ_bit (by omega) hlh.2.1 (by omega) (by omega) (by omega), if_neg (by omega), bc_wi (x := k + 1) (by omega) (by omega)]
          exact ⟨fun _ => ih, fun u => absurd rfl u⟩
      · refine bc_lupF (P := fun k => bl_X_fitsAt_32 (d + 9) w (bs_iZ lo hi) k h1 (bc_I Q1)) (a := 1) (n := 62 - hi) ?_ (fun k k0 k1 ih => ?_) (Int.le_refl 1) (by omega)
        · refine rv_X_fitsAt_32 (d := d + 8) ⟨fun u => absurd u (by omega), fun _ => ?_⟩
          rw [if_neg w0, bc_wi (x := 61 - (62 - hi)) (by omega) (by omega), bs_iZ_bit (by omega) hlh.2.1 (by omega) (by omega) (by omega), if_pos (by omega)]
          refine ⟨fun u => absurd u (by decide), fun _ => ?_⟩
          exact hQ _ _ (sm 0 _ (by decide) (by decide) (by decide) (by decide)) (sm 0 _ (by decide) (by decide) (by decide) (by decide)) (ref 0 _ (fun _ => ⟨rfl, by rw [if_neg w0]; omega⟩) (fun u => absurd ne u))
        · refine rv_X_fitsAt_32 (d := d + 8) ⟨fun u => absurd u (by omega), fun _ => ?_⟩
          rw [if_neg w0, bc_wi (x := 61 - k) (by omega) (by omega), bs_iZ_bit (by omega) hlh.2.1 (by omega) (by omega) (by omega), if_neg (by omega), bc_wi (x := k + 1) (by omega) (by omega)]
          exact ⟨fun _ => ih, fun u => absurd rfl u⟩
    · refine bc_lupF (P := fun k => bl_X_fitsAt_32 (d + 9) w (bs_iZ lo hi) k h1 (bc_I Q1)) (a := 1) (n := 61) ?_ (fun k k0 k1 ih => ?_) (Int.le_refl 1) (by omega)
      · refine rv_X_fitsAt_32 (d := d + 8) ⟨fun _ => ?_, fun u => absurd u (by omega)⟩
        exact hQ _ _ (sm 6 _ (by decide) (by decide) (by decide) (by decide)) (sm 6 _ (by decide) (by decide) (by decide) (by decide)) (ref 6 _ (fun u => absurd u ne) (fun _ => ⟨rfl, rfl⟩))
      · refine rv_X_fitsAt_32 (d := d + 8) ⟨fun u => absurd u (by omega), fun _ => ?_⟩
        have bit : bc_landL (bc_lshr (bs_iZ lo hi) (if w = 0 then k else bc_w32 (61 - k))) 1 = 0 := by
          by_cases w0 : w = 0
          · rw [if_pos w0, bs_iZ_bit (by omega) hlh.2.1 (by omega) (by omega) (by omega), if_neg (by omega)]
          · rw [if_neg w0, bc_wi (x := 61 - k) (by omega) (by omega), bs_iZ_bit (by omega) hlh.2.1 (by omega) (by omega) (by omega), if_neg (by omega)]
        rw [bit, bc_wi (x := k + 1) (by omega) (by omega)]
        exact ⟨fun _ => ih, fun u => absurd rfl u⟩
  · refine hQ _ _ (by first | rfl | exact bc_urow (by decide)) (by first | rfl | exact bc_urow (by decide)) ?_
    refine rv_M_fitsAt (d := d + 8) ⟨fun u => absurd u (by omega), fun _ => ⟨fun _ => ?_, fun u => absurd u (by omega)⟩⟩
    refine mS _ _ (bc_urow (by decide)) (bc_urow (by decide)) (bc_urow (by decide)) ⟨fun u => absurd u (by omega), fun _ => hq _ _⟩
  · refine hQ _ _ (by first | rfl | exact bc_urow (by decide)) (by first | rfl | exact bc_urow (by decide)) ?_
    exact rv_M_fitsAt (d := d + 8) ⟨fun _ => hq _ _, fun _ => ⟨fun _ => absurd (by omega) zw, fun _ => hq _ _⟩⟩
def bs_cl (lo hi m k : Int) : Int := (if k < m then bs_md lo hi k else bs_md lo hi m) - lo
theorem bs_cl_r {lo hi m k : Int} (h : lo ≤ hi) : 0 ≤ bs_cl lo hi m k ∧ bs_cl lo hi m k ≤ hi - lo ∧ bs_cl lo hi m k ≤ bs_md lo hi k - lo ∧ lo ≤ bs_md lo hi k ∧ bs_md lo hi k ≤ hi := by
  unfold bs_cl bs_md; (repeat' split) <;> omega
theorem bs_cl_y {lo hi m k : Int} (h : lo ≤ hi) (f : lo ≤ k ∧ k < hi) (lt : k < m) : bs_cl lo hi m (k + 1) = bs_cl lo hi m k + 1 := by
  unfold bs_cl bs_md; (repeat' split) <;> omega
theorem bs_cl_n {lo hi m k : Int} (h : lo ≤ hi) (f : ¬ (lo ≤ k ∧ k < hi) ∨ m ≤ k) : bs_cl lo hi m (k + 1) = bs_cl lo hi m k := by
  unfold bs_cl bs_md; rcases f with f | f <;> (repeat' split) <;> omega
theorem bs_md_y {lo hi k : Int} (f : lo ≤ k ∧ k < hi) : bs_md lo hi (k + 1) = bs_md lo hi k + 1 := by
  unfold bs_md; (repeat' split) <;> omega
theorem bs_md_n {lo hi k : Int} (h : lo ≤ hi) (f : ¬ (lo ≤ k ∧ k < hi)) : bs_md lo hi (k + 1) = bs_md lo hi k := by
  unfold bs_md; (repeat' split) <;> omega
def bs_mx (a b : Int) : Int := if a < b then b else a
/-- how many are seen as the same, at most -/
def bs_al (A : Int → Int) (v lo hi t : Int) : Int := bs_mx (bs_cl lo hi (bs_most (bs_passN A t) v) 61) (hi - lo - bs_cl lo hi (bs_most (bs_passN A t) v) 61)
theorem bs_al_r {A : Int → Int} {v lo hi t : Int} (h : lo ≤ hi) : 0 ≤ bs_al A v lo hi t ∧ bs_al A v lo hi t ≤ hi - lo := by
  have := bs_cl_r (m := bs_most (bs_passN A t) v) (k := 61) h
  unfold bs_al bs_mx; split <;> omega
def bs_bp (f : Int → Int) (n : Int) : Int := bc_it (fun t b => if f b ≤ f t then b else t) 0 n
theorem bs_bp_s (f : Int → Int) {n : Int} (h : 0 ≤ n) : bs_bp f (n + 1) = if f (bs_bp f n) ≤ f n then bs_bp f n else n := bc_its _ _ h
theorem bs_bp_1 (f : Int → Int) : bs_bp f 1 = 0 := by
  have e := bs_bp_s f (Int.le_refl 0)
  rw [Int.zero_add] at e
  rw [e]
  show (if f 0 ≤ f 0 then (0 : Int) else 0) = 0
  split <;> rfl
theorem bs_bp_r (f : Int → Int) {n : Int} (h : 1 ≤ n) : 0 ≤ bs_bp f n ∧ bs_bp f n < n := by
  have key : ∀ m : Nat, 0 ≤ bs_bp f ((m : Int) + 1) ∧ bs_bp f ((m : Int) + 1) < (m : Int) + 1 := by
    intro m
    induction m with
    | zero => rw [show ((0 : Nat) : Int) + 1 = 1 by omega, bs_bp_1]; omega
    | succ m ih =>
      rw [show ((m + 1 : Nat) : Int) + 1 = (m : Int) + 1 + 1 by omega, bs_bp_s f (by omega)]
      split <;> omega
  have := key (n - 1).toNat
  rw [show (((n - 1).toNat : Nat) : Int) + 1 = n by omega] at this
  exact this
theorem bc_c_bestParting {d : Nat} {v lo hi : Int} {h : bc_H} {A : Int → Int} {K : Int → bc_H → Prop} (hlh : 1 ≤ lo ∧ lo ≤ hi ∧ hi ≤ 61) (h16 : ∀ u, 0 ≤ u → u ≤ 200 → h 16 u = bs_most (bs_passN A u) v) (hK : K (bs_bp (bs_al A v lo hi) 61) h) : bf_Ahead_bestParting (d + 1) (bs_iZ lo hi) h (bc_I K) := by
  refine rv_Ahead_bestParting (d := d) (bc_jlongBits ?_)
  rw [bs_iZ_n (by omega) hlh.2.1 (by omega)]
  refine bc_lup (P := fun t => ∀ x4, (t = 0 → x4 = 61) → (1 ≤ t → x4 = bs_al A v lo hi (bs_bp (bs_al A v lo hi) t)) → bl_Ahead_bestParting_9 (d + 1) (bs_iZ lo hi) (bs_bp (bs_al A v lo hi) t) x4 (hi - lo) t h (bc_I K)) (n := 61) (fun x4 _ _ => ?_) (fun t t0 t1 ih x4 a1 a2 => ?_) (Int.le_refl 0) (by omega) 61 (fun _ => rfl) (fun q => absurd q (by decide))
  · exact rv_Ahead_bestParting_9 (d := d) ⟨fun _ => hK, fun q => absurd q (by omega)⟩
  · refine rv_Ahead_bestParting_9 (d := d) ⟨fun q => absurd q (by omega), fun _ => ?_⟩
    refine bc_lupF (P := fun k => bl_Ahead_bestParting_16 (d + 1) (bs_iZ lo hi) (bs_bp (bs_al A v lo hi) t) x4 (hi - lo) t (bs_cl lo hi (bs_most (bs_passN A t) v) k) k h (bc_I K)) (a := 1) (n := 61) ?_ (fun k k0 k1 ihk => ?_) (Int.le_refl 1) (by omega) |> fun q => by
      have e : bs_cl lo hi (bs_most (bs_passN A t) v) 1 = 0 := by
        unfold bs_cl bs_md; (repeat' split) <;> omega
      rw [e] at q; exact q
    · have r := bs_cl_r (m := bs_most (bs_passN A t) v) (k := 61) hlh.2.1
      have ar := bs_al_r (A := A) (v := v) (t := t) hlh.2.1
      refine rv_Ahead_bestParting_16 (d := d) ⟨fun _ => ?_, fun q => absurd q (by omega)⟩
      rw [bc_wi (x := hi - lo - bs_cl lo hi (bs_most (bs_passN A t) v) 61) (by omega) (by omega), bc_wi (x := t + 1) (by omega) (by omega)]
      have e : (if bs_cl lo hi (bs_most (bs_passN A t) v) 61 < hi - lo - bs_cl lo hi (bs_most (bs_passN A t) v) 61 then hi - lo - bs_cl lo hi (bs_most (bs_passN A t) v) 61 else bs_cl lo hi (bs_most (bs_passN A t) v) 61) = bs_al A v lo hi t := rfl
      rw [e]
      have sp := bs_bp_s (bs_al A v lo hi) t0
      rw [sp] at ih
      by_cases z : t = 0
      · subst z
        rw [a1 rfl]
        refine ⟨fun q => absurd q (by omega), fun _ => ?_⟩
        have e0 : bs_bp (bs_al A v lo hi) 0 = 0 := rfl
        rw [e0, if_pos (Int.le_refl _)] at ih
        exact ih _ (fun q => absurd q (by omega)) (fun _ => rfl)
      · rw [a2 (by omega)]
        refine ⟨fun le => ?_, fun lt => ?_⟩
        · rw [if_pos le] at ih
          exact ih _ (fun q => absurd q (by omega)) (fun _ => rfl)
        · rw [if_neg (by omega)] at ih
          exact ih _ (fun q => absurd q (by omega)) (fun _ => rfl)
    · have r := bs_cl_r (m := bs_most (bs_passN A t) v) (k := k) hlh.2.1
      refine rv_Ahead_bestParting_16 (d := d) ⟨fun q => absurd q (by omega), fun _ => ?_⟩
      rw [bs_iZ_bit (by omega) hlh.2.1 (by omega) (by omega) (by omega), h16 t t0 (by omega), bc_wi (x := k + 1) (by omega) (by omega), bc_wi (x := bs_cl lo hi (bs_most (bs_passN A t) v) k + 0) (by omega) (by omega), bc_wi (x := bs_cl lo hi (bs_most (bs_passN A t) v) k + 1) (by omega) (by omega)]
      by_cases f : lo ≤ k ∧ k < hi
      · rw [if_pos f]
        refine ⟨fun q => absurd q (by decide), fun _ => ⟨by omega, fun lt => ?_, fun ge => ?_⟩⟩
        · rw [bs_cl_y hlh.2.1 f lt] at ihk; exact ihk
        · rw [bs_cl_n hlh.2.1 (Or.inr (by omega))] at ihk
          rw [Int.add_zero]; exact ihk
      · rw [if_neg f]
        rw [bs_cl_n hlh.2.1 (Or.inl f)] at ihk
        refine ⟨fun _ => by rw [Int.add_zero]; exact ihk, fun q => absurd rfl q⟩
theorem bc_m_mostAlike {d : Nat} {v lo hi t : Int} {h : bc_H} {A : Int → Int} {K : Int → bc_H → Prop} (hW : bs_W A) (v0 : 0 ≤ v) (v1 : v < A 2) (hlh : 1 ≤ lo ∧ lo ≤ hi ∧ hi ≤ 61) (t0 : 0 ≤ t) (t1 : t ≤ 200) (e0 : h 157 0 = A 0) (hm : h 174 t = bs_most (bs_passN A t) v ∧ h 175 t = bs_ix (fun b => bs_passN A t (54 + 8 * v + (3 + b))) (A 0)) (h6 : ∀ s, 1 ≤ s → s ≤ 60 → h 176 s = if lo ≤ s ∧ s < hi then 1 else 0) (hK : ∀ g : bc_H, (∀ x, x ≠ 177 → g x = h x) → K (bs_al A v lo hi t) g) : bf_M_mostAlike (d + 1) t h (bc_I K) := by
  have w := hW.1
  refine rv_M_mostAlike (d := d) ?_
  refine bc_lup (P := fun i => ∀ g : bc_H, (∀ x, x ≠ 177 → g x = h x) → (∀ j, 0 ≤ j → j < i → g 177 j = 0) → bl_M_mostAlike_4 (d + 1) t 0 i g (bc_I K)) (n := 6) (fun g g1 g2 => ?_) (fun i i0 i1 ih g g1 g2 => ?_) (Int.le_refl 0) (by omega) h (fun _ _ => rfl) (fun j j0 j1 => absurd j1 (by omega))
  · refine rv_M_mostAlike_4 (d := d) ⟨fun _ => ?_, fun q => absurd q (by decide)⟩
    have key : ∀ g : bc_H, (∀ x, x ≠ 177 → g x = h x) → g 177 (A 0) = bs_md lo hi 1 - lo - bs_cl lo hi (bs_most (bs_passN A t) v) 1 → (0 < bs_most (bs_passN A t) v → g 177 (bs_fm (bs_mf A v t)) = bs_cl lo hi (bs_most (bs_passN A t) v) 1) → bl_M_mostAlike_16 (d + 1) t (bs_mx (bs_cl lo hi (bs_most (bs_passN A t) v) 1) (bs_md lo hi 1 - lo - bs_cl lo hi (bs_most (bs_passN A t) v) 1)) 1 g (bc_I K) := by
      refine bc_lupF (P := fun k => ∀ g : bc_H, (∀ x, x ≠ 177 → g x = h x) → g 177 (A 0) = bs_md lo hi k - lo - bs_cl lo hi (bs_most (bs_passN A t) v) k → (0 < bs_most (bs_passN A t) v → g 177 (bs_fm (bs_mf A v t)) = bs_cl lo hi (bs_most (bs_passN A t) v) k) → bl_M_mostAlike_16 (d + 1) t (bs_mx (bs_cl lo hi (bs_most (bs_passN A t) v) k) (bs_md lo hi k - lo - bs_cl lo hi (bs_most (bs_passN A t) v) k)) k g (bc_I K)) (a := 1) (n := 61) (fun g g1 g2 g3 => ?_) (fun k k0 k1 ihk g g1 g2 g3 => ?_) (Int.le_refl 1) (by omega)
      · refine rv_M_mostAlike_16 (d := d) ⟨fun _ => ?_, fun q => absurd q (by omega)⟩
        have e : bs_md lo hi 61 = hi := by unfold bs_md; (repeat' split) <;> omega
        rw [e]
        exact hK g g1
      · have r := bs_cl_r (m := bs_most (bs_passN A t) v) (k := k) hlh.2.1
        refine rv_M_mostAlike_16 (d := d) ⟨fun q => absurd q (by omega), fun _ => ⟨by omega, ?_⟩⟩
        rw [g1 176 (by decide), h6 k k0 (by omega), bc_wi (x := k + 1) (by omega) (by omega)]
        by_cases f : lo ≤ k ∧ k < hi
        · rw [if_pos f]
          refine ⟨fun _ => ?_, fun q => absurd q (by decide)⟩
          refine bc_m_wouldBe hW v0 v1 k0 t0 t1 (by rw [g1 157 (by decide)]; exact e0) (by rw [g1 174 (by decide), g1 175 (by decide)]; exact hm) ?_
          rw [bs_md_y f] at ihk
          unfold bs_wb
          by_cases le : bs_most (bs_passN A t) v ≤ k
          · rw [if_pos le]
            rw [bs_cl_n hlh.2.1 (Or.inr le)] at ihk
            refine ⟨by omega, by omega, by omega, ?_⟩
            rw [bc_uu, g2, bc_wi (x := bs_md lo hi k - lo - bs_cl lo hi (bs_most (bs_passN A t) v) k + 1) (by omega) (by omega)]
            have em : (if bs_mx (bs_cl lo hi (bs_most (bs_passN A t) v) k) (bs_md lo hi k - lo - bs_cl lo hi (bs_most (bs_passN A t) v) k) < bs_md lo hi k - lo - bs_cl lo hi (bs_most (bs_passN A t) v) k + 1 then bs_md lo hi k - lo - bs_cl lo hi (bs_most (bs_passN A t) v) k + 1 else bs_mx (bs_cl lo hi (bs_most (bs_passN A t) v) k) (bs_md lo hi k - lo - bs_cl lo hi (bs_most (bs_passN A t) v) k)) = bs_mx (bs_cl lo hi (bs_most (bs_passN A t) v) k) (bs_md lo hi k + 1 - lo - bs_cl lo hi (bs_most (bs_passN A t) v) k) := by
              unfold bs_mx; (repeat' split) <;> omega
            rw [em]
            refine ihk _ (fun x x1 => by rw [bc_urow x1]; exact g1 x x1) (by rw [bc_uu]; omega) (fun q => ?_)
            have fm := bs_mf_fm hW v0 v1 t0 q
            rw [bc_uj (by omega)]; exact g3 q
          · rw [if_neg le]
            rw [bs_cl_y hlh.2.1 f (by omega)] at ihk
            have mp : 0 < bs_most (bs_passN A t) v := by omega
            have fm := bs_mf_fm hW v0 v1 t0 mp
            refine ⟨by omega, by omega, by omega, ?_⟩
            rw [bc_uu, g3 mp, bc_wi (x := bs_cl lo hi (bs_most (bs_passN A t) v) k + 1) (by omega) (by omega)]
            have em : (if bs_mx (bs_cl lo hi (bs_most (bs_passN A t) v) k) (bs_md lo hi k - lo - bs_cl lo hi (bs_most (bs_passN A t) v) k) < bs_cl lo hi (bs_most (bs_passN A t) v) k + 1 then bs_cl lo hi (bs_most (bs_passN A t) v) k + 1 else bs_mx (bs_cl lo hi (bs_most (bs_passN A t) v) k) (bs_md lo hi k - lo - bs_cl lo hi (bs_most (bs_passN A t) v) k)) = bs_mx (bs_cl lo hi (bs_most (bs_passN A t) v) k + 1) (bs_md lo hi k + 1 - lo - (bs_cl lo hi (bs_most (bs_passN A t) v) k + 1)) := by
              unfold bs_mx; (repeat' split) <;> omega
            rw [em]
            exact ihk _ (fun x x1 => by rw [bc_urow x1]; exact g1 x x1) (by rw [bc_uj (by omega), g2]; omega) (fun _ => by rw [bc_uu])
        · rw [if_neg f]
          rw [bs_md_n hlh.2.1 f, bs_cl_n hlh.2.1 (Or.inl f)] at ihk
          exact ⟨fun q => absurd rfl q, fun _ => ihk g g1 g2 g3⟩
    have c1 : bs_cl lo hi (bs_most (bs_passN A t) v) 1 = 0 := by unfold bs_cl bs_md; (repeat' split) <;> omega
    have m1 : bs_md lo hi 1 = lo := by unfold bs_md; (repeat' split) <;> omega
    rw [c1, m1] at key
    have kk := key g g1 (by rw [g2 _ w.1.1 (by omega)]; omega) (fun q => by
      have fm := bs_mf_fm hW v0 v1 t0 q
      exact g2 _ fm.2.1 (by omega))
    rw [show bs_mx 0 (lo - lo - 0) = 0 by unfold bs_mx; split <;> omega] at kk
    exact kk
  · refine rv_M_mostAlike_4 (d := d) ⟨fun q => absurd q (by omega), fun _ => ⟨by omega, ?_⟩⟩
    rw [bc_wi (x := i + 1) (by omega) (by omega)]
    refine ih _ (fun x x1 => by rw [bc_urow x1]; exact g1 x x1) (fun j j0 j1 => ?_)
    by_cases e : j = i
    · subst e; exact bc_uu _ _ _ _
    · rw [bc_uj e]; exact g2 j j0 (by omega)
theorem bs_o_ask {d : Nat} {v t n : Int} {S : Int → Int} {L c s p q : Int} {h : bc_H} (hR : bs_R S L c s p q h) {P : Int → Int → bc_H → Prop} {Q1 : Int → bc_H → Prop} (hQ : ∀ y h1, h1 (-2) = h (-2) → h1 (-3) = h (-3) → bf_M_ask (d + 9) v t n h1 (bc_I fun y2 h2 => P y y2 h2) → Q1 y h1) (hK : ∀ y h2, bs_R S L c s p q h2 → P y y h2) : bf_X_ask (d + 9) v t n h (bc_I Q1) := by
  obtain ⟨⟨hcs, hpq⟩, ⟨e12, e13, e14, e15⟩, hS, est, efr, htr, htp, hfa, hlv, hlo, hrs, hmk, ⟨hC, hW, hck, hN, hP⟩⟩ := id hR
  obtain ⟨⟨n4, n5, n6, n2, n0, n1, n3⟩, hw, hd, hg, hf, hm⟩ := id hC
  obtain ⟨⟨w0, w1, w2, w3, w4, w5, w7⟩, hww, hwy, hwv, hwf, hwg⟩ := id hW
  have hq : ∀ y v, P y y (bc_upd (bc_upd h 0 0 v) 156 2 v) := fun y v => hK _ _ (bs_R_st hR v)
  obtain ⟨y, y0, cS, mS, hy⟩ := bs_seen (d := d + 6) (v := v) (t := t) (n := n) hR
  refine rv_X_ask (d := d + 8) (cS _ ⟨fun yz => ?_, fun yz => ?_⟩)
  · obtain ⟨zv, zt, zn, _, hsg⟩ := hy yz
    have hs : bs_sv h t n := ⟨zt, zn, hsg⟩
    obtain ⟨lo, hi, hlh, hf⟩ := bs_seenI hR zv hs
    have hWB := bs_W_B hW
    have b2 : bs_B (h 157) 2 = h 157 2 := bs_B_n (by omega)
    have b0 : bs_B (h 157) 0 = h 157 0 := bs_B_n (by omega)
    rw [e12]
    refine ⟨by omega, ?_⟩
    refine bc_c_fitting (d := d + 6) (by omega) (bs_C_B hW hC) hWB zv.1 (by rw [b2]; exact zv.2) b0 hs hlh hf (fun h1 f1 f2 => bc_jlongBits ?_)
    rw [bs_iZ_n (by omega) hlh.2.1 (by omega)]
    have sm : ∀ st x, x ≠ 0 → x ≠ 15 → x ≠ 16 → x ≠ 17 → bc_upd h1 0 0 st x = h x := fun st x x0 x1 x2 x3 => by rw [bc_urow x0]; exact f1 x x1 x2 x3
    have ref : ∀ st yy, (2 ≤ hi - lo → st = 0 ∧ yy = bs_bp (bs_al (bs_B (h 157)) v lo hi) 61) → (¬ 2 ≤ hi - lo → st = 6 ∧ yy = -1) → bf_M_ask (d + 9) v t n (bc_upd h1 0 0 st) (bc_I fun y2 h2 => P yy y2 h2) := fun st yy a1 a2 => by
      have e157 := sm st 157 (by decide) (by decide) (by decide) (by decide)
      refine rv_M_ask (d := d + 8) (mS _ _ e157 (sm st _ (by decide) (by decide) (by decide) (by decide)) (sm st _ (by decide) (by decide) (by decide) (by decide)) ⟨fun _ => ?_, fun u => absurd u (by omega)⟩)
      refine bc_m_laysFits (d := d + 1) (lo := lo) (hi := hi) (by rw [e157]; exact hW) (by rw [e157]; exact hck) zv.1 (by rw [e157]; exact zv.2) (bs_sv_h e157 (sm st 5 (by decide) (by decide) (by decide) (by decide)) (sm st 161 (by decide) (by decide) (by decide) (by decide)) hs) hlh (by rw [e157, bs_sx_h (sm st 161 (by decide) (by decide) (by decide) (by decide))]; exact hf) (fun g hg => ?_)
      rw [e157] at hg
      obtain ⟨g1, g2, g3, g4, g5, g6⟩ := hg
      rw [g5]
      refine ⟨fun z => ?_, fun z => ?_⟩
      · obtain ⟨b1, b3⟩ := a1 z
        subst b1
        have key : bl_M_ask_29 (d + 9) (bs_bp (bs_al (bs_B (h 157)) v lo hi) 1) 1 g (bc_I fun y2 h2 => P yy y2 h2) := by
          refine bc_lupF (P := fun k => ∀ m : bc_H, (∀ x, x ≠ 177 → m x = g x) → bl_M_ask_29 (d + 9) (bs_bp (bs_al (bs_B (h 157)) v lo hi) k) k m (bc_I fun y2 h2 => P yy y2 h2)) (a := 1) (n := 61) (fun m m1 => ?_) (fun k k0 k1 ih m m1 => ?_) (Int.le_refl 1) (by omega) g (fun _ _ => rfl)
          · refine rv_M_ask_29 (d := d + 8) ⟨fun _ => ?_, fun q => absurd q (by omega)⟩
            rw [b3]
            exact hK _ _ (bs_tfin hR f1 (fun x x1 x2 x3 => by rw [m1 x (by omega)]; exact g1 x x1 x2 (by omega)) (fun y hy => by rw [m1 156 (by decide)]; exact g2 y hy) (fun k k0 => by rw [m1 157 (by decide), g3 k k0, e157]))
          · have br := bs_bp_r (bs_al (bs_B (h 157)) v lo hi) k0
            refine rv_M_ask_29 (d := d + 8) ⟨fun q => absurd q (by omega), fun _ => ?_⟩
            refine bc_m_mostAlike (d := d + 7) (A := bs_B (h 157)) hWB zv.1 (by rw [b2]; exact zv.2) hlh (by omega) (by omega) (by rw [m1 157 (by decide), g3 0 (by omega), e157, b0]) (by rw [m1 174 (by decide), m1 175 (by decide)]; exact g4 k (by omega) (by omega)) (by rw [m1 176 (by decide)]; exact g6) (fun m2 m21 => ?_)
            refine bc_m_mostAlike (d := d + 7) (A := bs_B (h 157)) hWB zv.1 (by rw [b2]; exact zv.2) hlh br.1 (by omega) (by rw [m21 157 (by decide), m1 157 (by decide), g3 0 (by omega), e157, b0]) (by rw [m21 174 (by decide), m21 175 (by decide), m1 174 (by decide), m1 175 (by decide)]; exact g4 _ br.1 (by omega)) (by rw [m21 176 (by decide), m1 176 (by decide)]; exact g6) (fun m3 m31 => ?_)
            rw [bc_wi (x := k + 1) (by omega) (by omega)]
            rw [bs_bp_s _ (by omega)] at ih
            exact ih m3 (fun x x1 => by rw [m31 x x1, m21 x x1, m1 x x1])
        rw [bs_bp_1] at key
        exact key
      · obtain ⟨b1, b3⟩ := a2 (by omega)
        subst b1
        rw [b3]
        exact hK _ _ (bs_tfin hR f1 (fun x x1 x2 x3 => g1 x x1 x2 (by omega)) g2 (fun k k0 => by rw [g3 k k0, e157]))
    refine ⟨fun z => ?_, fun z => ?_⟩
    · refine bc_c_bestParting (d := d + 7) hlh (fun u u0 u1 => (f2 u u0 u1).1) ?_
      exact hQ _ _ (sm 0 _ (by decide) (by decide) (by decide) (by decide)) (sm 0 _ (by decide) (by decide) (by decide) (by decide)) (ref 0 _ (fun _ => ⟨rfl, rfl⟩) (fun u => absurd z u))
    · exact hQ _ _ (sm 6 _ (by decide) (by decide) (by decide) (by decide)) (sm 6 _ (by decide) (by decide) (by decide) (by decide)) (ref 6 _ (fun u => absurd u (by omega)) (fun _ => ⟨rfl, rfl⟩))
  · refine hQ _ _ (by first | rfl | exact bc_urow (by decide)) (by first | rfl | exact bc_urow (by decide)) ?_
    refine rv_M_ask (d := d + 8) (mS _ _ (bc_urow (by decide)) (bc_urow (by decide)) (bc_urow (by decide)) ⟨fun w => absurd w (by omega), fun _ => hq _ _⟩)
