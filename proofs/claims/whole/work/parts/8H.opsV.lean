/-! ===== what he was seen as ===== -/
theorem bc_jlongBits {d : Nat} {a : Int} {h : bc_H} {K : Int → bc_H → Prop} (hK : K (bs_pl a) h) : bf_JLong_bitCount d a h (bc_I K) := rv_JLong_bitCount hK
def bs_wb (A : Int → Int) (v self t : Int) : Int := if bs_most (bs_passN A t) v ≤ self then A 0 else bs_fm (bs_mf A v t)
def bs_fit (A x : Int → Int) (v self n : Int) : Prop := ∀ i, 0 ≤ i → i < n → bs_wb A v self (x (2 * i)) = x (2 * i + 1)
theorem bs_mf_fm {A : Int → Int} {v t : Int} (hW : bs_W A) (v0 : 0 ≤ v) (v1 : v < A 2) (t0 : 0 ≤ t) (h : 0 < bs_most (bs_passN A t) v) : bs_ix (fun b => bs_passN A t (54 + 8 * v + (3 + b))) (A 0) = bs_fm (bs_mf A v t) ∧ 0 ≤ bs_fm (bs_mf A v t) ∧ bs_fm (bs_mf A v t) < A 0 := by
  have hp := bs_passN_p hW t0
  have w := hW.1
  have p0 : bs_passN A t 0 = A 0 := hp.2.2.1 0 (by decide) (by decide) (by decide)
  have p2 : bs_passN A t 2 = A 2 := hp.2.2.1 2 (by decide) (by decide) (by decide)
  have q := bs_ix_fm (f := fun b => bs_passN A t (54 + 8 * v + (3 + b))) (n := A 0) w.1.1 w.1.2 (fun b b0 b5 => ((hp.1.2.2.2.1 v v0 (by omega)).2.2.2 b (by omega) b5).2 (by omega)) h
  exact ⟨q.1, q.2.1, q.2.2.1⟩
theorem bs_iv0 {A x : Int → Int} {v : Int} (hW : bs_W A) (v0 : 0 ≤ v) (v1 : v < A 2) {n : Int} (n0 : 0 ≤ n) (hx : ∀ i, 0 ≤ i → i < n → 0 ≤ x (2 * i)) : ∃ lo hi : Int, 1 ≤ lo ∧ hi ≤ 61 ∧ ∀ self, 1 ≤ self → self ≤ 60 → (bs_fit A x v self n ↔ lo ≤ self ∧ self < hi) := by
  have key : ∀ m : Nat, (m : Int) ≤ n → ∃ lo hi : Int, 1 ≤ lo ∧ hi ≤ 61 ∧ ∀ self, 1 ≤ self → self ≤ 60 → (bs_fit A x v self (m : Int) ↔ lo ≤ self ∧ self < hi) := by
    intro m
    induction m with
    | zero => exact fun _ => ⟨1, 61, by omega, by omega, fun self s0 s1 => ⟨fun _ => by omega, fun _ i i0 i1 => absurd i1 (by omega)⟩⟩
    | succ m ih =>
      intro hm
      obtain ⟨lo, hi, l1, h1, hf⟩ := ih (by omega)
      have x0 := hx (m : Int) (by omega) (by omega)
      have st : ∀ self, bs_fit A x v self ((m + 1 : Nat) : Int) ↔ bs_fit A x v self (m : Int) ∧ bs_wb A v self (x (2 * (m : Int))) = x (2 * (m : Int) + 1) := fun self => by
        constructor
        · exact fun q => ⟨fun i i0 i1 => q i i0 (by omega), q (m : Int) (by omega) (by omega)⟩
        · intro q i i0 i1
          by_cases e : i = (m : Int)
          · subst e; exact q.2
          · exact q.1 i i0 (by omega)
      by_cases z : x (2 * (m : Int) + 1) = A 0
      · refine ⟨if lo < bs_most (bs_passN A (x (2 * (m : Int)))) v then bs_most (bs_passN A (x (2 * (m : Int)))) v else lo, hi, by split <;> omega, h1, fun self s0 s1 => ?_⟩
        rw [st self, hf self s0 s1, z]
        unfold bs_wb
        by_cases c : bs_most (bs_passN A (x (2 * (m : Int)))) v ≤ self
        · rw [if_pos c]
          split <;> constructor <;> intro q <;> first | omega | exact ⟨by omega, rfl⟩
        · rw [if_neg c]
          have f := bs_mf_fm hW v0 v1 x0 (by omega)
          split <;> constructor <;> intro q <;> omega
      · by_cases z2 : bs_fm (bs_mf A v (x (2 * (m : Int)))) = x (2 * (m : Int) + 1)
        · refine ⟨lo, if bs_most (bs_passN A (x (2 * (m : Int)))) v < hi then bs_most (bs_passN A (x (2 * (m : Int)))) v else hi, l1, by split <;> omega, fun self s0 s1 => ?_⟩
          rw [st self, hf self s0 s1]
          unfold bs_wb
          by_cases c : bs_most (bs_passN A (x (2 * (m : Int)))) v ≤ self
          · rw [if_pos c]
            split <;> constructor <;> intro q <;> first | omega | exact absurd q.2.symm z
          · rw [if_neg c]
            split <;> constructor <;> intro q <;> first | omega | exact ⟨by omega, z2⟩
        · refine ⟨lo, 0, l1, by omega, fun self s0 s1 => ?_⟩
          rw [st self, hf self s0 s1]
          unfold bs_wb
          constructor
          · intro q
            by_cases c : bs_most (bs_passN A (x (2 * (m : Int)))) v ≤ self
            · rw [if_pos c] at q; exact absurd q.2.symm z
            · rw [if_neg c] at q; exact absurd q.2 z2
          · intro q; omega
  have := key n.toNat (by omega)
  rw [show ((n.toNat : Nat) : Int) = n by omega] at this
  exact this
theorem bs_iv {A x : Int → Int} {v : Int} (hW : bs_W A) (v0 : 0 ≤ v) (v1 : v < A 2) {n : Int} (n0 : 0 ≤ n) (hx : ∀ i, 0 ≤ i → i < n → 0 ≤ x (2 * i)) : ∃ lo hi : Int, (1 ≤ lo ∧ lo ≤ hi ∧ hi ≤ 61) ∧ ∀ self, 1 ≤ self → self ≤ 60 → (bs_fit A x v self n ↔ lo ≤ self ∧ self < hi) := by
  obtain ⟨lo, hi, l1, h1, hf⟩ := bs_iv0 hW v0 v1 n0 hx
  by_cases z : lo ≤ hi
  · exact ⟨lo, hi, ⟨l1, z, h1⟩, hf⟩
  · exact ⟨1, 1, by omega, fun self s0 s1 => by rw [hf self s0 s1]; omega⟩
def bs_iZ (lo hi : Int) : Int := (bs_iN lo.toNat hi.toNat : Nat)
def bs_md (lo hi k : Int) : Int := if k ≤ lo then lo else if hi ≤ k then hi else k
theorem bs_iZ_or {lo k : Int} (l0 : 0 ≤ lo) (lk : lo ≤ k) (k1 : k < 61) : bc_lorL (bs_iZ lo k) (bc_lshl 1 k) = bs_iZ lo (k + 1) := by
  have t := bs_iorF k.toNat (by omega) lo.toNat (by omega) (by omega)
  rw [show ((k.toNat : Nat) : Int) = k by omega, show k.toNat + 1 = (k + 1).toNat by omega] at t
  exact t
theorem bs_iZ_or0 {lo k : Int} (l0 : 0 ≤ lo) (lk : lo ≤ k) (k1 : k < 62) : bc_lorL (bs_iZ lo k) 0 = bs_iZ lo k := bs_ior0F k.toNat (by omega) lo.toNat (by omega) (by omega)
theorem bs_iZ_bit {lo hi k : Int} (l0 : 0 ≤ lo) (lk : lo ≤ hi) (h1 : hi < 62) (k0 : 0 ≤ k) (k1 : k < 61) : bc_landL (bc_lshr (bs_iZ lo hi) k) 1 = if lo ≤ k ∧ k < hi then 1 else 0 := by
  have t := bs_ibitF k.toNat (by omega) hi.toNat (by omega) lo.toNat (by omega) (by omega)
  rw [show ((k.toNat : Nat) : Int) = k by omega] at t
  have e : bc_landL (bc_lshr (bs_iZ lo hi) k) 1 = _ := t
  rw [e]
  by_cases z : lo ≤ k ∧ k < hi
  · rw [if_pos z, if_pos (by omega)]
  · rw [if_neg z, if_neg (by omega)]
theorem bs_iZ_n {lo hi : Int} (l0 : 0 ≤ lo) (lk : lo ≤ hi) (h1 : hi < 62) : bs_pl (bs_iZ lo hi) = hi - lo := by
  have t := bs_plF hi.toNat (by omega) lo.toNat (by omega) (by omega)
  rw [show ((hi.toNat : Nat) : Int) = hi by omega, show ((lo.toNat : Nat) : Int) = lo by omega] at t
  exact t
/-! the status -/
def bs_sg (A x : Int → Int) (i : Int) : Prop := (0 ≤ x (2 * i) ∧ x (2 * i) ≤ 200) ∧ 0 ≤ x (2 * i + 1) ∧ x (2 * i + 1) ≤ A 0
theorem bs_seen {d : Nat} {v t n : Int} {S : Int → Int} {L c s p q : Int} {h : bc_H} (hR : bs_R S L c s p q h) : ∃ y : Int, 0 ≤ y ∧ (∀ K : Int → bc_H → Prop, K y h → bf_X_statusOfSeen (d + 2) v t n h (bc_I K)) ∧ (∀ (m : bc_H) (K : Int → bc_H → Prop), m 157 = h 157 → m 160 = h 160 → m 161 = h 161 → K y m → bf_M_wrongSeen (d + 2) v t n m (bc_I K)) ∧ (y = 0 → (0 ≤ v ∧ v < h 157 2) ∧ (0 ≤ t ∧ t ≤ 3) ∧ (0 ≤ n ∧ n ≤ 20) ∧ 2 * n ≤ 60 ∧ ∀ i, 0 ≤ i → i < n → bs_sg (h 157) (fun j => h 161 (60 * t + j)) i ∧ h 5 (t * 60 + 2 * i) = h 161 (60 * t + 2 * i) ∧ h 5 (t * 60 + (2 * i + 1)) = h 161 (60 * t + (2 * i + 1))) := by
  obtain ⟨⟨hcs, hpq⟩, ⟨e12, e13, e14, e15⟩, hS, est, efr, htr, htp, hfa, hlv, hlo, hrs, hmk, ⟨hC, hW, hck, hN, hP⟩⟩ := id hR
  obtain ⟨⟨n4, n5, n6, n2, n0, n1, n3⟩, hw, hd, hg, hf, hm⟩ := id hC
  obtain ⟨⟨w0, w1, w2, w3, w4, w5, w7⟩, hww, hwy, hwv, hwf, hwg⟩ := id hW
  by_cases zv : 0 ≤ v ∧ v < h 157 2
  · by_cases zt : 0 ≤ t ∧ t ≤ 3
    · by_cases zn : 0 ≤ n ∧ n ≤ 20
      · rcases htr t zt.1 (by omega) with q | q
        · refine ⟨2, by omega, fun K hk => rv_X_statusOfSeen (d := d) ?_, fun m K e1 e2 e3 hk => rv_M_wrongSeen (d := d + 1) ?_, fun q => absurd q (by decide)⟩
          · rw [e12, n2, bc_wi (x := h 157 2 - 1) (by omega) (by omega)]
            exact ⟨by omega, fun _ => ⟨fun _ => ⟨fun _ => ⟨by omega, fun w => absurd q.1 w, fun _ => hk⟩, fun w => absurd zn w⟩, fun w => absurd zt w⟩, fun w => absurd (show 0 ≤ v ∧ v ≤ h 157 2 - 1 by omega) w⟩
          · rw [e1, e2]
            exact ⟨fun _ => ⟨fun _ => ⟨fun _ => ⟨by omega, fun w => absurd q.2.2 w, fun _ => hk⟩, fun w => absurd zn w⟩, fun w => absurd (show 0 ≤ t ∧ t < 4 by omega) w⟩, fun w => absurd zv w⟩
        · obtain ⟨q1, q2, q3, q4, q5⟩ := q
          by_cases zr : 2 * n ≤ h 4 t
          · have lp : ∃ y : Int, 0 ≤ y ∧ ((∀ i, 0 ≤ i → i < n → bs_sg (h 157) (fun j => h 161 (60 * t + j)) i) → y = 0) ∧ (¬ (∀ i, 0 ≤ i → i < n → bs_sg (h 157) (fun j => h 161 (60 * t + j)) i) → y = 5) := by
              by_cases z : ∀ i, 0 ≤ i → i < n → bs_sg (h 157) (fun j => h 161 (60 * t + j)) i
              · exact ⟨0, by omega, fun _ => rfl, fun q => absurd z q⟩
              · exact ⟨5, by omega, fun q => absurd q z, fun _ => rfl⟩
            obtain ⟨y, y0, ya, yb⟩ := lp
            have x5 : ∀ k, 0 ≤ k → k < 2 * n → h 5 (t * 60 + k) = h 161 (60 * t + k) := fun k k0 k1 => q5 k k0 (by omega)
            refine ⟨y, y0, fun K hk => rv_X_statusOfSeen (d := d) ?_, fun m K e1 e2 e3 hk => rv_M_wrongSeen (d := d + 1) ?_, fun yz => ⟨zv, zt, zn, by omega, fun i i0 i1 => ⟨?_, x5 _ (by omega) (by omega), x5 _ (by omega) (by omega)⟩⟩⟩
            · rw [e12, n2, bc_wi (x := h 157 2 - 1) (by omega) (by omega), bc_wi (x := h 4 t - 0) (by omega) (by omega), bc_wi (x := 2 * n) (by omega) (by omega)]
              refine ⟨by omega, fun _ => ⟨fun _ => ⟨fun _ => ⟨by omega, fun _ => ⟨by omega, fun w => absurd w (by omega), fun _ => ⟨by omega, fun w => absurd w (by omega), fun _ => ?_⟩⟩, fun w => absurd w (by omega)⟩, fun w => absurd zn w⟩, fun w => absurd zt w⟩, fun w => absurd (show 0 ≤ v ∧ v ≤ h 157 2 - 1 by omega) w⟩
              refine bc_lup (P := fun j => ((∀ i, j ≤ i → i < n → bs_sg (h 157) (fun j => h 161 (60 * t + j)) i) → y = 0) → (¬ (∀ i, j ≤ i → i < n → bs_sg (h 157) (fun j => h 161 (60 * t + j)) i) → y = 5) → bl_X_statusOfSeen_34 (d + 2) t n j h (bc_I K)) (n := n) (fun a b => ?_) (fun j j0 j1 ih a b => ?_) (Int.le_refl 0) zn.1 ya yb
              · have : y = 0 := a (fun i i0 i1 => absurd i1 (by omega))
                rw [this] at hk
                exact rv_X_statusOfSeen_34 (d := d) ⟨fun _ => hk, fun q => absurd q (by omega)⟩
              · refine rv_X_statusOfSeen_34 (d := d) ⟨fun q => absurd q (by omega), fun _ => ?_⟩
                rw [bc_wi (x := t * 60) (by omega) (by omega), bc_wi (x := 2 * j) (by omega) (by omega), bc_wi (x := 2 * j + 1) (by omega) (by omega), bc_wi (x := t * 60 + 2 * j) (by omega) (by omega), bc_wi (x := t * 60 + (2 * j + 1)) (by omega) (by omega), x5 (2 * j) (by omega) (by omega), x5 (2 * j + 1) (by omega) (by omega), e12, n0, bc_wi (x := j + 1) (by omega) (by omega)]
                have bad : ¬ bs_sg (h 157) (fun j => h 161 (60 * t + j)) j → K 5 h := fun w => by
                  have : y = 5 := b (fun al => w (al j (Int.le_refl j) j1))
                  rw [this] at hk; exact hk
                refine ⟨by omega, by omega, fun w => bad (fun g => absurd g.1.1 (by show ¬ 0 ≤ h 161 (60 * t + 2 * j); omega)), fun w1 => ⟨fun w => bad (fun g => absurd g.1.2 (by show ¬ h 161 (60 * t + 2 * j) ≤ 200; omega)), fun w2 => ⟨fun w => bad (fun g => absurd g.2.1 (by show ¬ 0 ≤ h 161 (60 * t + (2 * j + 1)); omega)), fun w3 => ⟨by omega, fun w4 => ?_, fun w => bad (fun g => absurd g.2.2 (by show ¬ h 161 (60 * t + (2 * j + 1)) ≤ h 157 0; omega))⟩⟩⟩⟩
                have good : bs_sg (h 157) (fun j => h 161 (60 * t + j)) j := ⟨⟨w1, w2⟩, w3, w4⟩
                refine ih (fun al => a (fun i i0 i1 => ?_)) (fun nal => b (fun al => nal (fun i i0 i1 => al i (by omega) i1)))
                by_cases e : i = j
                · subst e; exact good
                · exact al i (by omega) i1
            · rw [e1, e2, bc_wi (x := 2 * n) (by omega) (by omega)]
              refine ⟨fun _ => ⟨fun _ => ⟨fun _ => ⟨by omega, fun _ => ⟨by omega, fun _ => ?_, fun w => absurd w (by omega)⟩, fun w => absurd w (by omega)⟩, fun w => absurd zn w⟩, fun w => absurd (show 0 ≤ t ∧ t < 4 by omega) w⟩, fun w => absurd zv w⟩
              refine bc_lup (P := fun j => ((∀ i, j ≤ i → i < n → bs_sg (h 157) (fun j => h 161 (60 * t + j)) i) → y = 0) → (¬ (∀ i, j ≤ i → i < n → bs_sg (h 157) (fun j => h 161 (60 * t + j)) i) → y = 5) → bl_M_wrongSeen_35 (d + 2) t n j m (bc_I K)) (n := n) (fun a b => ?_) (fun j j0 j1 ih a b => ?_) (Int.le_refl 0) zn.1 ya yb
              · have : y = 0 := a (fun i i0 i1 => absurd i1 (by omega))
                rw [this] at hk
                exact rv_M_wrongSeen_35 (d := d + 1) ⟨fun _ => hk, fun q => absurd q (by omega)⟩
              · refine rv_M_wrongSeen_35 (d := d + 1) ⟨fun q => absurd q (by omega), fun _ => ?_⟩
                rw [bc_wi (x := 60 * t) (by omega) (by omega), bc_wi (x := 2 * j) (by omega) (by omega), bc_wi (x := 60 * t + 2 * j) (by omega) (by omega), bc_wi (x := 60 * t + 2 * j + 1) (by omega) (by omega), e1, e3, bc_wi (x := j + 1) (by omega) (by omega)]
                have bad : ¬ bs_sg (h 157) (fun j => h 161 (60 * t + j)) j → K 5 m := fun w => by
                  have : y = 5 := b (fun al => w (al j (Int.le_refl j) j1))
                  rw [this] at hk; exact hk
                have e9 : 60 * t + 2 * j + 1 = 60 * t + (2 * j + 1) := by omega
                rw [e9]
                refine ⟨by omega, fun w1 => ⟨by omega, fun w2 => ?_, fun w => bad (fun g => w g.2)⟩, fun w => bad (fun g => w g.1)⟩
                have good : bs_sg (h 157) (fun j => h 161 (60 * t + j)) j := ⟨w1, w2⟩
                refine ih (fun al => a (fun i i0 i1 => ?_)) (fun nal => b (fun al => nal (fun i i0 i1 => al i (by omega) i1)))
                by_cases e : i = j
                · subst e; exact good
                · exact al i (by omega) i1
            · refine Classical.byContradiction (fun w => ?_)
              have := yb (fun al => w (al i i0 i1))
              omega
          · refine ⟨3, by omega, fun K hk => rv_X_statusOfSeen (d := d) ?_, fun m K e1 e2 e3 hk => rv_M_wrongSeen (d := d + 1) ?_, fun q => absurd q (by decide)⟩
            · rw [e12, n2, bc_wi (x := h 157 2 - 1) (by omega) (by omega), bc_wi (x := h 4 t - 0) (by omega) (by omega), bc_wi (x := 2 * n) (by omega) (by omega)]
              exact ⟨by omega, fun _ => ⟨fun _ => ⟨fun _ => ⟨by omega, fun _ => ⟨by omega, fun w => absurd w (by omega), fun _ => ⟨by omega, fun _ => hk, fun w => absurd w (by omega)⟩⟩, fun w => absurd w (by omega)⟩, fun w => absurd zn w⟩, fun w => absurd zt w⟩, fun w => absurd (show 0 ≤ v ∧ v ≤ h 157 2 - 1 by omega) w⟩
            · rw [e1, e2, bc_wi (x := 2 * n) (by omega) (by omega)]
              exact ⟨fun _ => ⟨fun _ => ⟨fun _ => ⟨by omega, fun _ => ⟨by omega, fun w => absurd w (by omega), fun _ => hk⟩, fun w => absurd w (by omega)⟩, fun w => absurd zn w⟩, fun w => absurd (show 0 ≤ t ∧ t < 4 by omega) w⟩, fun w => absurd zv w⟩
      · refine ⟨1, by omega, fun K hk => rv_X_statusOfSeen (d := d) ?_, fun m K e1 e2 e3 hk => rv_M_wrongSeen (d := d + 1) ?_, fun q => absurd q (by decide)⟩
        · rw [e12, n2, bc_wi (x := h 157 2 - 1) (by omega) (by omega)]
          exact ⟨by omega, fun _ => ⟨fun _ => ⟨fun w => absurd w zn, fun _ => hk⟩, fun w => absurd zt w⟩, fun w => absurd (show 0 ≤ v ∧ v ≤ h 157 2 - 1 by omega) w⟩
        · rw [e1]
          exact ⟨fun _ => ⟨fun _ => ⟨fun w => absurd w zn, fun _ => hk⟩, fun w => absurd (show 0 ≤ t ∧ t < 4 by omega) w⟩, fun w => absurd zv w⟩
    · refine ⟨1, by omega, fun K hk => rv_X_statusOfSeen (d := d) ?_, fun m K e1 e2 e3 hk => rv_M_wrongSeen (d := d + 1) ?_, fun q => absurd q (by decide)⟩
      · rw [e12, n2, bc_wi (x := h 157 2 - 1) (by omega) (by omega)]
        exact ⟨by omega, fun _ => ⟨fun w => absurd w zt, fun _ => hk⟩, fun w => absurd (show 0 ≤ v ∧ v ≤ h 157 2 - 1 by omega) w⟩
      · rw [e1]
        exact ⟨fun _ => ⟨fun w => absurd (show 0 ≤ t ∧ t ≤ 3 by omega) zt, fun _ => hk⟩, fun w => absurd zv w⟩
  · refine ⟨1, by omega, fun K hk => rv_X_statusOfSeen (d := d) ?_, fun m K e1 e2 e3 hk => rv_M_wrongSeen (d := d + 1) ?_, fun q => absurd q (by decide)⟩
    · rw [e12, n2, bc_wi (x := h 157 2 - 1) (by omega) (by omega)]
      exact ⟨by omega, fun w => absurd (show 0 ≤ v ∧ v < h 157 2 by omega) zv, fun _ => hk⟩
    · rw [e1]
      exact ⟨fun w => absurd w zv, fun _ => hk⟩
