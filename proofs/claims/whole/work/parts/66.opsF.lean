/-! ===== minutes ahead ===== -/
def bs_kp (A : Int → Int) (t n : Int) : Int → Int := fun k => if t ≤ k ∧ k < t + n then A (k - t) else A k
def bs_rs (A : Int → Int) (f n : Int) : Int → Int := fun k => if 0 ≤ k ∧ k < n then A (f + k) else A k
theorem bs_kp_s {A : Int → Int} {t n : Int} (n0 : 0 ≤ n) (h : n < t) : bc_set (bs_kp A t n) (t + n) (A n) = bs_kp A t (n + 1) := by
  funext k; unfold bc_set bs_kp
  by_cases e : k = t + n
  · rw [if_pos e, if_pos (by omega), show k - t = n by omega]
  · rw [if_neg e]
    (repeat' split) <;> first | rfl | (exfalso; omega)
theorem bs_rs_s {A : Int → Int} {f n : Int} (n0 : 0 ≤ n) : bc_set (bs_rs A f n) n (A (f + n)) = bs_rs A f (n + 1) := by
  funext k; unfold bc_set bs_rs
  by_cases e : k = n
  · rw [if_pos e, if_pos (by omega), e]
  · rw [if_neg e]
    (repeat' split) <;> first | rfl | (exfalso; omega)
theorem bc_m_keeps {d : Nat} {t : Int} {h : bc_H} {A : Int → Int} {K : bc_H → Prop} (t0 : 160 ≤ t) (t1 : t ≤ 3808) (hK : K (bc_row h 157 (bs_kp A t 160))) : bf_M_keeps d t (bc_row h 157 A) (bc_U K) := by
  refine rv_M_keeps ?_
  have key : bl_M_keeps_2 d t 0 (bc_row h 157 (bs_kp A t 0)) (bc_U K) := by
    refine bc_lup (P := fun i => bl_M_keeps_2 d t i (bc_row h 157 (bs_kp A t i)) (bc_U K)) (n := 160) ?_ (fun i i0 hi ih => ?_) (Int.le_refl 0) (by omega)
    · exact rv_M_keeps_2 ⟨fun _ => hK, fun q => absurd q (by omega)⟩
    · refine rv_M_keeps_2 ⟨fun q => absurd q (by omega), fun _ => ?_⟩
      simp (disch := omega) only [bc_wi, Int.add_zero]
      rw [bs_rr, show bs_kp A t i i = A i from if_neg (by omega), bc_ru, bs_kp_s i0 (by omega)]
      exact ⟨by omega, by omega, ih⟩
  rw [show bs_kp A t 0 = A from funext fun k => if_neg (by omega)] at key
  exact key
theorem bc_m_restores {d : Nat} {f : Int} {h : bc_H} {A : Int → Int} {K : bc_H → Prop} (t0 : 160 ≤ f) (t1 : f ≤ 3808) (hK : K (bc_row h 157 (bs_rs A f 160))) : bf_M_restores d f (bc_row h 157 A) (bc_U K) := by
  refine rv_M_restores ?_
  have key : bl_M_restores_2 d f 0 (bc_row h 157 (bs_rs A f 0)) (bc_U K) := by
    refine bc_lup (P := fun i => bl_M_restores_2 d f i (bc_row h 157 (bs_rs A f i)) (bc_U K)) (n := 160) ?_ (fun i i0 hi ih => ?_) (Int.le_refl 0) (by omega)
    · exact rv_M_restores_2 ⟨fun _ => hK, fun q => absurd q (by omega)⟩
    · refine rv_M_restores_2 ⟨fun q => absurd q (by omega), fun _ => ?_⟩
      simp (disch := omega) only [bc_wi, Int.add_zero]
      rw [bs_rr, show bs_rs A f i (f + i) = A (f + i) from if_neg (by omega), bc_ru, bs_rs_s i0]
      exact ⟨by omega, by omega, ih⟩
  rw [show bs_rs A f 0 = A from funext fun k => if_neg (by omega)] at key
  exact key
/-- the row while one looks ahead -/
def bs_B (A : Int → Int) : Int → Int := bs_kp A 2640 160
theorem bs_B_n {A : Int → Int} {k : Int} (h : k < 2640 ∨ 2800 ≤ k) : bs_B A k = A k := if_neg (by omega)
theorem bs_B_w {A : Int → Int} {k : Int} (h0 : 0 ≤ k) (h : k < 160) : bs_B A (2640 + k) = A k := by
  unfold bs_B bs_kp; rw [if_pos (by omega), show 2640 + k - 2640 = k by omega]
theorem bs_W_B {A : Int → Int} (hW : bs_W A) : bs_W (bs_B A) := bs_W_A hW (fun k a b _ _ => bs_B_n (by omega))
theorem bs_C_B {h : bc_H} {c : Int} {A : Int → Int} (hW : bs_W A) (hC : bs_C h c A) : bs_C h c (bs_B A) := bs_C_A hW (fun k a b _ => bs_B_n (by omega)) hC
/-- all is as it was -/
theorem bs_back {A B : Int → Int} (hB : ∀ k, 160 ≤ k → B k = bs_B A k) (hn : ∀ k, k < 0 → B k = A k) : ∀ k, k < 2112 → bs_rs B 2640 160 k = A k := fun k hk => by
  unfold bs_rs
  by_cases q : 0 ≤ k ∧ k < 160
  · rw [if_pos q, hB _ (by omega), bs_B_w q.1 q.2]
  · rw [if_neg q]
    by_cases q0 : k < 0
    · exact hn k q0
    · rw [hB k (by omega), bs_B_n (by omega)]
theorem bs_R_row {S : Int → Int} {L c s p q : Int} {h : bc_H} (hR : bs_R S L c s p q h) {m : bc_H} {f : Int → Int} {v : Int} (hm : ∀ a b, bs_keep s q a b → m a b = h a b) (h0 : m 0 0 = v) (hf : ∀ k, k < 2112 → f k = h 157 k) : bs_R S L c s p q (bc_upd (bc_row m 157 f) 156 2 v) := by
  refine bs_R_F hR (fun a b k => ?_) ?_
  · have kf := bs_kf k
    rw [bc_un2 kf.2]
    by_cases e : a = 157
    · subst e
      rw [bs_rr]
      refine hf b ?_
      unfold bs_keep at k; omega
    · rw [bc_rn e]; exact hm a b k
  · rw [bc_ur (by decide), bc_rn (by decide), bc_uu, h0]
theorem bs_passN_4 {A : Int → Int} {n : Int} (h4 : 0 ≤ A 4) (hn : 0 ≤ n) : bs_passN A n 4 = (if A 4 ≤ n then 0 else A 4 - n) := by
  refine bc_it_ind (f := fun _ B => bs_pass B) (a := A) (fun (n : Int) (B : Int → Int) => B 4 = (if A 4 ≤ n then 0 else A 4 - n)) ?_ (fun i B i0 ih => ?_) hn
  · split <;> omega
  · rw [bs_pass_4, ih]
    (repeat' split) <;> omega
theorem bs_passN_v {A : Int → Int} {v n : Int} (hW : bs_W A) (v0 : 0 ≤ v) (v1 : v < A 2) (hn : 0 ≤ n) : bs_passN A n (54 + 8 * v) = A (54 + 8 * v) ∧ bs_passN A n (54 + 8 * v + 1) = A (54 + 8 * v + 1) ∧ bs_passN A n (54 + 8 * v + 2) = (if A (54 + 8 * v + 2) ≤ n then 0 else A (54 + 8 * v + 2) - n) := by
  have hV := hW.2.2.2.1 v v0 v1
  have key := bc_it_ind (f := fun _ B => bs_pass B) (a := A) (fun n B => B 2 = A 2 ∧ B (54 + 8 * v) = A (54 + 8 * v) ∧ B (54 + 8 * v + 1) = A (54 + 8 * v + 1) ∧ B (54 + 8 * v + 2) = (if A (54 + 8 * v + 2) ≤ n then 0 else A (54 + 8 * v + 2) - n)) ⟨rfl, rfl, rfl, by split <;> omega⟩ (fun i B i0 ih => by
    obtain ⟨i1, i2, i3, i4⟩ := ih
    refine ⟨by rw [bs_pass_lo (by decide) (by decide) (by decide)]; exact i1, by rw [bs_pass_se v0 (by omega)]; exact i2, by rw [bs_pass_at v0 (by omega)]; exact i3, ?_⟩
    rw [bs_pass_go v0 (by omega), i4]
    (repeat' split) <;> omega) hn
  exact ⟨key.2.1, key.2.2.1, key.2.2.2⟩
theorem bs_mb_N {A : Int → Int} {v n : Int} (hW : bs_W A) (v0 : 0 ≤ v) (v1 : v < A 2) (hn : 0 ≤ n) : bs_mb (bs_passN A n) v = (if A (54 + 8 * v + 2) < n + 1 ∧ n + 1 ≤ A 4 then A (10 + 2 * A (54 + 8 * v + 1)) else -1) := by
  have hV := hW.2.2.2.1 v v0 v1
  have w1 := hW.1.2.1
  have hp := bs_passN_v hW v0 v1 hn
  have hp4 := bs_passN_4 (n := n) hW.1.2.2.2.2.1.1 hn
  have hlo := (bs_passN_p hW hn).2.2.1
  unfold bs_mb
  rw [hp.2.1, hp.2.2, hp4, hlo (10 + 2 * A (54 + 8 * v + 1)) (by omega) (by omega) (by omega)]
  by_cases q : A (54 + 8 * v + 2) < n + 1 ∧ n + 1 ≤ A 4
  · rw [if_pos q, if_pos (by constructor <;> split <;> omega)]
  · rw [if_neg q, if_neg ?_]
    intro z
    obtain ⟨z1, z2⟩ := z
    split at z1 <;> split at z2 <;> omega
def bs_mf (A : Int → Int) (v n b : Int) : Int := bs_passN A n (54 + 8 * v + (3 + b))
theorem bs_copyRow {d n m : Nat} {r o r2 o2 : Int} {h : bc_H} {K : bc_H → Prop} (ho : 0 ≤ o ∧ o + 5 ≤ n) (ho2 : 0 ≤ o2 ∧ o2 + 5 ≤ m) (hb : n ≤ 1000 ∧ m ≤ 1000) (hne : r ≠ r2 ∨ o + 5 ≤ o2 ∨ o2 + 5 ≤ o) (hK : ∀ h', (∀ x y, x ≠ r2 ∨ y < o2 ∨ o2 + 5 ≤ y → h' x y = h x y) → (∀ b, 0 ≤ b → b < 5 → h' r2 (o2 + b) = h r (o + b)) → K h') : bf_Cave_copyRow d n r o m r2 o2 h (bc_U K) := by
  refine rv_Cave_copyRow ?_
  refine (bc_lup (P := fun i => ∀ h', (∀ x y, x ≠ r2 ∨ y < o2 ∨ o2 + i ≤ y → h' x y = h x y) → (∀ b, 0 ≤ b → b < i → h' r2 (o2 + b) = h r (o + b)) → bl_Cave_copyRow_2 d n r o m r2 o2 i h' (bc_U K)) (n := 5) ?_ (fun i i0 hi ih => ?_) (Int.le_refl 0) (by omega)) h (fun _ _ _ => rfl) (fun b b0 b1 => absurd b1 (by omega))
  · intro h' a1 a2
    exact rv_Cave_copyRow_2 ⟨fun _ => hK h' a1 a2, fun q => absurd q (by omega)⟩
  · intro h' a1 a2
    refine rv_Cave_copyRow_2 ⟨fun q => absurd q (by omega), fun _ => ?_⟩
    simp (disch := omega) only [bc_wi, Int.add_zero]
    refine ⟨by omega, by omega, ih _ (fun x y q => ?_) (fun b b0 b1 => ?_)⟩
    · rw [bc_un2 (by omega)]; exact a1 x y (by omega)
    · by_cases e : b = i
      · rw [e, bc_uu]; exact a1 _ _ (by omega)
      · rw [bc_uj (by omega)]; exact a2 b b0 (by omega)
theorem bc_c_watch {d : Nat} {c v m : Int} {h : bc_H} {A : Int → Int} {K : bc_H → Prop} (hc : 24 ≤ c ∧ c ≤ 130) (hC : bs_C h c A) (hW : bs_W A) (v0 : 0 ≤ v) (v1 : v < A 2) (m0 : 0 ≤ m) (m2 : m ≤ 200) (hK : ∀ h', (∀ x, x ≠ 15 → x ≠ 16 → x ≠ 17 → h' x = h x) → (∀ b, 0 ≤ b → b < 5 → h' 15 b = bs_mf A v m b) → (∀ u, 0 ≤ u → u ≤ m → h' 16 u = bs_most (bs_passN A u) v ∧ h' 17 u = bs_fm (bs_mf A v u)) → K h') : bf_Ahead_watch (d + 1) c v m h (bc_U K) := by
  obtain ⟨⟨n4, n5, n6, n2, n0, n1, n3⟩, hw, hd, hg, hf, hm⟩ := id hC
  obtain ⟨⟨w0, w1, w2, w3, w4, w5, w7⟩, hww, hwy, hwv, hwf, hwg⟩ := id hW
  have fv := hm v v0 v1
  have qv := hwv v v0 v1
  have fw := hw _ qv.2.1.1 qv.2.1.2
  have pw := hww _ qv.2.1.1 qv.2.1.2
  refine rv_Ahead_watch ?_
  rw [fv.2.1, fv.2.2.1, n4]
  simp (disch := omega) only [bc_wi, Int.add_zero]
  refine ⟨by omega, by omega, ?_⟩
  refine bs_copyRow (n := 30) (m := 5) (by omega) (by omega) (by omega) (by omega) (fun h1 a1 a2 => ?_)
  have tail : ∀ t g, 0 ≤ t → t ≤ 200 → (∀ x, x ≠ 15 → x ≠ 16 → x ≠ 17 → g x = h x) → (∀ b, 0 ≤ b → b < 5 → g 15 b = bs_mf A v t b) → (∀ u, 0 ≤ u → u < t → g 16 u = bs_most (bs_passN A u) v ∧ g 17 u = bs_fm (bs_mf A v u)) →
      (∀ g', (∀ x, x ≠ 15 → x ≠ 16 → x ≠ 17 → g' x = h x) → (∀ b, 0 ≤ b → b < 5 → g' 15 b = bs_mf A v t b) → (∀ u, 0 ≤ u → u < t + 1 → g' 16 u = bs_most (bs_passN A u) v ∧ g' 17 u = bs_fm (bs_mf A v u)) → bl_Ahead_watch_24 (d + 1) c m (A (54 + 8 * v + 1)) (A 4) (A (54 + 8 * v + 2)) (t + 1) g' (bc_U K)) →
      bf_Cave_greatest d 5 15 0 g (bc_I (fun y6 h4 => (0 ≤ t ∧ t < 201) ∧ bf_Cave_foremost d 5 15 0 (bc_upd h4 16 t y6) (bc_I (fun y9 h7 => (0 ≤ t ∧ t < 201) ∧ bl_Ahead_watch_24 (d + 1) c m (A (54 + 8 * v + 1)) (A 4) (A (54 + 8 * v + 2)) (bc_w32 (t + 1)) (bc_upd h7 17 t y9) (bc_U K))))) := by
    intro t g t0 t2 b1 b2 b3 kk
    refine bc_c_greatest (by omega) (by omega) (by omega) ⟨by omega, ?_⟩
    refine bc_c_foremost (by omega) (by omega) (by omega) ⟨by omega, ?_⟩
    rw [bc_wi (by omega) (by omega)]
    have eg : bs_gr (fun b => g 15 (0 + b)) = bs_most (bs_passN A t) v := bs_gr_congr (fun b b0 b5 => by rw [Int.zero_add]; exact b2 b b0 b5)
    have ef : bs_fm (fun b => bc_upd g 16 t (bs_gr (fun b => g 15 (0 + b))) 15 (0 + b)) = bs_fm (bs_mf A v t) := bs_fm_congr (fun b b0 b5 => by rw [bc_ur (by decide), Int.zero_add]; exact b2 b b0 b5)
    rw [ef, eg]
    refine kk _ (fun x x1 x2 x3 => ?_) (fun b b0 b5 => ?_) (fun u u0 u1 => ?_)
    · rw [bc_urow x3, bc_urow x2]; exact b1 x x1 x2 x3
    · rw [bc_ur (by decide), bc_ur (by decide)]; exact b2 b b0 b5
    · rw [bc_ur (by decide)]
      by_cases e : u = t
      · rw [e, bc_uu, bc_uu]; exact ⟨rfl, rfl⟩
      · rw [bc_uj e, bc_uj e, bc_ur (by decide)]; exact b3 u u0 (by omega)
  refine (bc_lup (P := fun t => ∀ g, (∀ x, x ≠ 15 → x ≠ 16 → x ≠ 17 → g x = h x) → (∀ b, 0 ≤ b → b < 5 → g 15 b = bs_mf A v (if t = 0 then 0 else t - 1) b) → (∀ u, 0 ≤ u → u < t → g 16 u = bs_most (bs_passN A u) v ∧ g 17 u = bs_fm (bs_mf A v u)) → bl_Ahead_watch_24 (d + 1) c m (A (54 + 8 * v + 1)) (A 4) (A (54 + 8 * v + 2)) t g (bc_U K)) (n := m + 1) ?_ (fun t t0 t1 ih => ?_) (Int.le_refl 0) (by omega)) h1 (fun x x1 x2 x3 => funext fun y => a1 x y (Or.inl x1)) (fun b b0 b5 => ?_) (fun u u0 u1 => absurd u1 (by omega))
  · intro g b1 b2 b3
    rw [if_neg (by omega), show m + 1 - 1 = m by omega] at b2
    exact rv_Ahead_watch_24 ⟨fun _ => hK g b1 b2 (fun u u0 u1 => b3 u u0 (by omega)), fun q => absurd q (by omega)⟩
  · intro g b1 b2 b3
    rw [if_neg (by omega), show t + 1 - 1 = t by omega] at ih
    refine rv_Ahead_watch_24 ⟨fun q => absurd q (by omega), fun _ => ⟨fun q => absurd q (by omega), fun _ => ⟨fun z => ?_, fun z => ?_⟩⟩⟩
    · have e : t = 0 := by omega
      subst e
      exact tail 0 g t0 (by omega) b1 b2 b3 ih
    · rw [if_neg (by omega)] at b2
      have hWt := (bs_passN_p hW (n := t - 1) (by omega)).1
      have h2t := (bs_passN_p hW (n := t - 1) (by omega)).2.2.1 2 (by decide) (by decide) (by decide)
      have hqt := hWt.2.2.2.1 v v0 (by omega)
      have hmb := bs_mb_N hW v0 v1 (n := t - 1) (by omega)
      rw [show t - 1 + 1 = t by omega] at hmb
      have hat := (bs_passN_v hW v0 v1 (n := t - 1) (by omega)).2.1
      have hpl := (bs_passN_p hW (n := t - 1) (by omega)).2.2.1 (10 + 2 * A (54 + 8 * v + 1) + 1) (by omega) (by omega) (by omega)
      have hrg : ∀ b, 0 ≤ b → b < 5 → 0 ≤ g 15 (0 + b) ∧ g 15 (0 + b) ≤ 99 := fun b b0 b5 => by
        rw [Int.zero_add, b2 b b0 b5]; exact (hqt.2.2.2 b b0 b5).1
      have stp : ∀ be pl, be = bs_mb (bs_passN A (t - 1)) v → (be = -1 ∨ pl = A (10 + 2 * A (54 + 8 * v + 1) + 1)) → ∀ b, 0 ≤ b → b < 5 → bs_chr g 15 0 be pl 5 15 b = bs_mf A v t b := fun be pl e1 e2 b b0 b5 => by
        have t1 := bs_chr_y (h := g) (r := 15) (o := 0) (be := be) (p := pl) (n := 5) (b := b) b0 b5
        rw [Int.zero_add] at t1
        rw [t1, b2 b b0 b5]
        unfold bs_mf
        rw [show t = t - 1 + 1 by omega, bs_passN_s A (by omega), bs_pass_m5 hWt v0 (by omega) b0 b5, show t - 1 + 1 - 1 = t - 1 by omega, hat, hpl, ← e1]
        refine bs_chg_n ?_
        rcases e2 with e2 | e2
        · exact Or.inl (by omega)
        · exact Or.inr e2
      rw [b1 (c + 3 + 1) (by omega) (by omega) (by omega), b1 (c + 3 + 2) (by omega) (by omega) (by omega), fw.1]
      refine ⟨fun q => ⟨by omega, by omega, ?_⟩, fun q => ⟨by omega, ?_⟩⟩
      · rw [if_pos q] at hmb
        have e2 : A (10 + 2 * A (54 + 8 * v + 1)) = -1 ∨ h (c + 3 + 2) (A (54 + 8 * v + 1)) = A (10 + 2 * A (54 + 8 * v + 1) + 1) := by
          by_cases q2 : A (10 + 2 * A (54 + 8 * v + 1)) = -1
          · exact Or.inl q2
          · exact Or.inr (fw.2 q2)
        refine bc_c_change (by omega) (by omega) (by omega) hrg ?_ ?_
        · rcases e2 with e2 | e2
          · exact Or.inr (Or.inl (by omega))
          · exact Or.inl (by omega)
        · exact tail t _ t0 (by omega) (fun x x1 x2 x3 => by rw [← b1 x x1 x2 x3]; exact funext fun y => bs_chr_n (by omega)) (stp _ _ hmb.symm e2) (fun u u0 u1 => by rw [bs_chr_n (by omega), bs_chr_n (by omega)]; exact b3 u u0 u1) ih
      · rw [if_neg q] at hmb
        refine bc_c_change (by omega) (by omega) (by omega) hrg (Or.inr (Or.inl (by decide))) ?_
        exact tail t _ t0 (by omega) (fun x x1 x2 x3 => by rw [← b1 x x1 x2 x3]; exact funext fun y => bs_chr_n (by omega)) (stp _ _ hmb.symm (Or.inl rfl)) (fun u u0 u1 => by rw [bs_chr_n (by omega), bs_chr_n (by omega)]; exact b3 u u0 u1) ih
  · rw [if_pos rfl]
    have := a2 b b0 b5
    rw [Int.zero_add] at this
    rw [this]; exact fv.2.2.2 b b0 b5
