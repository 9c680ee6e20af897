/-! ===== which selves fit: class and reference ===== -/
theorem bs_most_nn {A : Int → Int} {v : Int} : 0 ≤ bs_most A v := (bs_gr_p _).1
def bs_sx (h : bc_H) (t : Int) : Int → Int := fun j => h 161 (60 * t + j)
def bs_sv (h : bc_H) (t n : Int) : Prop := (0 ≤ t ∧ t ≤ 3) ∧ (0 ≤ n ∧ n ≤ 20) ∧ ∀ i, 0 ≤ i → i < n → bs_sg (h 157) (bs_sx h t) i ∧ h 5 (t * 60 + 2 * i) = h 161 (60 * t + 2 * i) ∧ h 5 (t * 60 + (2 * i + 1)) = h 161 (60 * t + (2 * i + 1))
theorem bc_c_fitting {d : Nat} {c v t n lo hi : Int} {h : bc_H} {A : Int → Int} {K : Int → bc_H → Prop} (hc : 24 ≤ c ∧ c ≤ 130) (hC : bs_C h c A) (hW : bs_W A) (v0 : 0 ≤ v) (v1 : v < A 2) (eA0 : A 0 = h 157 0) (hs : bs_sv h t n) (hlh : 1 ≤ lo ∧ lo ≤ hi ∧ hi ≤ 61) (hf : ∀ self, 1 ≤ self → self ≤ 60 → (bs_fit A (bs_sx h t) v self n ↔ lo ≤ self ∧ self < hi)) (hK : ∀ h', (∀ x, x ≠ 15 → x ≠ 16 → x ≠ 17 → h' x = h x) → (∀ u, 0 ≤ u → u ≤ 200 → h' 16 u = bs_most (bs_passN A u) v ∧ h' 17 u = bs_fm (bs_mf A v u)) → K (bs_iZ lo hi) h') : bf_Ahead_fittingSelves (d + 2) c v t n h (bc_J K) := by
  obtain ⟨ht, hn, hsg⟩ := hs
  refine rv_Ahead_fittingSelves (d := d + 1) (bc_c_watch (d := d) hc hC hW v0 v1 (by omega) (by omega) (fun g g1 _ g3 => ?_))
  have n0 := hC.1.2.2.2.2.1
  have g0 : g (c + 1) 0 = A 0 := by rw [g1 _ (by omega) (by omega) (by omega)]; exact n0
  have g5 : g 5 = h 5 := g1 5 (by decide) (by decide) (by decide)
  have key : bl_Ahead_fittingSelves_9 (d + 2) c t n (bs_iZ lo (bs_md lo hi 1)) 1 g (bc_J K) := by
    refine bc_lupF (P := fun k => bl_Ahead_fittingSelves_9 (d + 2) c t n (bs_iZ lo (bs_md lo hi k)) k g (bc_J K)) (a := 1) (n := 61) ?_ (fun k k0 k1 ih => ?_) (Int.le_refl 1) (by omega)
    · refine rv_Ahead_fittingSelves_9 (d := d + 1) ⟨fun _ => ?_, fun q => absurd q (by omega)⟩
      have e : bs_md lo hi 61 = hi := by unfold bs_md; split <;> (try split) <;> omega
      rw [e]
      exact hK g g1 (fun u u0 u1 => g3 u u0 u1)
    · refine rv_Ahead_fittingSelves_9 (d := d + 1) ⟨fun q => absurd q (by omega), fun _ => ?_⟩
      have hfk := hf k k0 (by omega)
      have yes : bs_fit A (bs_sx h t) v k n → bl_Ahead_fittingSelves_9 (d + 2) c t n (bc_lorL (bs_iZ lo (bs_md lo hi k)) (bc_lshl 1 k)) (bc_w32 (k + 1)) g (bc_J K) := fun q => by
        have q := hfk.1 q
        have e1 : bs_md lo hi k = k := by unfold bs_md; split <;> (try split) <;> omega
        have e2 : bs_md lo hi (k + 1) = k + 1 := by unfold bs_md; split <;> (try split) <;> omega
        rw [e1, bs_iZ_or (by omega) (by omega) (by omega), bc_wi (x := k + 1) (by omega) (by omega)]
        rw [e2] at ih; exact ih
      have no : ¬ bs_fit A (bs_sx h t) v k n → bl_Ahead_fittingSelves_9 (d + 2) c t n (bc_lorL (bs_iZ lo (bs_md lo hi k)) 0) (bc_w32 (k + 1)) g (bc_J K) := fun q => by
        have q : ¬ (lo ≤ k ∧ k < hi) := fun w => q (hfk.2 w)
        have e1 : bs_md lo hi (k + 1) = bs_md lo hi k := by unfold bs_md; split <;> (try split) <;> (try split) <;> (try split) <;> omega
        have e2 : lo ≤ bs_md lo hi k ∧ bs_md lo hi k < 62 := by unfold bs_md; split <;> (try split) <;> omega
        rw [bs_iZ_or0 (by omega) e2.1 e2.2, bc_wi (x := k + 1) (by omega) (by omega)]
        rw [e1] at ih; exact ih
      refine bc_lup (P := fun i => bs_fit A (bs_sx h t) v k i → bl_Ahead_fittingSelves_16 (d + 2) c t n (bs_iZ lo (bs_md lo hi k)) k 1 i g (bc_J K)) (n := n) (fun q => ?_) (fun i i0 i1 ihi q => ?_) (Int.le_refl 0) hn.1 (fun i i0 i1 => absurd i1 (by omega))
      · exact rv_Ahead_fittingSelves_16 (d := d + 1) ⟨fun _ => ⟨fun w => absurd w (by decide), fun _ => yes q⟩, fun w => absurd w (by omega)⟩
      · have hi' := hsg i i0 i1
        have s1 : 0 ≤ h 161 (60 * t + 2 * i) ∧ h 161 (60 * t + 2 * i) ≤ 200 := hi'.1.1
        have s2 : 0 ≤ h 161 (60 * t + (2 * i + 1)) ∧ h 161 (60 * t + (2 * i + 1)) ≤ h 157 0 := hi'.1.2
        have g3i := g3 (h 161 (60 * t + 2 * i)) s1.1 s1.2
        have out : bs_wb A v k (h 161 (60 * t + 2 * i)) ≠ h 161 (60 * t + (2 * i + 1)) → bl_Ahead_fittingSelves_16 (d + 2) c t n (bs_iZ lo (bs_md lo hi k)) k 0 (bc_w32 (i + 1)) g (bc_J K) := fun w => by
          have nf : ¬ bs_fit A (bs_sx h t) v k n := fun al => w (al i i0 i1)
          exact rv_Ahead_fittingSelves_16 (d := d + 1) ⟨fun _ => ⟨fun _ => no nf, fun u => absurd rfl u⟩, fun _ => ⟨fun _ => ⟨fun _ => no nf, fun u => absurd rfl u⟩, fun u => absurd rfl u⟩⟩
        have on : bs_wb A v k (h 161 (60 * t + 2 * i)) = h 161 (60 * t + (2 * i + 1)) → bl_Ahead_fittingSelves_16 (d + 2) c t n (bs_iZ lo (bs_md lo hi k)) k 1 (bc_w32 (i + 1)) g (bc_J K) := fun w => by
          rw [bc_wi (x := i + 1) (by omega) (by omega)]
          refine ihi (fun j j0 j1 => ?_)
          by_cases e : j = i
          · subst e; exact w
          · exact q j j0 (by omega)
        unfold bs_wb at out on
        refine rv_Ahead_fittingSelves_16 (d := d + 1) ⟨fun w => absurd w (by omega), fun _ => ⟨fun w => absurd w (by decide), fun _ => ?_⟩⟩
        rw [bc_wi (x := t * 60) (by omega) (by omega), bc_wi (x := 2 * i) (by omega) (by omega), bc_wi (x := 2 * i + 1) (by omega) (by omega), bc_wi (x := t * 60 + 2 * i) (by omega) (by omega), bc_wi (x := t * 60 + (2 * i + 1)) (by omega) (by omega), g5, hi'.2.1, hi'.2.2, bc_wi (x := h 161 (60 * t + 2 * i)) (by omega) (by omega), g3i.1, g3i.2, g0]
        refine ⟨by omega, fun _ => ⟨by omega, fun le => ⟨by omega, fun w => ?_, fun w => ?_⟩, fun lt => ⟨by omega, by omega, fun w => ?_, fun w => ?_⟩⟩, fun w => absurd s1 w⟩
        · rw [if_pos le] at out; exact out w
        · rw [if_pos le] at on; exact on w
        · rw [if_neg (by omega)] at out; exact out w
        · rw [if_neg (by omega)] at on; exact on w
  have e1 : bs_iZ lo (bs_md lo hi 1) = 0 := by
    have : bs_md lo hi 1 = lo := by unfold bs_md; split <;> (try split) <;> omega
    rw [this]
    unfold bs_iZ bs_iN
    rw [Nat.sub_self]; rfl
  rw [e1] at key
  exact key
theorem bc_m_minuteGoesX {d : Nat} {m : bc_H} {A : Int → Int} {K : Int → bc_H → Prop} (eA : m 157 = A) (hW : bs_W A) (h6 : 0 ≤ A 6 ∧ A 6 ≤ 1000000) (hK : K (bs_new A) (bc_row m 157 (bs_pass A))) : bf_M_minuteGoes (d + 6) m (bc_I K) := by
  have t := bc_m_minuteGoes (d := d) (h := m) hW h6 hK
  rw [← eA, bc_rself] at t; exact t
theorem bc_m_wouldBe {d : Nat} {v self t : Int} {m : bc_H} {A : Int → Int} {K : Int → bc_H → Prop} (hW : bs_W A) (v0 : 0 ≤ v) (v1 : v < A 2) (s0 : 1 ≤ self) (t0 : 0 ≤ t) (t1 : t ≤ 200) (e0 : m 157 0 = A 0) (hm : m 174 t = bs_most (bs_passN A t) v ∧ m 175 t = bs_ix (fun b => bs_passN A t (54 + 8 * v + (3 + b))) (A 0)) (hK : K (bs_wb A v self t) m) : bf_M_wouldBe d self t m (bc_I K) := by
  unfold bs_wb at hK
  refine rv_M_wouldBe ?_
  rw [hm.1, hm.2, e0]
  refine ⟨by omega, fun le => ?_, fun lt => ⟨by omega, ?_⟩⟩
  · rw [if_pos le] at hK; exact hK
  · rw [if_neg (by omega)] at hK
    rw [(bs_mf_fm hW v0 v1 t0 (by omega)).1]
    exact hK
/-- what the reference has laid -/
def bs_laid (h g : bc_H) (A : Int → Int) (v lo hi : Int) : Prop := (∀ x, x ≠ 156 → x ≠ 157 → ¬ (174 ≤ x ∧ x ≤ 176) → g x = h x) ∧ (∀ y, y ≠ 37 → g 156 y = h 156 y) ∧ (∀ k, k < 2112 → g 157 k = h 157 k) ∧ (∀ u, 0 ≤ u → u ≤ 200 → g 174 u = bs_most (bs_passN A u) v ∧ g 175 u = bs_ix (fun b => bs_passN A u (54 + 8 * v + (3 + b))) (A 0)) ∧ g 156 37 = hi - lo ∧ ∀ s, 1 ≤ s → s ≤ 60 → g 176 s = if lo ≤ s ∧ s < hi then 1 else 0
theorem bc_m_laysFits {d : Nat} {v t n lo hi : Int} {h : bc_H} {K : bc_H → Prop} (hW : bs_W (h 157)) (hck : 0 ≤ h 157 6 ∧ h 157 6 ≤ 9999) (v0 : 0 ≤ v) (v1 : v < h 157 2) (hs : bs_sv h t n) (hlh : 1 ≤ lo ∧ lo ≤ hi ∧ hi ≤ 61) (hf : ∀ self, 1 ≤ self → self ≤ 60 → (bs_fit (bs_B (h 157)) (bs_sx h t) v self n ↔ lo ≤ self ∧ self < hi)) (hK : ∀ g, bs_laid h g (bs_B (h 157)) v lo hi → K g) : bf_M_laysFits (d + 7) v t n h (bc_U K) := by
  obtain ⟨ht, hn, hsg⟩ := hs
  have hWB := bs_W_B hW
  have w := hW.1
  have b0 : bs_B (h 157) 0 = h 157 0 := bs_B_n (by omega)
  have b2 : bs_B (h 157) 2 = h 157 2 := bs_B_n (by omega)
  have b6 : bs_B (h 157) 6 = h 157 6 := bs_B_n (by omega)
  refine rv_M_laysFits (d := d + 6) (bc_m_keepsX rfl (by omega) (by omega) ?_)
  refine bc_lup (P := fun k => ∀ m : bc_H, (∀ x, x ≠ 157 → ¬ (174 ≤ x ∧ x ≤ 175) → m x = h x) → m 157 = bs_passN (bs_B (h 157)) k → (∀ u, 0 ≤ u → u < k → m 174 u = bs_most (bs_passN (bs_B (h 157)) u) v ∧ m 175 u = bs_ix (fun b => bs_passN (bs_B (h 157)) u (54 + 8 * v + (3 + b))) (bs_B (h 157) 0)) → bl_M_laysFits_5 (d + 7) v t n k m (bc_U K)) (n := 201) (fun m m1 m2 m3 => ?_) (fun k k0 k1 ih m m1 m2 m3 => ?_) (Int.le_refl 0) (by omega) _ (fun x x1 _ => bc_rn x1) (bs_rr _ _ _) (fun u u0 u1 => absurd u1 (by omega))
  · refine rv_M_laysFits_5 (d := d + 6) ⟨fun _ => ?_, fun q => absurd q (by omega)⟩
    refine bc_m_restoresX m2 (by omega) (by omega) ?_
    have hp := bs_passN_p hWB (n := 201) (by omega)
    have back := bs_back (A := h 157) (B := bs_passN (bs_B (h 157)) 201) (fun k hk => hp.2.2.2 k (by rw [b2]; omega)) (fun k hk => by rw [hp.2.2.1 k (by omega) (by omega) (by omega), bs_B_n (by omega)])
    refine bc_lupF (P := fun s => ∀ g : bc_H, (∀ x, x ≠ 156 → x ≠ 157 → ¬ (174 ≤ x ∧ x ≤ 176) → g x = h x) → (∀ y, y ≠ 37 → g 156 y = h 156 y) → (∀ k, k < 2112 → g 157 k = h 157 k) → (∀ u, 0 ≤ u → u ≤ 200 → g 174 u = bs_most (bs_passN (bs_B (h 157)) u) v ∧ g 175 u = bs_ix (fun b => bs_passN (bs_B (h 157)) u (54 + 8 * v + (3 + b))) (bs_B (h 157) 0)) → g 156 37 = bs_md lo hi s - lo → (∀ s', 1 ≤ s' → s' < s → g 176 s' = if lo ≤ s' ∧ s' < hi then 1 else 0) → bl_M_laysFits_35 (d + 7) t n s g (bc_U K)) (a := 1) (n := 61) (fun g g1 g2 g3 g4 g5 g6 => ?_) (fun s s0 s1 ih g g1 g2 g3 g4 g5 g6 => ?_) (Int.le_refl 1) (by omega) _ (fun x x1 x2 x3 => ?_) (fun y y1 => ?_) (fun k k0 => ?_) (fun u u0 u1 => ?_) ?_ (fun s s0 s1 => absurd s1 (by omega))
    · refine rv_M_laysFits_35 (d := d + 6) ⟨fun _ => hK g ⟨g1, g2, g3, g4, ?_, fun s s0 s1 => g6 s s0 (by omega)⟩, fun q => absurd q (by omega)⟩
      rw [g5]
      have e : bs_md lo hi 61 = hi := by unfold bs_md; split <;> (try split) <;> omega
      rw [e]
    · refine rv_M_laysFits_35 (d := d + 6) ⟨fun q => absurd q (by omega), fun _ => ⟨⟨by omega, Or.inr rfl⟩, ?_⟩⟩
      have hfk := hf s s0 (by omega)
      refine bc_lup (P := fun i => ∀ g' : bc_H, (∀ x, x ≠ 176 → g' x = g x) → (∀ s', s' ≠ s → g' 176 s' = g 176 s') → ((g' 176 s = 1 ∧ bs_fit (bs_B (h 157)) (bs_sx h t) v s i) ∨ (g' 176 s = 0 ∧ ¬ bs_fit (bs_B (h 157)) (bs_sx h t) v s n)) → bl_M_laysFits_45 (d + 7) t n s i g' (bc_U K)) (n := n) (fun g' h1 h2 h3 => ?_) (fun i i0 i1 ihi g' h1 h2 h3 => ?_) (Int.le_refl 0) hn.1 _ (fun x x1 => bc_urow x1) (fun s' hs' => bc_uj hs') (Or.inl ⟨bc_uu _ _ _ _, fun i i0 i1 => absurd i1 (by omega)⟩)
      · have e37 : g' 156 37 = bs_md lo hi s - lo := by rw [h1 156 (by decide)]; exact g5
        have mr : lo ≤ bs_md lo hi s ∧ bs_md lo hi s ≤ 61 := by unfold bs_md; split <;> (try split) <;> omega
        refine rv_M_laysFits_45 (d := d + 6) ⟨fun _ => ⟨by omega, fun z => ?_, fun z => ?_⟩, fun q => absurd q (by omega)⟩
        · have fit : lo ≤ s ∧ s < hi := by
            rcases h3 with q | q
            · exact hfk.1 q.2
            · exact absurd q.1 z
          have e1 : bs_md lo hi s = s := by unfold bs_md; split <;> (try split) <;> omega
          have e2 : bs_md lo hi (s + 1) = s + 1 := by unfold bs_md; split <;> (try split) <;> omega
          rw [e37, e1, bc_wi (x := s - lo + 1) (by omega) (by omega), bc_wi (x := s + 1) (by omega) (by omega)]
          refine ih _ (fun x x1 x2 x3 => by rw [bc_urow x1, h1 x (by omega)]; exact g1 x x1 x2 x3) (fun y y1 => by rw [bc_uj y1, h1 156 (by decide)]; exact g2 y y1) (fun k k0 => by rw [bc_urow (by decide), h1 157 (by decide)]; exact g3 k k0) (fun u u0 u1 => by rw [bc_urow (by decide), bc_urow (by decide), h1 174 (by decide), h1 175 (by decide)]; exact g4 u u0 u1) (by rw [bc_uu, e2]; omega) (fun s' a0 a1 => ?_)
          rw [bc_urow (by decide)]
          by_cases e : s' = s
          · subst e
            rw [if_pos fit]
            rcases h3 with q | q
            · exact q.1
            · exact absurd q.1 z
          · rw [h2 s' e]; exact g6 s' a0 (by omega)
        · have nfit : ¬ (lo ≤ s ∧ s < hi) ∧ g' 176 s = 0 := by
            rcases h3 with q | q
            · exact absurd (by omega) z
            · exact ⟨fun u => q.2 (hfk.2 u), q.1⟩
          have e1 : bs_md lo hi (s + 1) = bs_md lo hi s := by
            have := nfit.1
            unfold bs_md; split <;> (try split) <;> (try split) <;> (try split) <;> omega
          rw [e37, bc_wi (x := bs_md lo hi s - lo + 0) (by omega) (by omega), bc_wi (x := s + 1) (by omega) (by omega)]
          refine ih _ (fun x x1 x2 x3 => by rw [bc_urow x1, h1 x (by omega)]; exact g1 x x1 x2 x3) (fun y y1 => by rw [bc_uj y1, h1 156 (by decide)]; exact g2 y y1) (fun k k0 => by rw [bc_urow (by decide), h1 157 (by decide)]; exact g3 k k0) (fun u u0 u1 => by rw [bc_urow (by decide), bc_urow (by decide), h1 174 (by decide), h1 175 (by decide)]; exact g4 u u0 u1) (by rw [bc_uu, e1]; omega) (fun s' a0 a1 => ?_)
          rw [bc_urow (by decide)]
          by_cases e : s' = s
          · subst e
            rw [if_neg nfit.1]; exact nfit.2
          · rw [h2 s' e]; exact g6 s' a0 (by omega)
      · have hi' := hsg i i0 i1
        have s1 : 0 ≤ h 161 (60 * t + 2 * i) ∧ h 161 (60 * t + 2 * i) ≤ 200 := hi'.1.1
        have g161 : g' 161 = h 161 := by rw [h1 161 (by decide)]; exact g1 161 (by decide) (by decide) (by decide)
        refine rv_M_laysFits_45 (d := d + 6) ⟨fun q => absurd q (by omega), fun _ => ?_⟩
        rw [bc_wi (x := 60 * t) (by omega) (by omega), bc_wi (x := 2 * i) (by omega) (by omega), bc_wi (x := 60 * t + 2 * i) (by omega) (by omega), bc_wi (x := 60 * t + 2 * i + 1) (by omega) (by omega), g161, bc_wi (x := h 161 (60 * t + 2 * i)) (by omega) (by omega), bc_wi (x := i + 1) (by omega) (by omega)]
        refine ⟨by omega, ?_⟩
        refine bc_m_wouldBe (A := bs_B (h 157)) hWB v0 (by rw [b2]; exact v1) s0 s1.1 s1.2 (by rw [h1 157 (by decide), g3 0 (by omega), b0]) (by rw [h1 174 (by decide), h1 175 (by decide)]; exact g4 _ s1.1 s1.2) ?_
        rw [g161, show 60 * t + 2 * i + 1 = 60 * t + (2 * i + 1) by omega]
        refine ⟨by omega, fun z => ?_, fun z => ⟨⟨by omega, Or.inl rfl⟩, ?_⟩⟩
        · refine ihi g' h1 h2 ?_
          rcases h3 with q | q
          · refine Or.inl ⟨q.1, fun j j0 j1 => ?_⟩
            by_cases e : j = i
            · subst e; exact z
            · exact q.2 j j0 (by omega)
          · exact Or.inr q
        · exact ihi _ (fun x x1 => by rw [bc_urow x1]; exact h1 x x1) (fun s' hs' => by rw [bc_uj hs']; exact h2 s' hs') (Or.inr ⟨bc_uu _ _ _ _, fun al => z (al i i0 i1)⟩)
    · rw [bc_urow x1, bc_rn x2]; exact m1 x x2 (by omega)
    · rw [bc_uj y1, bc_rn (by decide), m1 156 (by decide) (by decide)]
    · rw [bc_urow (by decide), bs_rr]; exact back k k0
    · rw [bc_urow (by decide), bc_urow (by decide), bc_rn (by decide), bc_rn (by decide)]; exact m3 u u0 (by omega)
    · have e : bs_md lo hi 1 = lo := by unfold bs_md; split <;> (try split) <;> omega
      rw [bc_uu, e]; omega
  · have hp := bs_passN_p hWB k0
    have p0 : bs_passN (bs_B (h 157)) k 0 = bs_B (h 157) 0 := hp.2.2.1 0 (by decide) (by decide) (by decide)
    have p2 : bs_passN (bs_B (h 157)) k 2 = bs_B (h 157) 2 := hp.2.2.1 2 (by decide) (by decide) (by decide)
    refine rv_M_laysFits_5 (d := d + 6) ⟨fun q => absurd q (by omega), fun _ => ?_⟩
    refine bc_m_mostOf (d := d + 3) m2 hp.1 v0 (by rw [p2, b2]; exact v1) ⟨by omega, ?_⟩
    refine bc_m_greatestOf (d := d + 4) (A := bs_passN (bs_B (h 157)) k) (by rw [bc_urow (by decide)]; exact m2) v0 (by omega) (by rw [p0, b0]; exact w.1) ⟨by omega, ?_⟩
    refine bc_m_minuteGoesX (d := d) (A := bs_passN (bs_B (h 157)) k) (by rw [bc_urow (by decide), bc_urow (by decide)]; exact m2) hp.1 (by rw [hp.2.1, b6]; omega) ?_
    rw [bc_wi (x := k + 1) (by omega) (by omega)]
    refine ih _ (fun x x1 x2 => by rw [bc_rn x1, bc_urow (by omega), bc_urow (by omega)]; exact m1 x x1 x2) (by rw [bs_rr, bs_passN_s _ k0]) (fun u u0 u1 => ?_)
    rw [bc_rn (by decide), bc_rn (by decide), bc_urow (r := 175) (a := 174) (by decide)]
    by_cases e : u = k
    · subst e
      rw [bc_uu, bc_uu, p0]; exact ⟨rfl, rfl⟩
    · rw [bc_uj e, bc_uj e, bc_urow (r := 174) (a := 175) (by decide)]; exact m3 u u0 (by omega)
