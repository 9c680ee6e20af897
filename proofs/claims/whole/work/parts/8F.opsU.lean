/-! ===== mean ===== -/
theorem bc_m_restoresX {d : Nat} {f : Int} {h : bc_H} {A : Int → Int} {K : bc_H → Prop} (eA : h 157 = A) (t0 : 160 ≤ f) (t1 : f ≤ 3808) (hK : K (bc_row h 157 (bs_rs A f 160))) : bf_M_restores d f h (bc_U K) := by
  have t := bc_m_restores (d := d) (h := h) t0 t1 hK
  rw [← eA, bc_rself] at t; exact t
theorem bc_m_keepsX {d : Nat} {f : Int} {h : bc_H} {A : Int → Int} {K : bc_H → Prop} (eA : h 157 = A) (t0 : 160 ≤ f) (t1 : f ≤ 3808) (hK : K (bc_row h 157 (bs_kp A f 160))) : bf_M_keeps d f h (bc_U K) := by
  have t := bc_m_keeps (d := d) (h := h) t0 t1 hK
  rw [← eA, bc_rself] at t; exact t
theorem bs_lns_B {A ki t v n pa : Int → Int} (a8 : A 8 ≤ 60) (hl : bs_lns A ki t v n pa) : bs_lns (bs_B A) ki t v n pa := fun k k0 k1 => by
  rw [bs_B_n (by omega)] at k1
  rw [bs_B_n (A := A) (k := 160 + 6 * k) (by omega), bs_B_n (A := A) (k := 160 + 6 * k + 1) (by omega), bs_B_n (A := A) (k := 160 + 6 * k + 2) (by omega), bs_B_n (A := A) (k := 160 + 6 * k + 4) (by omega), bs_B_n (A := A) (k := 160 + 6 * k + 5) (by omega), bs_B_n (A := A) (k := 1) (by omega), bs_B_n (A := A) (k := 2) (by omega)]
  exact hl k k0 k1
theorem bs_rs_B {A A' : Int → Int} (hA : bs_lA (bs_B A) A') : bs_rs A' 2640 160 = bs_B A := by
  funext k
  unfold bs_rs
  by_cases z : 0 ≤ k ∧ k < 160
  · rw [if_pos z, hA.2.2.1 (2640 + k) (by omega), bs_B_w z.1 z.2, bs_B_n (by omega)]
  · rw [if_neg z]
    exact hA.2.2.1 k (by omega)
def bs_lb (B : Int → Int) (A : Int → Int) : Int := bs_pc (bs_bset (bs_turned A) (A 2))
theorem bs_lb_r (B A : Int → Int) : 0 ≤ bs_lb B A ∧ bs_lb B A ≤ 8 := by unfold bs_lb bs_pc bs_pcN; omega
def bs_mn (B R0 : Int → Int) (n k : Int) : (Int → Int) × Int := bc_it (fun i r => ((bs_lf B 301 B r.1 (bs_g0 (n + i)) 0).2.1, r.2 + bs_lb B (bs_lf B 301 B r.1 (bs_g0 (n + i)) 0).1)) (R0, 0) k
theorem bs_mn_s (B R0 : Int → Int) (n : Int) {k : Int} (k0 : 0 ≤ k) : bs_mn B R0 n (k + 1) = ((bs_lf B 301 B (bs_mn B R0 n k).1 (bs_g0 (n + k)) 0).2.1, (bs_mn B R0 n k).2 + bs_lb B (bs_lf B 301 B (bs_mn B R0 n k).1 (bs_g0 (n + k)) 0).1) := bc_its _ _ k0
theorem bs_mn_r (B R0 : Int → Int) (n : Int) {k : Int} (k0 : 0 ≤ k) : 0 ≤ (bs_mn B R0 n k).2 ∧ (bs_mn B R0 n k).2 ≤ 8 * k := by
  refine bc_it_ind (fun (k : Int) (r : (Int → Int) × Int) => 0 ≤ r.2 ∧ r.2 ≤ 8 * k) ⟨Int.le_refl 0, Int.le_refl 0⟩ (fun i r i0 ih => ?_) k0
  have := bs_lb_r B (bs_lf B 301 B r.1 (bs_g0 (n + i)) 0).1
  show 0 ≤ r.2 + bs_lb B _ ∧ r.2 + bs_lb B _ ≤ 8 * (i + 1)
  omega
theorem bs_o_mean {d : Nat} {a b : Int} {S : Int → Int} {L c s p q : Int} {h : bc_H} (hR : bs_R S L c s p q h) {P N1 N2 : bc_H → Prop} {Q1 Q0 : bc_H → Prop} (hQ : ∀ h1, h1 (-2) = h (-2) → h1 (-3) = h (-3) → bf_M_mean (d + 12) a b h1 (bc_B P N1) → Q1 h1) (hQ0 : ∀ h1, h1 (-2) = h (-2) → h1 (-3) = h (-3) → bf_M_mean (d + 12) a b h1 (bc_B N2 P) → Q0 h1) (hK : ∀ h2, bs_R S L c s p q h2 → P h2) : bf_X_mean (d + 12) a b h (bc_B Q1 Q0) := by
  obtain ⟨⟨hcs, hpq⟩, ⟨e12, e13, e14, e15⟩, hS, est, efr, htr, htp, hfa, hlv, hlo, hrs, hmk, ⟨hC, hW, hck, hN, hP⟩⟩ := id hR
  obtain ⟨⟨n4, n5, n6, n2, n0, n1, n3⟩, hw, hd, hg, hf, hm⟩ := id hC
  obtain ⟨⟨w0, w1, w2, w3, w4, w5, w7⟩, hww, hwy, hwv, hwf, hwg⟩ := id hW
  have hq : ∀ v, P (bc_upd (bc_upd h 0 0 v) 156 2 v) := fun v => hK _ (bs_R_st hR v)
  have e157 : ∀ v, bc_upd h 0 0 v 157 = h 157 := fun v => bc_urow (by decide)
  refine rv_X_mean (d := d + 11) ⟨fun za => ⟨fun zb => ?_, fun zb => ?_⟩, fun za => ?_⟩
  · rw [bc_wi (x := 10000 - b) (by omega) (by omega)]
    refine ⟨fun zc => ?_, fun zc => ?_⟩
    · rw [e14]
      refine ⟨by omega, fun z => ?_, fun z => ?_⟩
      · have hP' : h p 2 = h 157 8 ∧ (0 ≤ h 157 8 ∧ h 157 8 ≤ 60) ∧ bs_Pr h p (h 157) := by
          rcases hP.2 with q | q
          · exact absurd q.1 z
          · exact q.2
        obtain ⟨p2, p8, pl, pn⟩ := hP'
        have b8 : bs_B (h 157) 8 = h 157 8 := bs_B_n (by omega)
        have hWB := bs_W_B hW
        have hA0 : bs_lA (bs_B (h 157)) (bs_B (h 157)) := ⟨hWB, by rw [bs_B_n (by omega)]; exact hck, fun _ _ => rfl, rfl, rfl, rfl, rfl⟩
        have hlB := bs_lns_B p8.2 pl
        have pnB : bs_nest (h (p + 1)) (h (p + 5)) (bs_B (h 157) 8) := by rw [b8]; exact pn
        have hCB := bs_C_B hW hC
        refine bc_lup (P := fun i => ∀ m : bc_H, (∀ x, x ≠ 12 → x ≠ 13 → ¬ (s ≤ x ∧ x < s + 20) → m x = h x) → bs_Rlo (m 13) (bs_mn (bs_B (h 157)) (h 182) a i).1 → bl_X_mean_31 (d + 12) a b (bs_mn (bs_B (h 157)) (h 182) a i).2 i m (bc_B Q1 Q0)) (n := b) (fun m m1 m2 => ?_) (fun i i0 i1 ih m m1 m2 => ?_) (Int.le_refl 0) (by omega) h (fun _ _ _ _ => rfl) hlo
        · have sr := bs_mn_r (bs_B (h 157)) (h 182) a (k := b) (by omega)
          refine rv_X_mean_31 (d := d + 11) ⟨fun _ => ?_, fun q => absurd q (by omega)⟩
          refine bc_c_tellFraction sr.1 (by omega) (by omega) (by omega) ?_
          have s0 : ∀ x y, x ≠ 12 → x ≠ 13 → ¬ (s ≤ x ∧ x < s + 20) → (x ≠ 0 ∨ (y ≠ 0 ∧ y ≠ 1 ∧ y ≠ 2)) → bc_upd (bc_upd (bc_upd m 0 1 (bc_w64 ((bs_mn (bs_B (h 157)) (h 182) a b).2.tdiv (bs_gd (bs_mn (bs_B (h 157)) (h 182) a b).2 b)))) 0 2 (bc_w64 (b.tdiv (bs_gd (bs_mn (bs_B (h 157)) (h 182) a b).2 b)))) 0 0 0 x y = h x y := fun x y x1 x2 x3 x4 => by
            rw [bc_un2 (by omega), bc_un2 (by omega), bc_un2 (by omega), m1 x x1 x2 x3]
          generalize eM : bc_upd (bc_upd (bc_upd m 0 1 (bc_w64 ((bs_mn (bs_B (h 157)) (h 182) a b).2.tdiv (bs_gd (bs_mn (bs_B (h 157)) (h 182) a b).2 b)))) 0 2 (bc_w64 (b.tdiv (bs_gd (bs_mn (bs_B (h 157)) (h 182) a b).2 b)))) 0 0 0 = M0 at s0 ⊢
          have M00 : M0 0 0 = 0 := by rw [← eM, bc_uu]
          have M01 : M0 0 1 = bc_w64 ((bs_mn (bs_B (h 157)) (h 182) a b).2.tdiv (bs_gd (bs_mn (bs_B (h 157)) (h 182) a b).2 b)) := by rw [← eM, bc_uj (by decide), bc_uj (by decide), bc_uu]
          have M02 : M0 0 2 = bc_w64 (b.tdiv (bs_gd (bs_mn (bs_B (h 157)) (h 182) a b).2 b)) := by rw [← eM, bc_uj (by decide), bc_uu]
          have M13 : M0 13 = m 13 := by rw [← eM, bc_urow (by decide), bc_urow (by decide), bc_urow (by decide)]
          refine hQ _ (funext fun y => s0 _ y (by decide) (by decide) (by omega) (by omega)) (funext fun y => s0 _ y (by decide) (by decide) (by omega) (by omega)) ?_
          have M157 : M0 157 = h 157 := funext fun y => s0 _ y (by decide) (by decide) (by omega) (by omega)
          have M182 : M0 182 = h 182 := funext fun y => s0 _ y (by decide) (by decide) (by omega) (by omega)
          refine rv_M_mean (d := d + 11) ⟨fun _ => ⟨fun _ => ?_, fun q => absurd zb q⟩, fun q => absurd za q⟩
          rw [bc_wi (x := a + b) (by omega) (by omega), bc_wi (x := a + b - 1) (by omega) (by omega), M157]
          refine ⟨fun _ => ⟨fun _ => ?_, fun q => absurd q (by omega)⟩, fun q => absurd q (by omega)⟩
          refine bc_m_keepsX M157 (by omega) (by omega) ?_
          refine bc_lup (P := fun i => ∀ g : bc_H, (∀ x, x ≠ 156 → x ≠ 157 → x ≠ 182 → x ≠ 183 → g x = M0 x) → (∀ y, y ≠ 43 → y ≠ 44 → g 156 y = M0 156 y) → g 157 = bs_B (h 157) → g 182 = (bs_mn (bs_B (h 157)) (h 182) a i).1 → bs_hR (bs_mn (bs_B (h 157)) (h 182) a i).1 → bl_M_mean_40 (d + 12) a b (bs_mn (bs_B (h 157)) (h 182) a i).2 i g (bc_B P N1)) (n := b) (fun g g1 g2 g3 g4 g5 => ?_) (fun i i0 i1 ih g g1 g2 g3 g4 g5 => ?_) (Int.le_refl 0) (by omega) _ (fun x x1 x2 x3 x4 => bc_rn x2) (fun y y1 y2 => by rw [bc_rn (by decide)]) (bs_rr _ _ _) (by rw [bc_rn (by decide), M182]; rfl) (bs_Rlo_hR hlo)
          · refine rv_M_mean_40 (d := d + 11) ⟨fun _ => ?_, fun q => absurd q (by omega)⟩
            refine bc_m_tellsBy (d := d + 10) sr.1 (by omega) (by omega) (by omega) ?_
            have gf : ∀ x, x ≠ 156 → bc_upd (bc_upd (bc_upd g 156 3 (bc_w64 ((bs_mn (bs_B (h 157)) (h 182) a b).2.tdiv (bs_gd (bs_mn (bs_B (h 157)) (h 182) a b).2 b)))) 156 4 (bc_w64 (b.tdiv (bs_gd (bs_mn (bs_B (h 157)) (h 182) a b).2 b)))) 156 2 0 x = g x := fun x hx => by rw [bc_urow hx, bc_urow hx, bc_urow hx]
            have z56 : ∀ y, y ≠ 2 → y ≠ 3 → y ≠ 4 → y ≠ 43 → y ≠ 44 → bc_upd (bc_upd (bc_upd g 156 3 (bc_w64 ((bs_mn (bs_B (h 157)) (h 182) a b).2.tdiv (bs_gd (bs_mn (bs_B (h 157)) (h 182) a b).2 b)))) 156 4 (bc_w64 (b.tdiv (bs_gd (bs_mn (bs_B (h 157)) (h 182) a b).2 b)))) 156 2 0 156 y = h 156 y := fun y y1 y2 y3 y4 y5 => by
              rw [bc_uj y1, bc_uj y3, bc_uj y2, g2 y y4 y5]; exact s0 156 y (by decide) (by decide) (by omega) (by omega)
            have z0 : ∀ y, bc_upd (bc_upd (bc_upd g 156 3 (bc_w64 ((bs_mn (bs_B (h 157)) (h 182) a b).2.tdiv (bs_gd (bs_mn (bs_B (h 157)) (h 182) a b).2 b)))) 156 4 (bc_w64 (b.tdiv (bs_gd (bs_mn (bs_B (h 157)) (h 182) a b).2 b)))) 156 2 0 0 y = M0 0 y := fun y => by rw [gf 0 (by decide), g1 0 (by decide) (by decide) (by decide) (by decide)]
            have z157 : bc_upd (bc_upd (bc_upd g 156 3 (bc_w64 ((bs_mn (bs_B (h 157)) (h 182) a b).2.tdiv (bs_gd (bs_mn (bs_B (h 157)) (h 182) a b).2 b)))) 156 4 (bc_w64 (b.tdiv (bs_gd (bs_mn (bs_B (h 157)) (h 182) a b).2 b)))) 156 2 0 157 = bs_B (h 157) := by rw [gf 157 (by decide), g3]
            have zz : ∀ x, x ≠ 0 → x ≠ 12 → x ≠ 13 → ¬ (s ≤ x ∧ x < s + 20) → x ≠ 156 → x ≠ 157 → x ≠ 182 → x ≠ 183 → bc_upd (bc_upd (bc_upd g 156 3 (bc_w64 ((bs_mn (bs_B (h 157)) (h 182) a b).2.tdiv (bs_gd (bs_mn (bs_B (h 157)) (h 182) a b).2 b)))) 156 4 (bc_w64 (b.tdiv (bs_gd (bs_mn (bs_B (h 157)) (h 182) a b).2 b)))) 156 2 0 x = h x := fun x x0 x1 x2 x3 x4 x5 x6 x7 => by
              rw [gf x x4, g1 x x4 x5 x6 x7]; exact funext fun y => s0 x y x1 x2 x3 (by omega)
            have bn : ∀ k, k < 2640 → bs_B (h 157) k = h 157 k := fun k hk => bs_B_n (by omega)
            refine hK _ (bs_R_Z hR (fun x y k k1 k2 k3 k4 k5 k6 k7 k8 => ?_) ?_ ⟨?_, ?_⟩ ?_ ?_ ?_ ?_ ?_ ?_ ?_ ?_ ?_)
            · have kf := bs_kf k
              by_cases e0 : x = 0
              · subst e0; rw [z0]; have q3 := k3.resolve_left (fun w => w rfl); have q0 := kf.1.resolve_left (fun w => w rfl); exact s0 0 y (by decide) (by decide) (by omega) (Or.inr ⟨q0, q3.1, q3.2.1⟩)
              · by_cases e6 : x = 156
                · subst e6
                  have kk : ∀ u, (u = 43 ∨ u = 44) → y ≠ u := fun u hx e => by
                    subst e; clear k1 k2 k3 k4 kf; unfold bs_keep at k; omega
                  have q4 := k4.resolve_left (fun w => w rfl)
                  exact z56 y (kf.2.resolve_left (fun w => w rfl)) q4.1 q4.2.1 (kk 43 (Or.inl rfl)) (kk 44 (Or.inr rfl))
                · by_cases e7 : x = 157
                  · subst e7
                    rw [z157, bn]
                    clear k1 k2 k3 k4 kf; unfold bs_keep at k; omega
                  · have n12 : x ≠ 12 := fun e => by subst e; exact bs_nk (by omega) k
                    have n183 : x ≠ 183 := fun e => by subst e; exact bs_nk (by omega) k
                    have nsp : ¬ (s ≤ x ∧ x < s + 20) := fun e => by clear k1 k2 k3 k4 kf; unfold bs_keep at k; omega
                    rw [zz x e0 n12 k7 nsp e6 e7 k8 n183]
            · rw [z0, M00, bc_uu]
            · rw [z0, M01, bc_uj (by decide), bc_uj (by decide), bc_uu]
            · rw [z0, M02, bc_uj (by decide), bc_uu]
            · rw [z0, s0 0 3 (by decide) (by decide) (by omega) (by omega), z56 48 (by decide) (by decide) (by decide) (by decide) (by decide), zz 1 (by decide) (by decide) (by decide) (by omega) (by decide) (by decide) (by decide) (by decide), zz 184 (by decide) (by decide) (by decide) (by omega) (by decide) (by decide) (by decide) (by decide)]; exact hlv
            · rw [gf 13 (by decide), gf 182 (by decide), g1 13 (by decide) (by decide) (by decide) (by decide), g4, M13]; exact m2
            · rw [z157, bn _ (by omega)]
            · rw [z157, bn _ (by omega)]
            · rw [z157, bn _ (by omega)]
            · rw [z157, bn _ (by omega)]
            · rw [z157]
              exact bs_C_h (fun x y x0 x1 _ => by rw [zz x (by omega) (by omega) (by omega) (by omega) (by omega) (by omega) (by omega) (by omega)]) hCB
            · rw [z157]; exact hWB
            · rw [z157, bn _ (by omega)]; exact hck
          · have sri := bs_mn_r (bs_B (h 157)) (h 182) a (k := i) i0
            refine rv_M_mean_40 (d := d + 11) ⟨fun q => absurd q (by omega), fun _ => ?_⟩
            rw [bc_wi (x := a + i) (by omega) (by omega)]
            refine bc_m_lives (d := d) (by rw [b8]; omega) (by rw [b8]; omega) hlB pnB g3 g4 hA0 g5 (by omega) (by omega) (fun m3 hr3 hR3 hA3 => ?_)
            obtain ⟨t1, t2, t3, t4, t5, t6⟩ := hr3
            have w2 : (bs_lf (bs_B (h 157)) 301 (bs_B (h 157)) (bs_mn (bs_B (h 157)) (h 182) a i).1 (bs_g0 (a + i)) 0).1 2 = h 157 2 := by rw [hA3.2.2.2.2.2.1, bs_B_n (by omega)]
            refine bc_m_visitorsThat0 (d := d + 6) t3 hA3.1 ?_
            have br := bs_bset_ge (bs_turned (bs_lf (bs_B (h 157)) 301 (bs_B (h 157)) (bs_mn (bs_B (h 157)) (h 182) a i).1 (bs_g0 (a + i)) 0).1) (n := (bs_lf (bs_B (h 157)) 301 (bs_B (h 157)) (bs_mn (bs_B (h 157)) (h 182) a i).1 (bs_g0 (a + i)) 0).1 2) (by rw [w2]; omega) (by rw [w2]; omega)
            refine bc_m_bits br.1 br.2 ?_
            refine bc_m_restoresX t3 (by omega) (by omega) ?_
            have lr := bs_lb_r (bs_B (h 157)) (bs_lf (bs_B (h 157)) 301 (bs_B (h 157)) (bs_mn (bs_B (h 157)) (h 182) a i).1 (bs_g0 (a + i)) 0).1
            rw [bc_wl (x := (bs_mn (bs_B (h 157)) (h 182) a i).2 + bs_pc _) (by unfold bs_lb at lr; omega) (by unfold bs_lb at lr; omega), bc_wi (x := i + 1) (by omega) (by omega), bs_rs_B hA3]
            rw [bs_mn_s _ _ _ i0] at ih
            exact ih _ (fun x x1 x2 x3 x4 => by rw [bc_rn x2, t1 x x1 x2 x3 x4]; exact g1 x x1 x2 x3 x4) (fun y y1 y2 => by rw [bc_rn (by decide), t2 y y1 y2]; exact g2 y y1 y2) (bs_rr _ _ _) (by rw [bc_rn (by decide)]; exact t4) hR3
        · have sri := bs_mn_r (bs_B (h 157)) (h 182) a (k := i) i0
          refine rv_X_mean_31 (d := d + 11) ⟨fun q => absurd q (by omega), fun _ => ?_⟩
          rw [m1 0 (by decide) (by decide) (by omega), e12, e13]
          refine ⟨by omega, by omega, ?_⟩
          refine bc_c_copyOf (d := d + 10) (by omega) (fun m3 hp3 => ?_)
          have hC3 : bs_C m3 s (bs_B (h 157)) := bs_C_cpy hWB hp3 (bs_C_h (fun x y x0 x1 _ => by rw [m1 x (by omega) (by omega) (by omega)]) hCB)
          have m30 : ∀ x, x ≠ 12 → x ≠ 13 → ¬ (s ≤ x ∧ x < s + 20) → m3 x = h x := fun x x1 x2 x3 => by rw [← m1 x x1 x2 x3]; exact funext fun y => hp3.1 x y x3
          have m313 : m3 13 = m 13 := funext fun y => hp3.1 13 y (by omega)
          have hpp : p = 64 ∨ p = 70 := hpq.imp And.left And.left
          rw [m30 0 (by decide) (by decide) (by omega), e13, e14, bc_wi (x := a + i) (by omega) (by omega)]
          refine ⟨by omega, by omega, ?_⟩
          refine bc_c_run (d := d + 6) (h := m3) (B := bs_B (h 157)) (A := bs_B (h 157)) (R := (bs_mn (bs_B (h 157)) (h 182) a i).1) (by omega) hpp (by rw [b8]; omega) (by rw [b8]; omega) (by rw [m30 p (by omega) (by omega) (by omega), b8]; exact p2) (by rw [m30 (p + 1) (by omega) (by omega) (by omega), m30 (p + 2) (by omega) (by omega) (by omega), m30 (p + 3) (by omega) (by omega) (by omega), m30 (p + 4) (by omega) (by omega) (by omega), m30 (p + 5) (by omega) (by omega) (by omega)]; exact hlB) (by rw [m30 (p + 1) (by omega) (by omega) (by omega), m30 (p + 5) (by omega) (by omega) (by omega)]; exact pnB) hC3 hA0 (by rw [m313]; exact m2) (by omega) (by omega) (fun m4 hr4 hA4 => ?_)
          obtain ⟨l1, l2, l3, l4, l5, l6⟩ := hr4
          have m40 : ∀ x, x ≠ 12 → x ≠ 13 → ¬ (s ≤ x ∧ x < s + 20) → m4 x = h x := fun x x1 x2 x3 => by rw [l1 x x1 x2 (by omega) (by omega) (by omega) (by omega) (by omega)]; exact m30 x x1 x2 x3
          rw [m40 0 (by decide) (by decide) (by omega), e13]
          refine ⟨by omega, ?_⟩
          have w2 : (bs_lf (bs_B (h 157)) 301 (bs_B (h 157)) (bs_mn (bs_B (h 157)) (h 182) a i).1 (bs_g0 (a + i)) 0).1 2 = h 157 2 := by rw [hA4.2.2.2.2.2.1, bs_B_n (by omega)]
          refine bc_c_turnedOnes (d := d + 9) l3.2.2.2.2.2 l3.1.2.2.2.1 (by rw [w2]; omega) (by rw [w2]; omega) ?_
          have br := bs_bset_ge (bs_turned (bs_lf (bs_B (h 157)) 301 (bs_B (h 157)) (bs_mn (bs_B (h 157)) (h 182) a i).1 (bs_g0 (a + i)) 0).1) (n := (bs_lf (bs_B (h 157)) 301 (bs_B (h 157)) (bs_mn (bs_B (h 157)) (h 182) a i).1 (bs_g0 (a + i)) 0).1 2) (by rw [w2]; omega) (by rw [w2]; omega)
          refine bc_j_bitCount br.1 br.2 ?_
          have lr := bs_lb_r (bs_B (h 157)) (bs_lf (bs_B (h 157)) 301 (bs_B (h 157)) (bs_mn (bs_B (h 157)) (h 182) a i).1 (bs_g0 (a + i)) 0).1
          rw [bc_wi (x := (bs_mn (bs_B (h 157)) (h 182) a i).2 + bs_pc _) (by unfold bs_lb at lr; omega) (by unfold bs_lb at lr; omega), bc_wi (x := i + 1) (by omega) (by omega)]
          rw [bs_mn_s _ _ _ i0] at ih
          exact ih m4 m40 l5
      · have hP' : h 157 8 = -1 := by
          rcases hP.2 with q | q
          · exact q.2
          · omega
        refine hQ0 _ (bc_urow (by decide)) (bc_urow (by decide)) ?_
        refine rv_M_mean (d := d + 11) ⟨fun _ => ⟨fun _ => ?_, fun q => absurd zb q⟩, fun q => absurd za q⟩
        rw [bc_wi (x := a + b) (by omega) (by omega), bc_wi (x := a + b - 1) (by omega) (by omega), e157]
        exact ⟨fun _ => ⟨fun q => absurd hP' q, fun _ => hq _⟩, fun q => absurd q (by omega)⟩
    · refine hQ0 _ (bc_urow (by decide)) (bc_urow (by decide)) ?_
      refine rv_M_mean (d := d + 11) ⟨fun _ => ⟨fun _ => ?_, fun q => absurd zb q⟩, fun q => absurd za q⟩
      rw [bc_wi (x := a + b) (by omega) (by omega), bc_wi (x := a + b - 1) (by omega) (by omega)]
      exact ⟨fun q => absurd q (by omega), fun _ => hq _⟩
  · refine hQ0 _ (bc_urow (by decide)) (bc_urow (by decide)) ?_
    exact rv_M_mean (d := d + 11) ⟨fun _ => ⟨fun q => absurd q zb, fun _ => hq _⟩, fun q => absurd za q⟩
  · refine hQ0 _ (bc_urow (by decide)) (bc_urow (by decide)) ?_
    exact rv_M_mean (d := d + 11) ⟨fun q => absurd q za, fun _ => hq _⟩
