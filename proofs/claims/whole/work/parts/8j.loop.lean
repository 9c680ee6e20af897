/-! ===== the loop over a cave's parts ===== -/
def bs_Ce1 (D : Nat) (T : Int → Int) (n c : Int) (m m' : bc_H) : Prop := ∀ (g0 g : bc_H) (K : Int → bc_H → Prop), bs_SM T n c g0 m g → (∀ g', bs_SM T n c g0 m' g' → bl_M_cave_31 (D + 7) 0 g' (bc_I K)) → bl_M_cave_17 (D + 7) 1 g (bc_I K)
def bs_Ce0 (D : Nat) (T : Int → Int) (n c : Int) (m m' : bc_H) : Prop := ∀ (g0 g : bc_H) (K : Int → bc_H → Prop), bs_SM T n c g0 m g → (∀ g', bs_SQ g0 m' g' → bf_M_taken (D + 6) (g' 157 2) g' (bc_I K)) → bl_M_cave_17 (D + 7) 1 g (bc_I K)
theorem bs_To_ne {T : Int → Int} {n p : Int} {m : bc_H} (h : bs_To T n p m) (z : m 6 12 ≠ 0) : m 6 11 < m 6 10 := by
  obtain ⟨_, _, a | ⟨_, _, a | a | a⟩⟩ := h
  · exact absurd a.2.2.1 z
  · exact a.2.2.1
  · exact a.2.2.2.1
  · have := a.2.2.1; omega
theorem bs_Ce1_c {D : Nat} {T : Int → Int} {n c : Int} {m m1 m' : bc_H} (z : m 6 12 ≠ 0) (co : bs_Co1 T n c m m1 (bs_CP D)) (ce : bs_Ce1 D T n c m1 m') : bs_Ce1 D T n c m m' := fun g0 g K sm k => by
  have t := sm.2.2.2.1.2.1.2.2
  have u := (bs_tmk_i sm.2.2.2.1.2.2.2.2.1 sm.2.2.2.1.2.2.2.2.2).1
  refine rv_M_cave_17 (d := D + 6) ⟨fun q => absurd q (by decide), fun _ => ⟨fun q => absurd (u.1 (t.symm.trans q)) z, fun _ => ?_⟩⟩
  refine co g0 g _ _ sm (fun g' sm' => ?_)
  exact ce g0 g' K sm' k
theorem bs_Ce0_c {D : Nat} {T : Int → Int} {n c : Int} {m m1 m' : bc_H} (z : m 6 12 ≠ 0) (co : bs_Co1 T n c m m1 (bs_CP D)) (ce : bs_Ce0 D T n c m1 m') : bs_Ce0 D T n c m m' := fun g0 g K sm k => by
  have t := sm.2.2.2.1.2.1.2.2
  have u := (bs_tmk_i sm.2.2.2.1.2.2.2.2.1 sm.2.2.2.1.2.2.2.2.2).1
  refine rv_M_cave_17 (d := D + 6) ⟨fun q => absurd q (by decide), fun _ => ⟨fun q => absurd (u.1 (t.symm.trans q)) z, fun _ => ?_⟩⟩
  refine co g0 g _ _ sm (fun g' sm' => ?_)
  exact ce g0 g' K sm' k
theorem bs_Ce0_f {D : Nat} {T : Int → Int} {n c : Int} {h m m' : bc_H} (z : m 6 12 ≠ 0) (pf : bs_PF h c m') (co : bs_Co0 T n c m m' (bs_CP D)) : bs_Ce0 D T n c m m' := fun g0 g K sm k => by
  have t := sm.2.2.2.1.2.1.2.2
  have u := (bs_tmk_i sm.2.2.2.1.2.2.2.2.1 sm.2.2.2.1.2.2.2.2.2).1
  refine rv_M_cave_17 (d := D + 6) ⟨fun q => absurd q (by decide), fun _ => ⟨fun q => absurd (u.1 (t.symm.trans q)) z, fun _ => ?_⟩⟩
  refine co g0 g _ _ sm (fun g' sq => ?_)
  have e := sq.2.2.2.1.1
  have p := pf.1.2
  exact rv_M_cave_17 (d := D + 6) ⟨fun _ => ⟨fun _ => k g' sq, fun q => absurd q (by omega)⟩, fun q => absurd rfl q⟩
theorem bs_Ce1_e {D : Nat} {T : Int → Int} {n c : Int} {m : bc_H} (z : m 6 12 = 0) : bs_Ce1 D T n c m m := fun g0 g K sm k => by
  have t := sm.2.2.2.1.2.1.2.2
  have u := (bs_tmk_i sm.2.2.2.1.2.2.2.2.1 sm.2.2.2.1.2.2.2.2.2).1
  exact rv_M_cave_17 (d := D + 6) ⟨fun q => absurd q (by decide), fun _ => ⟨fun _ => ⟨fun q => absurd sm.2.2.1.2.2 q, fun _ => k g sm⟩, fun q => absurd (t.trans (u.2 z)) q⟩⟩
theorem bs_caveL {d D : Nat} {T : Int → Int} {n c : Int} {h : bc_H} {P N : bc_H → Prop} (hc : 24 ≤ c ∧ c ≤ 44) (n0 : 0 ≤ n ∧ n ≤ 900) (hb : bs_tb8 T n) : ∀ (f : Nat) (m : bc_H) (i : Int), n - m 6 11 < f → 0 ≤ i → i ≤ m 6 11 → bs_PS h T n c m → (∀ m', bs_PS h T n c m' → bs_Ce1 D T n c m m' → (0 ≤ m' 9 1) ∧ bf_Walls_measureDistances (d + 4) (m' 9 1 + 3) m' (bc_U P)) → (∀ m', bs_PF h c m' → bs_Ce0 D T n c m m' → N m') → bl_Reader_takeCave_18 (d + 5) n i m (bc_B P N)
  | 0, m, i, hf, _, _, ps, _, _ => by
    have r := bs_PT_r ps.1
    omega
  | f + 1, m, i, hf, i0, i1, ps, hP, hN => by
    have r := bs_PT_r ps.1
    have wi : bc_w32 (i + 1) = i + 1 := bc_wi (by omega) (by omega)
    refine rv_Reader_takeCave_18 (d := d + 4) ⟨fun q => absurd q (by omega), fun _ => ⟨fun z => ?_, fun z => hP m ps (bs_Ce1_e z)⟩⟩
    rw [wi]
    obtain ⟨p, p0, tt⟩ := ps.1.2.2.2
    have ne := bs_To_ne tt z
    refine bs_P_part (d := d) (D := D) hc n0 hb ps (fun m1 ps1 pr co => ?_) (fun m' pf co => hN m' pf (bs_Ce0_f z pf co))
    exact bs_caveL hc n0 hb f m1 (i + 1) (by omega) (by omega) (by omega) ps1 (fun m' ps' ce => hP m' ps' (bs_Ce1_c z co ce)) (fun m' pf ce => hN m' pf (bs_Ce0_c z co ce))
