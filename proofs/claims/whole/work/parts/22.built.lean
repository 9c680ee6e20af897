theorem bc_strs : ∀ j, j < 2 → bc_bytS.getD j [] = (bc_str j).map Int32.ofInt ∧ bc_lenS.getD j 0 = (bc_str j).length ∧ (bc_str j).length < 1000 ∧ (bc_str j).all (fun b => decide (0 ≤ b ∧ b < 128)) = true
  | 0, _ => ⟨rfl, rfl, by decide +kernel, by decide +kernel⟩
  | 1, _ => ⟨rfl, rfl, by decide +kernel, by decide +kernel⟩
  | n + 2, h => absurd h (by omega)
theorem bc_getDm (L : List Int) (i : Nat) : (L.map Int32.ofInt).getD i 0 = Int32.ofInt (L.getD i 0) := by
  rw [List.getD_eq_getElem?_getD, List.getD_eq_getElem?_getD, List.getElem?_map]
  cases L[i]? <;> rfl
theorem bc_chI {j : Nat} (hj : j < 2) (i : Nat) : bc_i ((bc_str j).getD i 0) := by
  rw [List.getD_eq_getElem?_getD]
  cases h : (bc_str j)[i]? with
  | none => exact ⟨by decide, by decide⟩
  | some v =>
    have h1 := List.all_eq_true.mp (bc_strs j hj).2.2.2 v (List.mem_of_getElem? h)
    rw [decide_eq_true_eq] at h1
    exact ⟨by show _ ≤ v; omega, by show v < _; omega⟩
theorem bc_s8 {np j : Nat} {x : Int} (h : bc_vo np (.inr (.inr ((8, j), x)))) : j < 2 := by
  rcases h with h | h | h
  · dsimp only at h; omega
  · exact h.2
  · have := h.1; dsimp only at this; omega
section BCB
variable {g : bc_GG} {ph : Bool} {p : Program} {l : Launch} {e : Env} {R : Room} {s : State} {m : MethodId} {args : Array Value} {below : List Frame} {meth : Method} {c : Code} {Z : State → Prop} {k nq mc ms n0 : Nat} {ad0 : Nat → Nat} {idx np : Nat} {ls : bc_L} {st : bc_St} {h : bc_H}
theorem bc_o_ret0 (hC : bc_Cx g p s m args meth c k) (hRm : 8 ≤ R.frames ∧ 400 ≤ R.locals) (hi : (bc_code k)[idx]? = some (.ret 0)) (hx : bc_wp (bc_s1 ph (.ret 0) ls st h) (fun ls st h => bc_At g ph p l e R s m args below meth c Z k nq mc ms n0 ad0 (idx + 1) np ls st h)) : bc_At g ph p l e R s m args below meth c Z k nq mc ms n0 ad0 idx np ls st h := by
  simp only [bc_s1] at hx
  cases hcat : Nat.ble (bc_cat st) (bc_lim 0) with
  | false => rw [hcat] at hx; exact False.elim hx
  | true =>
    rw [hcat] at hx
    change bc_wp (bc_b0 ls st h) _ at hx
    unfold bc_b0 at hx
    split at hx
    · rename_i cc r st
      intro cells slots H locs ad lsc pcb hF h0 hR hS hL hV hA hp
      obtain ⟨j, len, wi, hd, hr⟩ := bc_rw0 hC.2.2.2.2.2.2.2.2 hi hp
      unfold bc_rel at hr
      simp only [Bool.and_eq_true, decide_eq_true_eq] at hr
      obtain ⟨⟨hn, rfl⟩, hm⟩ := hr
      split at hm
      · simp only [Bool.and_eq_true] at hm
        obtain ⟨⟨w1, w2⟩, w3⟩ := hm
        obtain ⟨i, rfl, hi1, hs, hc, -⟩ := bc_arr (g := g) (ad := ad) (h := h) (hV _ List.mem_cons_self) (by show 0 < 7; decide)
        rw [List.map_cons, hc]
        have hle : 1 + bc_cat st ≤ 8 := Nat.le_of_ble_eq_true hcat
        refine W.objInit hC.1 hC.2.1 hC.2.2.2.1 (hC.2.2.2.2.1 _ (bc_wd_in w1)) (hC.2.2.2.2.1 _ (bc_wd_in w2)) (hC.2.2.2.2.1 _ (bc_wd_in w3)) rfl (by rw [hC.2.2.1]; exact hL.1) rfl hd (by omega) ?_ ?_
        · show 2 * 0 + _ + 12 ≤ R.locals
          rw [bc_catsum]
          omega
        · exact hx cells slots H locs ad lsc (pcb + 3) hF h0 hR hS hL (fun v hv => hV v (List.mem_cons_of_mem _ hv)) hA hn
      · cases hm
    · exact False.elim hx
theorem bc_blk_R {ad : Nat → Nat} {H H1 : Heap} {i1 i2 : Nat} {sd dd n : Int} (hR : bc_R g ph ad h np H) (h1 : i1 < np) (h2 : i2 < np) (hk : bc_ck np (bc_sh i2) (bc_blk h i1 sd i2 dd n i2)) (hn : (bc_sh i2).1 ≠ 0)
    (hP : va_P (bc_D g) vwCl ((bc_ws g ad h np).set i2 (ad i2, bc_ce g ad (bc_sh i2) (bc_blk h i1 sd i2 dd n i2))) H1) (hD : va_D (bc_A g) ((bc_ws g ad h np).set i2 (ad i2, bc_ce g ad (bc_sh i2) (bc_blk h i1 sd i2 dd n i2)))) : bc_R g ph ad (bc_blk h i1 sd i2 dd n) np H1 :=
  bc_R_row hR h2 (fun _ ha => bc_blk_ne ha) hk (fun _ c hc => absurd (congrArg Prod.fst hc) hn) hP hD
theorem bc_nn {z : Int} {n : Nat} (h0 : 0 ≤ z) (hz : z ≤ (n : Int)) (hn : n < 100000) : ¬ Int32.ofInt z < 0 ∧ (Int32.ofInt z).toNatClampNeg = z.toNat := by
  have hi : bc_i z := ⟨by omega, by omega⟩
  constructor
  · intro q
    have := (bc_lti hi ⟨by decide, by decide⟩ (b := 0)).mp q
    omega
  · show (Int32.ofInt z).toInt.toNat = _
    rw [bc_ti hi]
theorem bc_o_ret1 (hC : bc_Cx g p s m args meth c k) (hRm : 8 ≤ R.frames ∧ 400 ≤ R.locals) (hi : (bc_code k)[idx]? = some (.ret 1)) (hx : bc_wp (bc_s1 ph (.ret 1) ls st h) (fun ls st h => bc_At g ph p l e R s m args below meth c Z k nq mc ms n0 ad0 (idx + 1) np ls st h)) : bc_At g ph p l e R s m args below meth c Z k nq mc ms n0 ad0 idx np ls st h := by
  simp only [bc_s1] at hx
  cases hcat : Nat.ble (bc_cat st) (bc_lim 1) with
  | false => rw [hcat] at hx; exact False.elim hx
  | true =>
    rw [hcat] at hx
    change bc_wp (bc_b1 ls st h) _ at hx
    unfold bc_b1 at hx
    split at hx
    · rename_i n d n2 r2 sd n1 r1 st
      intro cells slots H locs ad lsc pcb hF h0 hR hS hL hV hA hp
      obtain ⟨j, len, wi, hd, hr⟩ := bc_rw0 hC.2.2.2.2.2.2.2.2 hi hp
      unfold bc_rel at hr
      simp only [Bool.and_eq_true, decide_eq_true_eq] at hr
      obtain ⟨⟨hn, rfl⟩, hm⟩ := hr
      split at hm
      · simp only [Bool.and_eq_true] at hm
        obtain ⟨⟨⟨w1, w2⟩, w3⟩, w4⟩ := hm
        obtain ⟨⟨⟨g1, g2, g3⟩, g4, g5⟩, hx⟩ := hx
        obtain ⟨i2, rfl, hi2, hs2, hc2, hg2⟩ := bc_arr (g := g) (ad := ad) (h := h) (hV _ (List.mem_cons_of_mem _ (List.mem_cons_of_mem _ List.mem_cons_self))) (by show 1 < 7; decide)
        obtain ⟨i1, rfl, hi1, hs1, hc1, hg1⟩ := bc_arr (g := g) (ad := ad) (h := h) (hV _ (List.mem_cons_of_mem _ (List.mem_cons_of_mem _ (List.mem_cons_of_mem _ (List.mem_cons_of_mem _ List.mem_cons_self))))) (by show 1 < 7; decide)
        have z1 := bc_sh_small i1
        have z2 := bc_sh_small i2
        rw [hs1] at z1
        rw [hs2] at z2
        dsimp only at z1 z2
        obtain ⟨a1, a2⟩ := bc_nn g1 (n := n1) (by omega) z1
        obtain ⟨b1, b2⟩ := bc_nn g2 (n := n2) (by omega) z2
        obtain ⟨e1, e2⟩ := bc_nn g3 (n := n1) (by omega) z1
        have k1 := hR.2.2.1 i1 hi1
        have k2 := hR.2.2.1 i2 hi2
        rw [hs1] at k1
        rw [hs2] at k2
        simp only [List.map_cons]
        rw [hc1, hc2]
        refine va_copyi (ty := .int) hC.1 hC.2.1 (by rw [hC.2.2.1]; exact hL.1.symm) hC.2.2.2.1 (hC.2.2.2.2.1 _ (bc_wd_in w1)) (hC.2.2.2.2.1 _ (bc_wd_in w2)) (hC.2.2.2.2.1 _ (bc_wd_in w3)) (hC.2.2.2.2.1 _ (bc_wd_in w4)) hC.2.2.2.2.2.2.1 hR.1 hR.2.1 hS i1 i2 0 0 hg1 hg2 rfl rfl rfl a1 b1 e1 (by rw [a2, e2]; omega) (by rw [b2, e2]; omega) (fun _ _ => rfl) (by omega) ?_ hd (fun H1 locs1 hP hD hS1 => ?_)
        · rw [bc_catsum]
          have hle : 1 + (1 + (1 + (1 + (1 + bc_cat st)))) ≤ 13 := Nat.le_of_ble_eq_true hcat
          have : nativeFrameWords "java/lang/System" "arraycopy" 5 ≤ 300 := by decide +kernel
          omega
        · rw [a2, b2, e2, ← bc_cpy32 h i1 i2 g1 g2 g3] at hP hD
          refine hx cells slots H1 locs1 ad lsc (pcb + 3) hF h0 (bc_blk_R hR hi1 hi2 ?_ (by rw [hs2]; show 1 ≠ 0; decide) (by rw [hs2]; exact hP) (by rw [hs2]; exact hD)) hS1 hL (fun v hv => hV v (by simp [hv])) hA hn
          rw [hs2]
          intro j hj
          rw [bc_blk_at]
          split
          · rename_i q
            have q2 := k1 (sd + ((j : Int) - d)).toNat (by omega)
            rw [show (((sd + ((j : Int) - d)).toNat : Nat) : Int) = sd + ((j : Int) - d) by omega] at q2
            exact q2
          · exact k2 j hj
      · cases hm
    · rename_i n d n2 r2 sd n1 r1 st
      intro cells slots H locs ad lsc pcb hF h0 hR hS hL hV hA hp
      obtain ⟨j, len, wi, hd, hr⟩ := bc_rw0 hC.2.2.2.2.2.2.2.2 hi hp
      unfold bc_rel at hr
      simp only [Bool.and_eq_true, decide_eq_true_eq] at hr
      obtain ⟨⟨hn, rfl⟩, hm⟩ := hr
      split at hm
      · simp only [Bool.and_eq_true] at hm
        obtain ⟨⟨⟨w1, w2⟩, w3⟩, w4⟩ := hm
        obtain ⟨⟨⟨g1, g2, g3⟩, g4, g5⟩, hx⟩ := hx
        obtain ⟨i2, rfl, hi2, hs2, hc2, hg2⟩ := bc_arr (g := g) (ad := ad) (h := h) (hV _ (List.mem_cons_of_mem _ (List.mem_cons_of_mem _ List.mem_cons_self))) (by show 3 < 7; decide)
        obtain ⟨i1, rfl, hi1, hs1, hc1, hg1⟩ := bc_arr (g := g) (ad := ad) (h := h) (hV _ (List.mem_cons_of_mem _ (List.mem_cons_of_mem _ (List.mem_cons_of_mem _ (List.mem_cons_of_mem _ List.mem_cons_self))))) (by show 3 < 7; decide)
        have z1 := bc_sh_small i1
        have z2 := bc_sh_small i2
        rw [hs1] at z1
        rw [hs2] at z2
        dsimp only at z1 z2
        obtain ⟨a1, a2⟩ := bc_nn g1 (n := n1) (by omega) z1
        obtain ⟨b1, b2⟩ := bc_nn g2 (n := n2) (by omega) z2
        obtain ⟨e1, e2⟩ := bc_nn g3 (n := n1) (by omega) z1
        have k1 := hR.2.2.1 i1 hi1
        have k2 := hR.2.2.1 i2 hi2
        rw [hs1] at k1
        rw [hs2] at k2
        simp only [List.map_cons]
        rw [hc1, hc2]
        refine va_copyl (ty := .long) hC.1 hC.2.1 (by rw [hC.2.2.1]; exact hL.1.symm) hC.2.2.2.1 (hC.2.2.2.2.1 _ (bc_wd_in w1)) (hC.2.2.2.2.1 _ (bc_wd_in w2)) (hC.2.2.2.2.1 _ (bc_wd_in w3)) (hC.2.2.2.2.1 _ (bc_wd_in w4)) hC.2.2.2.2.2.2.1 hR.1 hR.2.1 hS i1 i2 2 2 hg1 hg2 rfl rfl rfl a1 b1 e1 (by rw [a2, e2]; omega) (by rw [b2, e2]; omega) (fun _ _ => rfl) (by omega) ?_ hd (fun H1 locs1 hP hD hS1 => ?_)
        · rw [bc_catsum]
          have hle : 1 + (1 + (1 + (1 + (1 + bc_cat st)))) ≤ 13 := Nat.le_of_ble_eq_true hcat
          have : nativeFrameWords "java/lang/System" "arraycopy" 5 ≤ 300 := by decide +kernel
          omega
        · rw [a2, b2, e2, ← bc_cpy64 h i1 i2 g1 g2 g3] at hP hD
          refine hx cells slots H1 locs1 ad lsc (pcb + 3) hF h0 (bc_blk_R hR hi1 hi2 ?_ (by rw [hs2]; show 3 ≠ 0; decide) (by rw [hs2]; exact hP) (by rw [hs2]; exact hD)) hS1 hL (fun v hv => hV v (by simp [hv])) hA hn
          rw [hs2]
          intro j hj
          rw [bc_blk_at]
          split
          · rename_i q
            have q2 := k1 (sd + ((j : Int) - d)).toNat (by omega)
            rw [show (((sd + ((j : Int) - d)).toNat : Nat) : Int) = sd + ((j : Int) - d) by omega] at q2
            exact q2
          · exact k2 j hj
      · cases hm
    · exact False.elim hx
theorem bc_PV {H : Heap} {locs : List Loc} {j : Nat} (hj : j < 2) (hX : bc_X g s s.heap) (hS : va_S (bc_A g) s.heap H locs) (av : List Value) : PreV s H "java/lang/String" (bc_aK g j) (va_Pc (.ref (bc_aK g j) :: av) (fun U => bc_X g U U.heap)) av :=
  ⟨fun a U g2 mk q => ⟨q.1, bc_X_same rfl q.2⟩, vk_recv hX.2.2.2.2.1 hj hS, fun U hU hW => ⟨rfl, by show bc_X g U U.heap; rw [hU]; exact bc_X_warm hW (bc_X_S hX hS)⟩⟩
theorem bc_o_ret2 (hC : bc_Cx g p s m args meth c k) (hRm : 8 ≤ R.frames ∧ 400 ≤ R.locals) (hi : (bc_code k)[idx]? = some (.ret 2)) (hx : bc_wp (bc_s1 ph (.ret 2) ls st h) (fun ls st h => bc_At g ph p l e R s m args below meth c Z k nq mc ms n0 ad0 (idx + 1) np ls st h)) (hcs : mc ≤ R.cells ∧ ms ≤ R.slots) : bc_At g ph p l e R s m args below meth c Z k nq mc ms n0 ad0 idx np ls st h := by
  simp only [bc_s1] at hx
  cases hcat : Nat.ble (bc_cat st) (bc_lim 2) with
  | false => rw [hcat] at hx; exact False.elim hx
  | true =>
    rw [hcat] at hx
    change bc_wp (bc_b2 ls st h) _ at hx
    unfold bc_b2 at hx
    split at hx
    · rename_i j r st
      intro cells slots H locs ad lsc pcb hF h0 hR hS hL hV hA hp
      obtain ⟨_, len, wi, hd, hr⟩ := bc_rw0 hC.2.2.2.2.2.2.2.2 hi hp
      unfold bc_rel at hr
      simp only [Bool.and_eq_true, decide_eq_true_eq] at hr
      obtain ⟨⟨hn, rfl⟩, hm⟩ := hr
      split at hm
      · have hj := bc_s8 (hV _ List.mem_cons_self)
        have hX := hC.2.2.2.2.2.2.2.1
        have hts := hC.2.2.2.2.1
        obtain ⟨s1, s2, s3, s4⟩ := bc_strs j hj
        have hle : 1 + bc_cat st ≤ 8 := Nat.le_of_ble_eq_true hcat
        refine W.callR (r := Int32.ofNat (bc_lenS.getD j 0)) (W.runV (As := []) (rest := st.map (bc_cv g ad)) (own := (bc_mi k).1) (C := "java/lang/String") (n := 0) ⟨hC.1, hC.2.1, hC.2.2.1, hC.2.2.2.1, hts⟩ (bc_jLen l g hj) ⟨callB_of (own := (bc_mi k).1) 0 hts (bc_goodC bc_m59) rfl rfl rfl (hts _ bc_m4) (hts _ (bc_wd_in hm)) (by decide +kernel) ⟨by show 1 + 1 ≤ _; omega, by show 8 + (1 + 11) + 40 ≤ _; omega⟩, hts _ bc_m57, hts _ bc_m58⟩ (bc_PV hj hX hS []) rfl rfl hL.1 rfl (lv_room (by rw [bc_catsum]; omega)) hd ⟨by omega, by omega⟩) ?_
        rw [s2, ← Int32.ofInt_eq_ofNat]
        exact hx cells slots H locs ad lsc (pcb + 3) hF h0 hR hS hL (bc_stcons (v := .inl ((bc_str j).length : Int)) ⟨by omega, by omega⟩ (fun v hv => hV v (List.mem_cons_of_mem _ hv))) hA hn
      · cases hm
    · exact False.elim hx
theorem bc_o_ret3 (hC : bc_Cx g p s m args meth c k) (hRm : 8 ≤ R.frames ∧ 400 ≤ R.locals) (hi : (bc_code k)[idx]? = some (.ret 3)) (hx : bc_wp (bc_s1 ph (.ret 3) ls st h) (fun ls st h => bc_At g ph p l e R s m args below meth c Z k nq mc ms n0 ad0 (idx + 1) np ls st h)) (hcs : mc ≤ R.cells ∧ ms ≤ R.slots) : bc_At g ph p l e R s m args below meth c Z k nq mc ms n0 ad0 idx np ls st h := by
  simp only [bc_s1] at hx
  cases hcat : Nat.ble (bc_cat st) (bc_lim 3) with
  | false => rw [hcat] at hx; exact False.elim hx
  | true =>
    rw [hcat] at hx
    change bc_wp (bc_b3 ls st h) _ at hx
    unfold bc_b3 at hx
    split at hx
    · rename_i i j r st
      intro cells slots H locs ad lsc pcb hF h0 hR hS hL hV hA hp
      obtain ⟨_, len, wi, hd, hr⟩ := bc_rw0 hC.2.2.2.2.2.2.2.2 hi hp
      unfold bc_rel at hr
      simp only [Bool.and_eq_true, decide_eq_true_eq] at hr
      obtain ⟨⟨hn, rfl⟩, hm⟩ := hr
      split at hm
      · have hj := bc_s8 (hV _ (List.mem_cons_of_mem _ List.mem_cons_self))
        have hX := hC.2.2.2.2.2.2.2.1
        have hts := hC.2.2.2.2.1
        obtain ⟨s1, s2, s3, s4⟩ := bc_strs j hj
        have hle : 1 + (1 + bc_cat st) ≤ 8 := Nat.le_of_ble_eq_true hcat
        obtain ⟨⟨i0, i1⟩, hx⟩ := hx
        have hiN : i.toNat < bc_lenS.getD j 0 := by rw [s2]; omega
        have hii : Int32.ofInt i = nI i.toNat := by
          unfold nI
          rw [← Int32.ofInt_eq_ofNat]
          congr 1
          omega
        have kk := hx cells slots H locs ad lsc (pcb + 3) hF h0 hR hS hL (bc_stcons (v := .inl ((bc_str j).getD i.toNat 0)) (bc_chI hj _) (fun v hv => hV v (List.mem_cons_of_mem _ (List.mem_cons_of_mem _ hv)))) hA hn
        have he : List.map (bc_cv g ad) (.inl i :: .inr (.inr ((8, j), r)) :: st) = .int (nI i.toNat) :: .ref (bc_aK g j) :: st.map (bc_cv g ad) := by
          show Value.int (Int32.ofInt i) :: _ = _
          rw [hii]
          rfl
        rw [he]
        refine W.callR (r := (bc_bytS.getD j []).getD i.toNat 0) (W.runV (As := [.int (nI i.toNat)]) (rest := st.map (bc_cv g ad)) (own := (bc_mi k).1) (C := "java/lang/String") (n := 1) ⟨hC.1, hC.2.1, hC.2.2.1, hC.2.2.2.1, hts⟩ (bc_jChar l g hj hiN) ⟨callB_of (own := (bc_mi k).1) 1 hts (bc_goodC bc_m69) rfl rfl rfl (hts _ bc_m4) (hts _ (bc_wd_in hm)) (by decide +kernel) ⟨by show 3 + 1 ≤ _; omega, by show 8 + (2 + 11) + 120 ≤ _; omega⟩, hts _ bc_m67, hts _ bc_m68⟩ (bc_PV hj hX hS [.int (nI i.toNat)]) rfl rfl hL.1 rfl (lv_room (by rw [bc_catsum]; omega)) hd ⟨by omega, by omega⟩) ?_
        rw [s1, bc_getDm]
        exact kk
      · cases hm
    · exact False.elim hx
theorem bc_o_ret5 (hC : bc_Cx g p s m args meth c k) (hRm : 8 ≤ R.frames ∧ 400 ≤ R.locals) (hi : (bc_code k)[idx]? = some (.ret 5)) (hx : bc_wp (bc_s1 ph (.ret 5) ls st h) (fun ls st h => bc_At g ph p l e R s m args below meth c Z k nq mc ms n0 ad0 (idx + 1) np ls st h)) (hcs : mc ≤ R.cells ∧ ms ≤ R.slots) : bc_At g ph p l e R s m args below meth c Z k nq mc ms n0 ad0 idx np ls st h := by
  simp only [bc_s1] at hx
  cases hcat : Nat.ble (bc_cat st) (bc_lim 5) with
  | false => rw [hcat] at hx; exact False.elim hx
  | true =>
    rw [hcat] at hx
    change bc_wp (bc_b5 ls st h) _ at hx
    unfold bc_b5 at hx
    split at hx
    · rename_i b a st
      intro cells slots H locs ad lsc pcb hF h0 hR hS hL hV hA hp
      obtain ⟨j, len, wi, hd, hr⟩ := bc_rw0 hC.2.2.2.2.2.2.2.2 hi hp
      unfold bc_rel at hr
      simp only [Bool.and_eq_true, decide_eq_true_eq] at hr
      obtain ⟨⟨hn, rfl⟩, hm⟩ := hr
      split at hm
      · simp only [Bool.and_eq_true] at hm
        obtain ⟨⟨⟨w1, w2⟩, w3⟩, w4⟩ := hm
        have vb : bc_i b := hV (.inl b) List.mem_cons_self
        have va : bc_i a := hV (.inl a) (List.mem_cons_of_mem _ List.mem_cons_self)
        have q : Int32.ofInt (if a < b then b else a) = if Int32.ofInt a < Int32.ofInt b then Int32.ofInt b else Int32.ofInt a := by
          by_cases e : a < b
          · rw [if_pos e, if_pos ((bc_lti va vb).mpr e)]
          · rw [if_neg e, if_neg (fun z => e ((bc_lti va vb).mp z))]
        have kk : W p l e R s m args below meth c H locs cells slots Z (F0 m (pcb + 3) lsc (.int (Int32.ofInt (if a < b then b else a)) :: st.map (bc_cv g ad))) := hx cells slots H locs ad lsc (pcb + 3) hF h0 hR hS hL (bc_stcons (v := .inl (if a < b then b else a)) (by show bc_i _; split <;> assumption) (fun v hv => hV v (List.mem_cons_of_mem _ (List.mem_cons_of_mem _ hv)))) hA hn
        rw [q] at kk
        have hle : 1 + (1 + bc_cat st) ≤ 10 := Nat.le_of_ble_eq_true hcat
        exact va_mmax hC.1 hC.2.1 (by rw [hC.2.2.1]; exact hL.1.symm) hC.2.2.2.1 (hC.2.2.2.2.1 _ (bc_wd_in w1)) (hC.2.2.2.2.1 _ (bc_wd_in w2)) (hC.2.2.2.2.1 _ (bc_wd_in w3)) (hC.2.2.2.2.1 _ (bc_wd_in w4)) (by omega) (by rw [bc_catsum]; omega) (by omega) (by omega) hd kk
      · cases hm
    · exact False.elim hx
theorem bc_o_ret6 (hC : bc_Cx g p s m args meth c k) (hRm : 8 ≤ R.frames ∧ 400 ≤ R.locals) (hi : (bc_code k)[idx]? = some (.ret 6)) (hx : bc_wp (bc_s1 ph (.ret 6) ls st h) (fun ls st h => bc_At g ph p l e R s m args below meth c Z k nq mc ms n0 ad0 (idx + 1) np ls st h)) (hcs : mc ≤ R.cells ∧ ms ≤ R.slots) : bc_At g ph p l e R s m args below meth c Z k nq mc ms n0 ad0 idx np ls st h := by
  simp only [bc_s1] at hx
  cases hcat : Nat.ble (bc_cat st) (bc_lim 6) with
  | false => rw [hcat] at hx; exact False.elim hx
  | true =>
    rw [hcat] at hx
    change bc_wp (bc_b6 ls st h) _ at hx
    unfold bc_b6 at hx
    split at hx
    · rename_i b a st
      intro cells slots H locs ad lsc pcb hF h0 hR hS hL hV hA hp
      obtain ⟨j, len, wi, hd, hr⟩ := bc_rw0 hC.2.2.2.2.2.2.2.2 hi hp
      unfold bc_rel at hr
      simp only [Bool.and_eq_true, decide_eq_true_eq] at hr
      obtain ⟨⟨hn, rfl⟩, hm⟩ := hr
      split at hm
      · simp only [Bool.and_eq_true] at hm
        obtain ⟨⟨⟨w1, w2⟩, w3⟩, w4⟩ := hm
        have vb : bc_i b := hV (.inl b) List.mem_cons_self
        have va : bc_i a := hV (.inl a) (List.mem_cons_of_mem _ List.mem_cons_self)
        have q : Int32.ofInt (if b < a then b else a) = if Int32.ofInt b < Int32.ofInt a then Int32.ofInt b else Int32.ofInt a := by
          by_cases e : b < a
          · rw [if_pos e, if_pos ((bc_lti vb va).mpr e)]
          · rw [if_neg e, if_neg (fun z => e ((bc_lti vb va).mp z))]
        have kk : W p l e R s m args below meth c H locs cells slots Z (F0 m (pcb + 3) lsc (.int (Int32.ofInt (if b < a then b else a)) :: st.map (bc_cv g ad))) := hx cells slots H locs ad lsc (pcb + 3) hF h0 hR hS hL (bc_stcons (v := .inl (if b < a then b else a)) (by show bc_i _; split <;> assumption) (fun v hv => hV v (List.mem_cons_of_mem _ (List.mem_cons_of_mem _ hv)))) hA hn
        rw [q] at kk
        have hle : 1 + (1 + bc_cat st) ≤ 10 := Nat.le_of_ble_eq_true hcat
        exact va_mmin hC.1 hC.2.1 (by rw [hC.2.2.1]; exact hL.1.symm) hC.2.2.2.1 (hC.2.2.2.2.1 _ (bc_wd_in w1)) (hC.2.2.2.2.1 _ (bc_wd_in w2)) (hC.2.2.2.2.1 _ (bc_wd_in w3)) (hC.2.2.2.2.1 _ (bc_wd_in w4)) (by omega) (by rw [bc_catsum]; omega) (by omega) (by omega) hd kk
      · cases hm
    · exact False.elim hx
theorem bc_o_ret4 (hC : bc_Cx g p s m args meth c k) (hRm : 8 ≤ R.frames ∧ 400 ≤ R.locals) (hi : (bc_code k)[idx]? = some (.ret 4)) (hx : bc_wp (bc_s1 ph (.ret 4) ls st h) (fun ls st h => bc_At g ph p l e R s m args below meth c Z k nq mc ms n0 ad0 (idx + 1) np ls st h)) (hcs : mc ≤ R.cells ∧ ms ≤ R.slots) : bc_At g ph p l e R s m args below meth c Z k nq mc ms n0 ad0 idx np ls st h := by
  simp only [bc_s1] at hx
  cases hcat : Nat.ble (bc_cat st) (bc_lim 4) with
  | false => rw [hcat] at hx; exact False.elim hx
  | true =>
    rw [hcat] at hx
    change bc_wp (bc_b4 ls st h) _ at hx
    unfold bc_b4 at hx
    split at hx
    · rename_i a st
      intro cells slots H locs ad lsc pcb hF h0 hR hS hL hV hA hp
      obtain ⟨j, len, wi, hd, hr⟩ := bc_rw0 hC.2.2.2.2.2.2.2.2 hi hp
      unfold bc_rel at hr
      simp only [Bool.and_eq_true, decide_eq_true_eq] at hr
      obtain ⟨⟨hn, rfl⟩, hm⟩ := hr
      split at hm
      · simp only [Bool.and_eq_true] at hm
        obtain ⟨⟨⟨w1, w2⟩, w3⟩, w4⟩ := hm
        have va : bc_i a := hV (.inl a) List.mem_cons_self
        have v0 : bc_i 0 := ⟨by decide, by decide⟩
        have q : Int32.ofInt (if 0 ≤ a then a else bc_w32 (0 - a)) = if 0 ≤ Int32.ofInt a then Int32.ofInt a else 0 - Int32.ofInt a := by
          by_cases e : 0 ≤ a
          · have e2 : (0 : Int32) ≤ Int32.ofInt a := (bc_lei v0 va).mpr e
            rw [if_pos e, if_pos e2]
          · have e2 : ¬ (0 : Int32) ≤ Int32.ofInt a := fun z => e ((bc_lei v0 va).mp z)
            rw [if_neg e, if_neg e2, bc_o32, Int32.ofInt_sub]
            rfl
        have kk : W p l e R s m args below meth c H locs cells slots Z (F0 m (pcb + 3) lsc (.int (Int32.ofInt (if 0 ≤ a then a else bc_w32 (0 - a))) :: st.map (bc_cv g ad))) := hx cells slots H locs ad lsc (pcb + 3) hF h0 hR hS hL (bc_stcons (v := .inl (if 0 ≤ a then a else bc_w32 (0 - a))) (by show bc_i _; split; assumption; exact bc_w32_i _) (fun v hv => hV v (List.mem_cons_of_mem _ hv))) hA hn
        rw [q] at kk
        have hle : 1 + bc_cat st ≤ 10 := Nat.le_of_ble_eq_true hcat
        exact va_mabs hC.1 hC.2.1 (by rw [hC.2.2.1]; exact hL.1.symm) hC.2.2.2.1 (hC.2.2.2.2.1 _ (bc_wd_in w1)) (hC.2.2.2.2.1 _ (bc_wd_in w2)) (hC.2.2.2.2.1 _ (bc_wd_in w3)) (hC.2.2.2.2.1 _ (bc_wd_in w4)) (by omega) (by rw [bc_catsum]; omega) (by omega) (by omega) hd kk
      · cases hm
    · exact False.elim hx
end BCB
