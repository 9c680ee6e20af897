theorem bc_cf_i {g : bc_GG} (ad : Nat → Nat) {ft : Nat × Nat} (h : ft.1 = 10 ∨ ft.1 = 12) (x : Int) : bc_cf ad ft x = bc_cv g ad (.inl x) := by
  unfold bc_cf
  rcases h with h | h <;> rw [h] <;> rfl
theorem bc_cf_j {g : bc_GG} (ad : Nat → Nat) {ft : Nat × Nat} (h : ft.1 = 11) (x : Int) : bc_cf ad ft x = bc_cv g ad (.inr (.inl x)) := by
  unfold bc_cf
  rw [h]
  rfl
theorem bc_cv_r {g : bc_GG} (ad : Nat → Nat) {sh : Nat × Nat} (h : sh.1 < 7) (x : Int) : bc_cv g ad (.inr (.inr (sh, x))) = .ref (ad x.toNat) := by
  show (if sh.1 = 7 then Value.ref (bc_b g) else if sh.1 = 8 then Value.ref (bc_aK g sh.2) else Value.ref (ad x.toNat)) = _
  rw [if_neg (by omega), if_neg (by omega)]
theorem bc_rr_pos (ad : Nat → Nat) {x : Int} (h : 0 ≤ x) : bc_rr ad x = some (ad x.toNat) := by
  unfold bc_rr
  rw [if_neg (by omega)]
theorem bc_cf_r {g : bc_GG} (ad : Nat → Nat) {ft : Nat × Nat} (h : ft.1 < 7) {x : Int} (hx : 0 ≤ x) : bc_cf ad ft x = bc_cv g ad (.inr (.inr (ft, x))) := by
  rw [bc_cv_r ad h]
  obtain ⟨a, b⟩ := ft
  unfold bc_cf
  dsimp only at h ⊢
  split
  · omega
  · omega
  · omega
  · rw [bc_rr_pos ad hx]; rfl
theorem bc_fk_i {np : Nat} {ft : Nat × Nat} (h : ft.1 = 10) {x : Int} : bc_fk np ft x ↔ bc_i x := by unfold bc_fk; rw [h]; exact Iff.rfl
theorem bc_fk_j {np : Nat} {ft : Nat × Nat} (h : ft.1 = 11) {x : Int} : bc_fk np ft x ↔ bc_j x := by unfold bc_fk; rw [h]; exact Iff.rfl
theorem bc_fk_z {np : Nat} {ft : Nat × Nat} (h : ft.1 = 12) {x : Int} : bc_fk np ft x ↔ (x = 0 ∨ x = 1) := by unfold bc_fk; rw [h]; exact Iff.rfl
theorem bc_fk_r {np : Nat} {ft : Nat × Nat} (h : ft.1 < 7) {x : Int} : bc_fk np ft x ↔ (0 ≤ x → x.toNat < np ∧ bc_sh x.toNat = ft) := by
  obtain ⟨a, b⟩ := ft
  dsimp only at h
  unfold bc_fk
  dsimp only
  split
  · omega
  · omega
  · omega
  · exact ⟨fun q => q.2, fun q => ⟨h, q⟩⟩
theorem bc_fk_k {np : Nat} {ft : Nat × Nat} {x : Int} (h : bc_fk np ft x) : ft.1 = 10 ∨ ft.1 = 11 ∨ ft.1 = 12 ∨ ft.1 < 7 := by
  unfold bc_fk at h
  split at h
  · rename_i q; exact Or.inl q
  · rename_i q; exact Or.inr (Or.inl q)
  · rename_i q; exact Or.inr (Or.inr (Or.inl q))
  · exact Or.inr (Or.inr (Or.inr h.1))
/-- a reference of the world -/
theorem bc_vo_r {np : Nat} {sh : Nat × Nat} {r : Int} (h : bc_vo np (.inr (.inr (sh, r)))) (hs : sh.1 < 7) : ∃ i : Nat, r = (i : Int) ∧ i < np ∧ bc_sh i = sh := by
  rcases h with h | h | ⟨-, h2, h3, h4⟩
  · omega
  · omega
  · exact ⟨r.toNat, by omega, h3, h4⟩
section BCF
variable {g : bc_GG} {ph : Bool} {p : Program} {l : Launch} {e : Env} {R : Room} {s : State} {m : MethodId} {args : Array Value} {below : List Frame} {meth : Method} {c : Code} {Z : State → Prop} {k nq mc ms n0 : Nat} {ad0 : Nat → Nat} {idx np : Nat} {ls : bc_L} {st : bc_St} {h : bc_H}
theorem bc_getW (hC : bc_Cx g p s m args meth c k) {ad : Nat → Nat} {H : Heap} {locs : List Loc} {cells slots : Nat} {lsc : Array Slot} {pcb : Nat} {rest : List Value} (hR : bc_R g ph ad h np H) {n q : Nat} (h13 : n / 64 < 13) (hN : n % 64 < bc_nf (n / 64)) {wi : List Nat}
    (hw : bc_wd wi 0 (.fieldLink (bc_mi k).1 q (bc_cF (n / 64) (n % 64)).1 (bc_cF (n / 64) (n % 64)).2.1 (bc_cF (n / 64) (n % 64)).2.2.1) = true) {i : Nat} (hi : i < np) (hs : bc_sh i = (0, n / 64)) (hd : decode (bc_mi k).2.2.1 pcb = .ok (.getfield q, 3))
    (kk : W p l e R s m args below meth c H locs cells slots Z (F0 m (pcb + 3) lsc (bc_cf ad (bc_ft (n / 64) (n % 64)) (h i (n % 64 : Nat)) :: rest))) : W p l e R s m args below meth c H locs cells slots Z (F0 m pcb lsc (.ref (ad i) :: rest)) := by
  obtain ⟨C, T, N, ty, h1, h2, h3, h4, h5, h6, -⟩ := bc_cls _ h13
  subst h2
  rw [h6 _ hN] at hw
  have hg := bc_ws_get (g := g) (ad := ad) (h := h) hi
  rw [hs] at hg
  exact va_get (v := bc_cf ad (bc_ft (n / 64) (n % 64)) (h i (n % 64 : Nat))) hC.1 hC.2.1 hC.2.2.2.2.1 h3 hC.2.2.2.1 hC.2.2.2.2.2.2.1 hR.1 i hg h1 (n % 64) hN (hC.2.2.2.2.1 _ (bc_wd_in hw)) (fun _ z => z) (by rw [List.getElem?_map, List.getElem?_range hN]; rfl) hd kk
theorem bc_o_getfield {n : Nat} (hC : bc_Cx g p s m args meth c k) (hi : (bc_code k)[idx]? = some (.getfield n)) (hx : bc_wp (bc_s1 ph (.getfield n) ls st h) (fun ls st h => bc_At g ph p l e R s m args below meth c Z k nq mc ms n0 ad0 (idx + 1) np ls st h)) : bc_At g ph p l e R s m args below meth c Z k nq mc ms n0 ad0 idx np ls st h := by
  simp only [bc_s1] at hx
  split at hx
  · rename_i cc r st
    intro cells slots H locs ad lsc pcb hF h0 hR hS hL hV hA hp
    obtain ⟨j, len, wi, hd, hr⟩ := bc_rw0 hC.2.2.2.2.2.2.2.2 hi hp
    unfold bc_rel at hr
    simp only [Bool.and_eq_true, decide_eq_true_eq] at hr
    obtain ⟨⟨⟨hn, h13⟩, hN⟩, hm⟩ := hr
    split at hm
    · simp only [Bool.and_eq_true, decide_eq_true_eq] at hm
      obtain ⟨hw, rfl⟩ := hm
      split at hx
      · rename_i hb
        have hcc : cc = n / 64 := Nat.eq_of_beq_eq_true hb
        subst hcc
        obtain ⟨i, rfl, hi1, hs⟩ := bc_vo_r (hV _ List.mem_cons_self) (by show 0 < 7; decide)
        have hV2 : ∀ v ∈ st, bc_vo np v := fun v hv => hV v (List.mem_cons_of_mem _ hv)
        have hck := hR.2.2.1 i hi1
        rw [hs] at hck
        have hfk : bc_fk np (bc_ft (n / 64) (n % 64)) (h i (n % 64 : Nat)) := hck _ hN
        have he : List.map (bc_cv g ad) (.inr (.inr ((0, n / 64), (i : Int))) :: st) = .ref (ad i) :: st.map (bc_cv g ad) := by
          rw [List.map_cons, bc_cv_r ad (by show 0 < 7; decide)]
          rfl
        rw [he]
        refine bc_getW hC hR h13 hN hw hi1 hs hd ?_
        split at hx
        · rename_i ft
          rw [bc_cf_i (g := g) ad (Or.inl (by rw [ft]))]
          exact hx cells slots H locs ad lsc (pcb + 3) hF h0 hR hS hL (bc_stcons ((bc_fk_i (by rw [ft])).mp hfk) hV2) hA hn
        · rename_i ft
          rw [bc_cf_j (g := g) ad (by rw [ft])]
          exact hx cells slots H locs ad lsc (pcb + 3) hF h0 hR hS hL (bc_stcons ((bc_fk_j (by rw [ft])).mp hfk) hV2) hA hn
        · rename_i ft
          rw [bc_cf_i (g := g) ad (Or.inr (by rw [ft]))]
          refine hx cells slots H locs ad lsc (pcb + 3) hF h0 hR hS hL (bc_stcons ?_ hV2) hA hn
          have q := (bc_fk_z (by rw [ft])).mp hfk
          show bc_i _
          rcases q with q | q <;> rw [q] <;> exact ⟨by decide, by decide⟩
        · rename_i f1 f2 f3
          have h7 : (bc_ft (n / 64) (n % 64)).1 < 7 := by
            rcases bc_fk_k hfk with q | q | q | q
            · exact (f1 (bc_ft (n / 64) (n % 64)).2 (Prod.ext q rfl)).elim
            · exact (f2 (bc_ft (n / 64) (n % 64)).2 (Prod.ext q rfl)).elim
            · exact (f3 (bc_ft (n / 64) (n % 64)).2 (Prod.ext q rfl)).elim
            · exact q
          have hfr := (bc_fk_r h7).mp hfk
          split at hx
          · rename_i o ho
            obtain ⟨q1, q2⟩ := hR.2.2.2.1 rfl i hi1 _ hs _ hN o ho
            rw [bc_cf_r (g := g) ad h7 q2, q1]
            rw [q1] at q2 hfr
            exact hx cells slots H locs ad lsc (pcb + 3) hF h0 hR hS hL (bc_stcons (Or.inr (Or.inr ⟨h7, q2, hfr q2⟩)) hV2) hA hn
          · obtain ⟨q2, hx⟩ := hx
            rw [bc_cf_r (g := g) ad h7 q2]
            exact hx cells slots H locs ad lsc (pcb + 3) hF h0 hR hS hL (bc_stcons (Or.inr (Or.inr ⟨h7, q2, hfr q2⟩)) hV2) hA hn
      · exact False.elim hx
    · cases hm
  · exact False.elim hx
theorem bc_putW (hC : bc_Cx g p s m args meth c k) {ad : Nat → Nat} {H : Heap} {locs : List Loc} {cells slots : Nat} {lsc : Array Slot} {pcb : Nat} {rest : List Value} (hR : bc_R g ph ad h np H) (hS : va_S (bc_A g) s.heap H locs) {n q : Nat} (h13 : n / 64 < 13) (hN : n % 64 < bc_nf (n / 64)) {wi : List Nat}
    (hfi : ((!(bc_cF (n / 64) (n % 64)).2.2.2) || (decide ((bc_mi k).2.1.name = "<init>") && decide ((bc_mi k).1 = (bc_cF (n / 64) (n % 64)).1))) = true)
    (hw : bc_wd wi 0 (.fieldLink (bc_mi k).1 q (bc_cF (n / 64) (n % 64)).1 (bc_cF (n / 64) (n % 64)).2.1 (bc_cF (n / 64) (n % 64)).2.2.1) = true) {i : Nat} (hi : i < np) (hs : bc_sh i = (0, n / 64)) (hd : decode (bc_mi k).2.2.1 pcb = .ok (.putfield q, 3)) {x : Int} {v : Value} (hv : v = bc_cf ad (bc_ft (n / 64) (n % 64)) x)
    (hfk : bc_fk np (bc_ft (n / 64) (n % 64)) x) (h0x : (bc_ft (n / 64) (n % 64)).1 < 7 → 0 ≤ x) (hfo : ph = true → bc_fo (n / 64) (n % 64) = none)
    (kk : ∀ (H1 : Heap) (locs1 : List Loc), bc_R g ph ad (bc_upd h i (n % 64 : Nat) x) np H1 → va_S (bc_A g) s.heap H1 locs1 → W p l e R s m args below meth c H1 locs1 cells slots Z (F0 m (pcb + 3) lsc rest)) : W p l e R s m args below meth c H locs cells slots Z (F0 m pcb lsc (v :: .ref (ad i) :: rest)) := by
  obtain ⟨C, T, N, ty, h1, h2, h3, h4, h5, h6, h7, -⟩ := bc_cls _ h13
  subst h2
  rw [h6 _ hN] at hw hfi
  have hkin := h7 _ hN
  have hg := bc_ws_get (g := g) (ad := ad) (h := h) hi
  rw [hs] at hg
  have hnf : narrow (ty (n % 64)) v = v ∧ fits (ty (n % 64)) v = true := by
    rw [hv]
    unfold bc_kin at hkin
    rcases bc_fk_k hfk with z | z | z | z
    · rw [z] at hkin
      simp only [Bool.and_eq_true, decide_eq_true_eq] at hkin
      rw [hkin.1, bc_cf_i (g := g) ad (Or.inl z)]
      exact ⟨rfl, rfl⟩
    · rw [z] at hkin
      simp only [Bool.and_eq_true, decide_eq_true_eq] at hkin
      rw [hkin.1, bc_cf_j (g := g) ad z]
      exact ⟨rfl, rfl⟩
    · rw [z] at hkin
      simp only [Bool.and_eq_true, decide_eq_true_eq] at hkin
      rw [hkin.1, bc_cf_i (g := g) ad (Or.inr z)]
      rcases (bc_fk_z z).mp hfk with y | y <;> rw [y] <;> exact ⟨rfl, rfl⟩
    · have hR2 : bc_isR (ty (n % 64)) = true := by
        split at hkin
        · omega
        · omega
        · omega
        · simp only [Bool.and_eq_true, decide_eq_true_eq] at hkin
          exact hkin.2
      rw [bc_cf_r (g := g) ad z (h0x z), bc_cv_r ad z]
      exact bc_isR_ok hR2 _
  have hset : ((List.range (bc_nf (n / 64))).map (fun j : Nat => bc_cf ad (bc_ft (n / 64) j) (h i j))).set (n % 64) v = (List.range (bc_nf (n / 64))).map (fun j : Nat => bc_cf ad (bc_ft (n / 64) j) (bc_upd h i (n % 64 : Nat) x i j)) := by
    apply List.ext_getElem?
    intro j
    by_cases hj : j < bc_nf (n / 64)
    · rw [List.getElem?_map, List.getElem?_range hj]
      by_cases z : j = n % 64
      · subst z
        rw [List.getElem?_set_self (by simpa using hj)]
        simp only [Option.map_some, bc_upd_at]
        simp [hv]
      · rw [List.getElem?_set_ne (Ne.symm z), List.getElem?_map, List.getElem?_range hj]
        simp only [Option.map_some, bc_upd_at]
        rw [if_neg (by omega)]
    · rw [List.getElem?_eq_none (by simpa using hj), List.getElem?_eq_none (by simpa using hj)]
  have hend : ∀ (H1 : Heap) (locs1 : List Loc), va_P (bc_D g) vwCl ((bc_ws g ad h np).set i (ad i, .inr (n / 64, ((List.range (bc_nf (n / 64))).map (fun j : Nat => bc_cf ad (bc_ft (n / 64) j) (h i j))).set (n % 64) v))) H1 → va_D (bc_A g) ((bc_ws g ad h np).set i (ad i, .inr (n / 64, ((List.range (bc_nf (n / 64))).map (fun j : Nat => bc_cf ad (bc_ft (n / 64) j) (h i j))).set (n % 64) v))) → va_S (bc_A g) s.heap H1 locs1 → W p l e R s m args below meth c H1 locs1 cells slots Z (F0 m (pcb + 3) lsc rest) := by
    intro H1 locs1 hP hD hS1
    rw [hset] at hP hD
    have e1 : ((Sum.inr (n / 64, (List.range (bc_nf (n / 64))).map (fun j : Nat => bc_cf ad (bc_ft (n / 64) j) (bc_upd h i (n % 64 : Nat) x i j))) : va_E)) = bc_ce g ad (bc_sh i) (bc_upd h i (n % 64 : Nat) x i) := by
      rw [hs]; rfl
    refine kk H1 locs1 (bc_R_row hR hi (fun a ha => bc_upd_ne ha) ?_ ?_ ?_ ?_) hS1
    · have hck := hR.2.2.1 i hi
      rw [hs] at hck ⊢
      intro j hj
      rw [bc_upd_at]
      by_cases z : (j : Int) = (n % 64 : Nat)
      · rw [if_pos z]
        have z2 : j = n % 64 := by omega
        rw [z2]; exact hfk
      · rw [if_neg z]; exact hck j hj
    · intro hph c2 hc2 j hj o ho
      rw [bc_upd_at, if_neg]
      intro z
      have z2 : j = n % 64 := by omega
      rw [hs] at hc2
      cases hc2
      rw [z2, hfo hph] at ho
      cases ho
    · rw [hs]; exact hP
    · rw [hs]; exact hD
  simp only [Bool.or_eq_true, Bool.not_eq_true', Bool.and_eq_true, decide_eq_true_eq] at hfi
  rcases hfi with hfi | ⟨hfi, hfi2⟩
  · exact va_put hC.1 hC.2.1 hC.2.2.2.2.1 h3 ty h4 h5 hC.2.2.2.1 hC.2.2.2.2.2.2.1 hR.1 hR.2.1 hS i hg h1 (n % 64) hN (hC.2.2.2.2.1 _ (bc_wd_in hw)) (fun _ z => z) hfi (h4 _ hN) hnf.1 hnf.2 (by simpa using hN) hd hend
  · cases hb : (T (n % 64)).2.2.2 with
    | false => exact va_put hC.1 hC.2.1 hC.2.2.2.2.1 h3 ty h4 h5 hC.2.2.2.1 hC.2.2.2.2.2.2.1 hR.1 hR.2.1 hS i hg h1 (n % 64) hN (hC.2.2.2.2.1 _ (bc_wd_in hw)) (fun _ z => z) hb (h4 _ hN) hnf.1 hnf.2 (by simpa using hN) hd hend
    | true => exact va_putF hC.1 hC.2.1 hC.2.2.2.2.1 h3 ty h4 h5 hC.2.2.2.1 hC.2.2.2.2.2.2.1 hR.1 hR.2.1 hS i hg h1 (n % 64) hN (hC.2.2.2.2.1 _ (bc_wd_in hw)) (fun _ z => z) hb (hC.2.2.2.2.2.1 hfi) hfi2.symm (h4 _ hN) hnf.1 hnf.2 (by simpa using hN) hd hend
theorem bc_o_putfield {n : Nat} (hC : bc_Cx g p s m args meth c k) (hi : (bc_code k)[idx]? = some (.putfield n)) (hx : bc_wp (bc_s1 ph (.putfield n) ls st h) (fun ls st h => bc_At g ph p l e R s m args below meth c Z k nq mc ms n0 ad0 (idx + 1) np ls st h)) : bc_At g ph p l e R s m args below meth c Z k nq mc ms n0 ad0 idx np ls st h := by
  simp only [bc_s1] at hx
  split at hx
  · rename_i v cc r st
    intro cells slots H locs ad lsc pcb hF h0 hR hS hL hV hA hp
    obtain ⟨j, len, wi, hd, hr⟩ := bc_rw0 hC.2.2.2.2.2.2.2.2 hi hp
    unfold bc_rel at hr
    simp only [Bool.and_eq_true, decide_eq_true_eq] at hr
    obtain ⟨⟨⟨⟨hn, h13⟩, hN⟩, hfi⟩, hm⟩ := hr
    split at hm
    · simp only [Bool.and_eq_true, decide_eq_true_eq] at hm
      obtain ⟨hw, rfl⟩ := hm
      split at hx
      · rename_i hb
        have hcc : cc = n / 64 := Nat.eq_of_beq_eq_true hb
        subst hcc
        have hv0 := hV _ List.mem_cons_self
        obtain ⟨i, rfl, hi1, hs⟩ := bc_vo_r (hV _ (List.mem_cons_of_mem _ List.mem_cons_self)) (by show 0 < 7; decide)
        have hV2 : ∀ v ∈ st, bc_vo np v := fun v hv => hV v (List.mem_cons_of_mem _ (List.mem_cons_of_mem _ hv))
        have he : List.map (bc_cv g ad) (v :: .inr (.inr ((0, n / 64), (i : Int))) :: st) = bc_cv g ad v :: .ref (ad i) :: st.map (bc_cv g ad) := by
          rw [List.map_cons, List.map_cons, bc_cv_r ad (by show 0 < 7; decide)]
          rfl
        rw [he]
        obtain ⟨C, T, N, ty, -, h2, -, -, -, -, h7, -⟩ := bc_cls _ h13
        subst h2
        have hkin := h7 _ hN
        have kk : ∀ x : Int, bc_At g ph p l e R s m args below meth c Z k nq mc ms n0 ad0 (idx + 1) np ls st (bc_upd h i (n % 64 : Nat) x) → ∀ (H1 : Heap) (locs1 : List Loc), bc_R g ph ad (bc_upd h i (n % 64 : Nat) x) np H1 → va_S (bc_A g) s.heap H1 locs1 → W p l e R s m args below meth c H1 locs1 cells slots Z (F0 m (pcb + 3) lsc (st.map (bc_cv g ad))) := fun x hx H1 locs1 hR1 hS1 => hx cells slots H1 locs1 ad lsc (pcb + 3) hF h0 hR1 hS1 hL hV2 hA hn
        have hno : ∀ ft1, (bc_ft (n / 64) (n % 64)).1 = ft1 → (ft1 = 10 ∨ ft1 = 11 ∨ ft1 = 12) → bc_fo (n / 64) (n % 64) = none := by
          intro ft1 hf hz
          unfold bc_kin at hkin
          rw [hf] at hkin
          rcases hz with rfl | rfl | rfl
          all_goals
            simp only [Bool.and_eq_true, decide_eq_true_eq, Option.isNone_iff_eq_none] at hkin
            exact hkin.2
        split at hx
        · rename_i x y hft
          exact bc_putW hC hR hS h13 hN hfi hw hi1 hs hd (x := x) (by rw [bc_cf_i (g := g) ad (Or.inl (by rw [hft]))]) ((bc_fk_i (by rw [hft])).mpr hv0) (fun q => by rw [hft] at q; dsimp only at q; omega) (fun _ => hno 10 (by rw [hft]) (Or.inl rfl)) (kk x hx)
        · rename_i x y hft
          exact bc_putW hC hR hS h13 hN hfi hw hi1 hs hd (x := x) (by rw [bc_cf_i (g := g) ad (Or.inr (by rw [hft]))]) ((bc_fk_z (by rw [hft])).mpr hx.1) (fun q => by rw [hft] at q; dsimp only at q; omega) (fun _ => hno 12 (by rw [hft]) (Or.inr (Or.inr rfl))) (kk x hx.2)
        · rename_i x y hft
          exact bc_putW hC hR hS h13 hN hfi hw hi1 hs hd (x := x) (by rw [bc_cf_j (g := g) ad (by rw [hft])]) ((bc_fk_j (by rw [hft])).mpr hv0) (fun q => by rw [hft] at q; dsimp only at q; omega) (fun _ => hno 11 (by rw [hft]) (Or.inr (Or.inl rfl))) (kk x hx)
        · rename_i a b x kx mx hft
          split at hx
          · exact False.elim hx
          · rename_i hph
            split at hx
            · rename_i hab hbm
              have e1 : a = kx := Nat.eq_of_beq_eq_true hab
              have e2 : b = mx := Nat.eq_of_beq_eq_true hbm
              subst e1 e2
              have ha8 : a ≤ 8 := by
                rcases hv0 with z | z | z
                · dsimp only at z; omega
                · have := z.1; dsimp only at this; omega
                · have := z.1; dsimp only at this; omega
              have h7a : (bc_ft (n / 64) (n % 64)).1 < 7 := by
                unfold bc_kin at hkin
                rw [hft] at hkin ⊢
                dsimp only at hkin ⊢
                split at hkin
                · omega
                · omega
                · omega
                · simp only [Bool.and_eq_true, decide_eq_true_eq] at hkin
                  exact hkin.1
              have h7b : a < 7 := by rw [hft] at h7a; exact h7a
              obtain ⟨xi, rfl, hxi, hxs⟩ := bc_vo_r hv0 h7b
              exact bc_putW hC hR hS h13 hN hfi hw hi1 hs hd (x := (xi : Int)) (by rw [bc_cf_r (g := g) ad h7a (by omega), hft]) ((bc_fk_r h7a).mpr (fun _ => ⟨hxi, by rw [hft]; exact hxs⟩)) (fun _ => by omega) (fun z => by
                cases hfo : bc_fo (n / 64) (n % 64) with
                | none => rfl
                | some o => exact absurd hfo (hph o z)) (kk _ hx)
            · exact False.elim hx
        · exact False.elim hx
      · exact False.elim hx
    · cases hm
  · exact False.elim hx
end BCF
