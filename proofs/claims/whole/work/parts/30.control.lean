/-! branches, switches, ends -/
theorem bc_to_in {k pc : Nat} {off t : Int} (h : bc_to k pc off t = true) : ∃ q, bc_pc k t.toNat = some q ∧ (pc : Int) + off = (q : Int) := by
  unfold bc_to at h
  simp only [Bool.and_eq_true] at h
  have h2 := h.2
  split at h2
  · rename_i q hq
    exact ⟨q, hq, by simpa using h2⟩
  · cases h2
theorem bc_sw_in {J : Nat → Prop} {x : Int} {d : Nat} : ∀ l : List (Int × Int), bc_sw J x d l → match l.find? (fun q => q.1 == x) with | some q => J q.2.toNat | none => J d
  | [], h => h
  | (v, t) :: l, h => by
    rw [List.find?_cons]
    by_cases e : v = x
    · subst e
      have : ((v, t).1 == v) = true := beq_self_eq_true v
      rw [this]
      exact h.1 rfl
    · have : ((v, t).1 == x) = false := beq_eq_false_iff_ne.mpr e
      rw [this]
      exact bc_sw_in l (h.2 (fun z => e z.symm))
theorem bc_lk_sw {k pc : Nat} {t d : Int} {J : Nat → Prop} {x : Int} (hd : bc_to k pc d t = true) : ∀ (qs ps : List (Int × Int)), qs.length = ps.length → (∀ n, n < qs.length → ∃ a b, qs[n]? = some a ∧ ps[n]? = some b ∧ a.1 = b.1 ∧ bc_to k pc a.2 b.2 = true) → bc_sw J x t.toNat ps → ∃ tg : Int, bc_to k pc (Op.lookupswitch.offset qs d x) tg = true ∧ J tg.toNat
  | [], [], _, _, hJ => ⟨t, hd, hJ⟩
  | [], _ :: _, h, _, _ => by cases h
  | _ :: _, [], h, _, _ => by cases h
  | (a, o) :: qs, (b, u) :: ps, h, hh, hJ => by
    obtain ⟨_, _, e1, e2, e3, e4⟩ := hh 0 (Nat.succ_pos _)
    cases e1
    cases e2
    have e3 : a = b := e3
    subst e3
    rw [Op.lookupswitch.offset_cons]
    by_cases e : a = x
    · rw [if_pos e]
      exact ⟨u, e4, hJ.1 e.symm⟩
    · rw [if_neg e]
      exact bc_lk_sw hd qs ps (Nat.succ.inj h) (fun n hn => hh (n + 1) (Nat.succ_lt_succ hn)) (hJ.2 (fun z => e z.symm))
section BCJ
variable {g : bc_GG} {ph : Bool} {p : Program} {l : Launch} {e : Env} {R : Room} {s : State} {m : MethodId} {args : Array Value} {below : List Frame} {meth : Method} {c : Code} {Z : State → Prop} {d k nq mc ms n0 : Nat} {ad0 : Nat → Nat} {idx np : Nat} {ls : bc_L} {st : bc_St} {h : bc_H}
theorem bc_o_goto (hC : bc_Cx g p s m args meth c k) {t : Int} (hi : (bc_code k)[idx]? = some (.goto t)) (hx : bc_At g ph p l e R s m args below meth c Z k nq mc ms n0 ad0 t.toNat np ls st h) : bc_At g ph p l e R s m args below meth c Z k nq mc ms n0 ad0 idx np ls st h := by
  intro cells slots H locs ad lsc pcb hF h0 hR hS hL hV hA hp
  obtain ⟨j, len, wi, hd, hr⟩ := bc_rw0 hC.2.2.2.2.2.2.2.2 hi hp
  unfold bc_rel at hr
  dsimp only at hr
  split at hr
  · simp only [Bool.and_eq_true, decide_eq_true_eq] at hr
    obtain ⟨hr, rfl⟩ := hr
    obtain ⟨q, h1, h2⟩ := bc_to_in hr
    exact lv_goto hC.1 hC.2.1 hd h2 (hx cells slots H locs ad lsc q hF h0 hR hS hL hV hA h1)
  · cases hr
theorem bc_o_if (hC : bc_Cx g p s m args meth c k) {cd : ClassFile.Cond} {t : Int} {a : Int} (hi : (bc_code k)[idx]? = some (.ifCond cd t)) (hy : bc_yes cd a 0 → bc_At g ph p l e R s m args below meth c Z k nq mc ms n0 ad0 t.toNat np ls st h) (hn : bc_not cd a 0 → bc_At g ph p l e R s m args below meth c Z k nq mc ms n0 ad0 (idx + 1) np ls st h) : bc_At g ph p l e R s m args below meth c Z k nq mc ms n0 ad0 idx np ls (.inl a :: st) h := by
  intro cells slots H locs ad lsc pcb hF h0 hR hS hL hV hA hp
  obtain ⟨j, len, wi, hd, hr⟩ := bc_rw0 hC.2.2.2.2.2.2.2.2 hi hp
  unfold bc_rel at hr
  simp only [Bool.and_eq_true, decide_eq_true_eq] at hr
  obtain ⟨hnx, hr⟩ := hr
  split at hr
  · simp only [Bool.and_eq_true, decide_eq_true_eq] at hr
    obtain ⟨⟨rfl, hr⟩, rfl⟩ := hr
    obtain ⟨q, h1, h2⟩ := bc_to_in hr
    have va : bc_i a := hV (.inl a) List.mem_cons_self
    have v0 : bc_i 0 := ⟨by decide, by decide⟩
    have hV' : ∀ v ∈ st, bc_vo np v := fun v hv => hV v (List.mem_cons_of_mem _ hv)
    have ky := fun z => hy z cells slots H locs ad lsc q hF h0 hR hS hL hV' hA h1
    have kn := fun z => hn z cells slots H locs ad lsc (pcb + 3) hF h0 hR hS hL hV' hA hnx
    have f1 : Int32.ofInt a = 0 ↔ a = 0 := bc_eqi va v0
    have f2 : Int32.ofInt a < 0 ↔ a < 0 := bc_lti va v0
    have f3 : 0 ≤ Int32.ofInt a ↔ 0 ≤ a := bc_lei v0 va
    have f4 : 0 < Int32.ofInt a ↔ 0 < a := bc_lti v0 va
    have f5 : Int32.ofInt a ≤ 0 ↔ a ≤ 0 := bc_lei va v0
    cases cd with
    | eq => exact lv_if_eq hC.1 hC.2.1 hd h2 (fun z => ky (f1.mp z)) (fun z => kn (fun w => z (f1.mpr w)))
    | ne => exact lv_if_ne hC.1 hC.2.1 hd h2 (fun z => ky (fun w => z (f1.mpr w))) (fun z => kn (f1.mp z))
    | lt => exact lv_if_lt hC.1 hC.2.1 hd h2 (fun z => ky (f2.mp z)) (fun z => kn (Int.not_lt.mp (fun w => z (f2.mpr w))))
    | ge => exact lv_if_ge hC.1 hC.2.1 hd h2 (fun z => ky (f3.mp z)) (fun z => kn (Int.not_le.mp (fun w => z (f3.mpr w))))
    | gt => exact lv_if_gt hC.1 hC.2.1 hd h2 (fun z => ky (f4.mp z)) (fun z => kn (Int.not_lt.mp (fun w => z (f4.mpr w))))
    | le => exact lv_if_le hC.1 hC.2.1 hd h2 (fun z => ky (f5.mp z)) (fun z => kn (Int.not_le.mp (fun w => z (f5.mpr w))))
  · cases hr
theorem bc_o_icmp (hC : bc_Cx g p s m args meth c k) {cd : ClassFile.Cond} {t : Int} {a b : Int} (hi : (bc_code k)[idx]? = some (.if_icmp cd t)) (hy : bc_yes cd a b → bc_At g ph p l e R s m args below meth c Z k nq mc ms n0 ad0 t.toNat np ls st h) (hn : bc_not cd a b → bc_At g ph p l e R s m args below meth c Z k nq mc ms n0 ad0 (idx + 1) np ls st h) : bc_At g ph p l e R s m args below meth c Z k nq mc ms n0 ad0 idx np ls (.inl b :: .inl a :: st) h := by
  intro cells slots H locs ad lsc pcb hF h0 hR hS hL hV hA hp
  obtain ⟨j, len, wi, hd, hr⟩ := bc_rw0 hC.2.2.2.2.2.2.2.2 hi hp
  unfold bc_rel at hr
  simp only [Bool.and_eq_true, decide_eq_true_eq] at hr
  obtain ⟨hnx, hr⟩ := hr
  split at hr
  · simp only [Bool.and_eq_true, decide_eq_true_eq] at hr
    obtain ⟨⟨rfl, hr⟩, rfl⟩ := hr
    obtain ⟨q, h1, h2⟩ := bc_to_in hr
    have vb : bc_i b := hV (.inl b) List.mem_cons_self
    have va : bc_i a := hV (.inl a) (List.mem_cons_of_mem _ List.mem_cons_self)
    have hV' : ∀ v ∈ st, bc_vo np v := fun v hv => hV v (List.mem_cons_of_mem _ (List.mem_cons_of_mem _ hv))
    have ky := fun z => hy z cells slots H locs ad lsc q hF h0 hR hS hL hV' hA h1
    have kn := fun z => hn z cells slots H locs ad lsc (pcb + 3) hF h0 hR hS hL hV' hA hnx
    have f1 := bc_eqi va vb
    have f2 := bc_lti va vb
    have f3 := bc_lei vb va
    have f4 := bc_lti vb va
    have f5 := bc_lei va vb
    cases cd with
    | eq => exact lv_icmp_eq hC.1 hC.2.1 hd h2 (fun z => ky (f1.mp z)) (fun z => kn (fun w => z (f1.mpr w)))
    | ne => exact lv_icmp_ne hC.1 hC.2.1 hd h2 (fun z => ky (fun w => z (f1.mpr w))) (fun z => kn (f1.mp z))
    | lt => exact lv_icmp_lt hC.1 hC.2.1 hd h2 (fun z => ky (f2.mp z)) (fun z => kn (Int.not_lt.mp (fun w => z (f2.mpr w))))
    | ge => exact lv_icmp_ge hC.1 hC.2.1 hd h2 (fun z => ky (f3.mp z)) (fun z => kn (Int.not_le.mp (fun w => z (f3.mpr w))))
    | gt => exact lv_icmp_gt hC.1 hC.2.1 hd h2 (fun z => ky (f4.mp z)) (fun z => kn (Int.not_lt.mp (fun w => z (f4.mpr w))))
    | le => exact lv_icmp_le hC.1 hC.2.1 hd h2 (fun z => ky (f5.mp z)) (fun z => kn (Int.not_le.mp (fun w => z (f5.mpr w))))
  · cases hr
theorem bc_o_switch (hC : bc_Cx g p s m args meth c k) {t : Int} {ps : Array (Int × Int)} {a : Int} (hi : (bc_code k)[idx]? = some (.lookupswitch t ps)) (hx : bc_sw (fun t => bc_At g ph p l e R s m args below meth c Z k nq mc ms n0 ad0 t np ls st h) a t.toNat ps.toList) : bc_At g ph p l e R s m args below meth c Z k nq mc ms n0 ad0 idx np ls (.inl a :: st) h := by
  intro cells slots H locs ad lsc pcb hF h0 hR hS hL hV hA hp
  obtain ⟨j, len, wi, hd, hr⟩ := bc_rw0 hC.2.2.2.2.2.2.2.2 hi hp
  have va : bc_i a := hV (.inl a) List.mem_cons_self
  have hV' : ∀ v ∈ st, bc_vo np v := fun v hv => hV v (List.mem_cons_of_mem _ hv)
  have hta := bc_ti va
  have kk : ∀ tg : Nat, bc_At g ph p l e R s m args below meth c Z k nq mc ms n0 ad0 tg np ls st h → ∀ q, bc_pc k tg = some q → W p l e R s m args below meth c H locs cells slots Z (F0 m q lsc (st.map (bc_cv g ad))) := fun tg hz q hq => hz cells slots H locs ad lsc q hF h0 hR hS hL hV' hA hq
  unfold bc_rel at hr
  dsimp only at hr
  split at hr
  · rename_i dd lo hi2 offs
    simp only [Bool.and_eq_true, decide_eq_true_eq] at hr
    obtain ⟨⟨⟨hdf, hhi⟩, hall⟩, hrng⟩ := hr
    have hsw := bc_sw_in _ hx
    by_cases hin : a < lo ∨ hi2 < a
    · have hnone : ps.toList.find? (fun q => q.1 == a) = none := by
        rw [List.find?_eq_none]
        intro q hq hqa
        have h1 := List.all_eq_true.mp hrng q hq
        simp only [decide_eq_true_eq] at h1
        have h2 : q.1 = a := by simpa using hqa
        omega
      rw [hnone] at hsw
      obtain ⟨q, h1, h2⟩ := bc_to_in hdf
      exact lv_tableOut hC.1 hC.2.1 hd (by rw [hta]; exact hin) h2 (kk _ hsw q h1)
    · have hlo : ¬ a < lo := fun z => hin (Or.inl z)
      have hhi' : ¬ hi2 < a := fun z => hin (Or.inr z)
      have hidx : (a - lo).toNat < offs.size := by omega
      have hat := List.all_eq_true.mp hall (a - lo).toNat (List.mem_range.mpr hidx)
      have hval : lo + ((a - lo).toNat : Int) = a := by omega
      rw [hval] at hat
      split at hat
      · rename_i off hoff
        split at hat
        · rename_i q hq
          rw [hq] at hsw
          obtain ⟨q2, h1, h2⟩ := bc_to_in hat
          exact lv_tableIn hC.1 hC.2.1 hd (by rw [hta]; exact hlo) (by rw [hta]; exact hhi') (by rw [hta]; exact hoff) h2 (kk _ hsw q2 h1)
        · rename_i hq
          rw [hq] at hsw
          obtain ⟨q2, h1, h2⟩ := bc_to_in hat
          exact lv_tableIn hC.1 hC.2.1 hd (by rw [hta]; exact hlo) (by rw [hta]; exact hhi') (by rw [hta]; exact hoff) h2 (kk _ hsw q2 h1)
      · cases hat
  · rename_i dd qs
    simp only [Bool.and_eq_true, decide_eq_true_eq] at hr
    obtain ⟨⟨⟨hdf, hso⟩, hsz⟩, hall⟩ := hr
    obtain ⟨tg, h1, h2⟩ := bc_lk_sw (J := fun t => bc_At g ph p l e R s m args below meth c Z k nq mc ms n0 ad0 t np ls st h) (x := a) hdf qs.toList ps.toList (by simpa using hsz) (fun n hn => by
      have hat := List.all_eq_true.mp hall n (List.mem_range.mpr (by simpa using hn))
      split at hat
      · rename_i x y hx1 hy1
        simp only [Bool.and_eq_true, decide_eq_true_eq] at hat
        exact ⟨x, y, by simpa using hx1, by simpa using hy1, hat.1, hat.2⟩
      · cases hat) hx
    obtain ⟨q2, h3, h4⟩ := bc_to_in h1
    exact lv_lookup hC.1 hC.2.1 hd hso (by rw [hta]) h4 (kk _ h2 q2 h3)
  · cases hr
/-- an end -/
theorem bc_o_rt {i : Instr} {v : Option bc_V} {Q : bc_Q} (hC : bc_Cx g p s m args meth c k) (hi : (bc_code k)[idx]? = some i) (hiv : i = bc_rd v) (hir : ∀ kk pc nx wi j len, bc_rel kk pc nx wi j len i = (decide (j = i) && decide (len = 1))) (hst : st = v.toList) (hQ : bc_Hr g ph p l e R s m args below meth c Z k nq mc ms n0 ad0 Q) (hx : bc_rt k nq np Q v h) : bc_At g ph p l e R s m args below meth c Z k nq mc ms n0 ad0 idx np ls st h := by
  intro cells slots H locs ad lsc pcb hF h0 hR hS hL hV hA hp
  obtain ⟨j, len, wi, hd, hr⟩ := bc_rw0 hC.2.2.2.2.2.2.2.2 hi hp
  rw [hir] at hr
  simp only [Bool.and_eq_true, decide_eq_true_eq] at hr
  obtain ⟨rfl, rfl⟩ := hr
  subst hst
  have he : np = nq ∧ bc_rv k v ∧ Q v h := by
    unfold bc_rt at hx
    unfold bc_rv
    split at hx
    · rename_i q1 q2
      rw [q2]
      exact ⟨Nat.eq_of_beq_eq_true q1, trivial, hx⟩
    · rename_i q1 q2
      rw [q2]
      exact ⟨Nat.eq_of_beq_eq_true q1, trivial, hx⟩
    · rename_i q1 q2
      rw [q2]
      exact ⟨Nat.eq_of_beq_eq_true q1, trivial, hx⟩
    · rename_i q1 q2
      rw [q2]
      exact ⟨Nat.eq_of_beq_eq_true q1, hx.1, hx.2⟩
    · exact hx.elim
  obtain ⟨rfl, h1, h2⟩ := he
  have hc1 : cells = mc := by omega
  have hc2 : slots = ms := by omega
  subst hc1
  subst hc2
  have e1 : v.toList.map (bc_cv g ad) = (v.map (bc_cv g ad)).toList := by cases v <;> rfl
  rw [e1]
  exact hQ v h H locs ad lsc pcb h2 (fun x hx => hV x (by rw [hx]; exact List.mem_cons_self)) h1 hR hS hA (hiv ▸ hd)
end BCJ
