section BCI2
variable {g : bc_GG} {ph : Bool} {p : Program} {l : Launch} {e : Env} {R : Room} {s : State} {m : MethodId} {args : Array Value} {below : List Frame} {meth : Method} {c : Code} {Z : State → Prop} {d k nq mc ms n0 : Nat} {ad0 : Nat → Nat} {idx np : Nat} {ls : bc_L} {st : bc_St} {h : bc_H}
theorem bc_o_static (hall : ∀ n, (0 < n ∧ n < 362) → ¬ (357 < n ∧ n < 361) → bc_ckM n = true ∧ bc_cc n ∈ bc_T) (hC : bc_Cx g p s m args meth c k) (hRm : d + 8 ≤ R.frames ∧ 50 * d + 400 ≤ R.locals) (hcs : mc ≤ R.cells ∧ ms ≤ R.slots) {n : Nat} (hi : (bc_code k)[idx]? = some (.invokestatic n))
    (hx : bc_cal (bc_Snd g ph) false d n nq np st h (fun nr st h => bc_At g ph p l e R s m args below meth c Z k nq mc ms n0 ad0 (idx + 1) nr ls st h)) : bc_At g ph p l e R s m args below meth c Z k nq mc ms n0 ad0 idx np ls st h := by
  obtain ⟨d', nr, M, as, rest, rfl, rfl, hlen, hn, hc8, hca, -, hP, hK⟩ := bc_cal_in hx
  intro cells slots H locs ad lsc pcb hF h0 hR hS hL hV hA hp
  obtain ⟨j, len, wi, hd, hr⟩ := bc_rw0 hC.2.2.2.2.2.2.2.2 hi hp
  unfold bc_rel at hr
  simp only [Bool.and_eq_true, decide_eq_true_eq] at hr
  obtain ⟨⟨⟨⟨hnx, rfl⟩, hnn⟩, hcnt⟩, hm⟩ := hr
  split at hm
  · rename_i q
    simp only [Bool.and_eq_true, Bool.or_eq_true, decide_eq_true_eq] at hm
    obtain ⟨⟨w1, w2⟩, w3⟩ := hm
    obtain ⟨hck, hcc⟩ := hall n hnn.1 hnn.2
    obtain ⟨k1, k2, k3, k4, k5, k6, k7, k8, k9⟩ := bc_ck_all hck
    have hVa : ∀ v ∈ as, bc_vo np v := fun v hv => hV v (List.mem_append_left _ (List.mem_reverse.mpr hv))
    have hVr : ∀ v ∈ rest, bc_vo np v := fun v hv => hV v (List.mem_append_right _ hv)
    have hM := bc_met l ad hP hck hn.1 hca hVa
    have hts := hC.2.2.2.2.1
    have hfix : CallFix p m c (bc_mi k).2.2.1 (bc_mi k).2.2.2.1 s args bc_T (bc_mi k).1 := ⟨hC.1, hC.2.1, hC.2.2.1, hC.2.2.2.1, hts⟩
    have z1 := bc_SZ_mono hn.1
    have z2 := bc_SZ_mono hn.2
    have hfit : cells + (nr - np) ≤ R.cells ∧ slots + (bc_SZ nr - bc_SZ np) ≤ R.slots := ⟨by omega, by omega⟩
    have hstk : (F0 m pcb lsc ((as.reverse ++ rest).map (bc_cv g ad))).stack = (as.map (bc_cv g ad)).reverse ++ rest.map (bc_cv g ad) := by
      show (as.reverse ++ rest).map (bc_cv g ad) = _
      rw [List.map_append, List.map_reverse]
    have hrm : (({ frames := d' + 8, cells := nr - np, slots := bc_SZ nr - bc_SZ np, locals := 50 * d' + 400 } : Room).frames + 1 ≤ R.frames ∧ 8 + ((bc_mi n).2.2.2.1 + 11) + ({ frames := d' + 8, cells := nr - np, slots := bc_SZ nr - bc_SZ np, locals := 50 * d' + 400 } : Room).locals ≤ R.locals) := by
      constructor
      · show d' + 8 + 1 ≤ _; omega
      · show 8 + ((bc_mi n).2.2.2.1 + 11) + (50 * d' + 400) ≤ _; omega
    rcases w1 with w1 | w1
    · refine bc_after (va_runS (n := (bc_mt n).1) hfix hM ⟨callB_of (own := (bc_mi k).1) (index := q) (bc_mt n).1 hts (bc_goodC hcc) rfl rfl rfl (hts _ (bc_wd_in w3)) (hts _ (bc_wd_in w1)) ⟨k6, k7, by rw [hcnt]; exact k9⟩ hrm, hts _ (bc_wd_in w2)⟩ ⟨bc_blind, bc_pre hC hR hS⟩ rfl (by rw [List.length_map]; exact hlen) hL.1 hstk (bc_room8 hc8) hd hfit) hn hF h0 hS hL hVr hA hnx hK
    · refine bc_after (va_runSN (n := (bc_mt n).1) (host := "BeastCave") hfix hM ⟨va_cnB (own := (bc_mi k).1) (index := q) (bc_mt n).1 hts (bc_goodC hcc) rfl rfl rfl (hC.2.2.2.2.2.2.2.1.2.2.2.2.2.2.2.2.2.1 _ w1) (hts _ (bc_wd_in w3)) ⟨k6, k7, by rw [hcnt]; exact k9⟩ hrm, hts _ (bc_wd_in w2), trivial⟩ ⟨bc_blind, bc_pre hC hR hS⟩ rfl (by rw [List.length_map]; exact hlen) hL.1 hstk (bc_room8 hc8) hd hfit) hn hF h0 hS hL hVr hA hnx hK
  · cases hm
end BCI2
