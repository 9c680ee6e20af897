theorem bc_catr {g : bc_GG} (ad : Nat → Nat) (x : (Nat × Nat) × Int) : (bc_cv g ad (.inr (.inr x))).category = 1 := by
  obtain ⟨sh, r⟩ := x
  show Value.category (if sh.1 = 7 then Value.ref (bc_b g) else if sh.1 = 8 then Value.ref (bc_aK g sh.2) else Value.ref (ad r.toNat)) = 1
  split
  · rfl
  · split <;> rfl
section BCO
variable {g : bc_GG} {ph : Bool} {p : Program} {l : Launch} {e : Env} {R : Room} {s : State} {m : MethodId} {args : Array Value} {below : List Frame} {meth : Method} {c : Code} {Z : State → Prop} {k nq mc ms n0 : Nat} {ad0 : Nat → Nat} {idx np : Nat} {ls : bc_L} {st : bc_St} {h : bc_H}
theorem bc_o_iadd (hC : bc_Cx g p s m args meth c k) (hi : (bc_code k)[idx]? = some .iadd) (hx : bc_wp (bc_s1 ph .iadd ls st h) (fun ls st h => bc_At g ph p l e R s m args below meth c Z k nq mc ms n0 ad0 (idx + 1) np ls st h)) : bc_At g ph p l e R s m args below meth c Z k nq mc ms n0 ad0 idx np ls st h := by
  simp only [bc_s1] at hx
  split at hx
  · exact bc_ebin hC hi (fun _ _ _ _ _ _ => rfl) (fun a b => bc_w32 (a + b)) (fun x y => x + y) (fun ha hb => ⟨by rw [bc_o32, Int32.ofInt_add], bc_w32_i _⟩) (fun hd _ _ kk => lv_iadd hC.1 hC.2.1 hd kk) hx
  · exact False.elim hx
theorem bc_o_isub (hC : bc_Cx g p s m args meth c k) (hi : (bc_code k)[idx]? = some .isub) (hx : bc_wp (bc_s1 ph .isub ls st h) (fun ls st h => bc_At g ph p l e R s m args below meth c Z k nq mc ms n0 ad0 (idx + 1) np ls st h)) : bc_At g ph p l e R s m args below meth c Z k nq mc ms n0 ad0 idx np ls st h := by
  simp only [bc_s1] at hx
  split at hx
  · exact bc_ebin hC hi (fun _ _ _ _ _ _ => rfl) (fun a b => bc_w32 (a - b)) (fun x y => x - y) (fun ha hb => ⟨by rw [bc_o32, Int32.ofInt_sub], bc_w32_i _⟩) (fun hd _ _ kk => lv_isub hC.1 hC.2.1 hd kk) hx
  · exact False.elim hx
theorem bc_o_imul (hC : bc_Cx g p s m args meth c k) (hi : (bc_code k)[idx]? = some .imul) (hx : bc_wp (bc_s1 ph .imul ls st h) (fun ls st h => bc_At g ph p l e R s m args below meth c Z k nq mc ms n0 ad0 (idx + 1) np ls st h)) : bc_At g ph p l e R s m args below meth c Z k nq mc ms n0 ad0 idx np ls st h := by
  simp only [bc_s1] at hx
  split at hx
  · exact bc_ebin hC hi (fun _ _ _ _ _ _ => rfl) (fun a b => bc_w32 (a * b)) (fun x y => x * y) (fun ha hb => ⟨by rw [bc_o32, Int32.ofInt_mul], bc_w32_i _⟩) (fun hd _ _ kk => lv_imul hC.1 hC.2.1 hd kk) hx
  · exact False.elim hx
theorem bc_o_iand (hC : bc_Cx g p s m args meth c k) (hi : (bc_code k)[idx]? = some .iand) (hx : bc_wp (bc_s1 ph .iand ls st h) (fun ls st h => bc_At g ph p l e R s m args below meth c Z k nq mc ms n0 ad0 (idx + 1) np ls st h)) : bc_At g ph p l e R s m args below meth c Z k nq mc ms n0 ad0 idx np ls st h := by
  simp only [bc_s1] at hx
  split at hx
  · exact bc_ebin hC hi (fun _ _ _ _ _ _ => rfl) (fun a b => bc_and a b) (fun x y => x &&& y) (fun ha hb => ⟨by unfold bc_and; rw [Int32.ofInt_toInt], bc_ri _⟩) (fun hd _ _ kk => lv_iand hC.1 hC.2.1 hd kk) hx
  · exact False.elim hx
theorem bc_o_ior (hC : bc_Cx g p s m args meth c k) (hi : (bc_code k)[idx]? = some .ior) (hx : bc_wp (bc_s1 ph .ior ls st h) (fun ls st h => bc_At g ph p l e R s m args below meth c Z k nq mc ms n0 ad0 (idx + 1) np ls st h)) : bc_At g ph p l e R s m args below meth c Z k nq mc ms n0 ad0 idx np ls st h := by
  simp only [bc_s1] at hx
  split at hx
  · exact bc_ebin hC hi (fun _ _ _ _ _ _ => rfl) (fun a b => bc_or a b) (fun x y => x ||| y) (fun ha hb => ⟨by unfold bc_or; rw [Int32.ofInt_toInt], bc_ri _⟩) (fun hd _ _ kk => lv_ior hC.1 hC.2.1 hd kk) hx
  · exact False.elim hx
theorem bc_o_ixor (hC : bc_Cx g p s m args meth c k) (hi : (bc_code k)[idx]? = some .ixor) (hx : bc_wp (bc_s1 ph .ixor ls st h) (fun ls st h => bc_At g ph p l e R s m args below meth c Z k nq mc ms n0 ad0 (idx + 1) np ls st h)) : bc_At g ph p l e R s m args below meth c Z k nq mc ms n0 ad0 idx np ls st h := by
  simp only [bc_s1] at hx
  split at hx
  · exact bc_ebin hC hi (fun _ _ _ _ _ _ => rfl) (fun a b => bc_xor a b) (fun x y => x ^^^ y) (fun ha hb => ⟨by unfold bc_xor; rw [Int32.ofInt_toInt], bc_ri _⟩) (fun hd _ _ kk => lv_ixor hC.1 hC.2.1 hd kk) hx
  · exact False.elim hx
theorem bc_o_ishl (hC : bc_Cx g p s m args meth c k) (hi : (bc_code k)[idx]? = some .ishl) (hx : bc_wp (bc_s1 ph .ishl ls st h) (fun ls st h => bc_At g ph p l e R s m args below meth c Z k nq mc ms n0 ad0 (idx + 1) np ls st h)) : bc_At g ph p l e R s m args below meth c Z k nq mc ms n0 ad0 idx np ls st h := by
  simp only [bc_s1] at hx
  split at hx
  · exact bc_ebin hC hi (fun _ _ _ _ _ _ => rfl) (fun a b => bc_shl a b) (fun x y => x <<< (y &&& 31)) (fun ha hb => ⟨by unfold bc_shl; rw [Int32.ofInt_toInt], bc_ri _⟩) (fun hd _ _ kk => lv_ishl hC.1 hC.2.1 hd kk) hx
  · exact False.elim hx
theorem bc_o_ishr (hC : bc_Cx g p s m args meth c k) (hi : (bc_code k)[idx]? = some .ishr) (hx : bc_wp (bc_s1 ph .ishr ls st h) (fun ls st h => bc_At g ph p l e R s m args below meth c Z k nq mc ms n0 ad0 (idx + 1) np ls st h)) : bc_At g ph p l e R s m args below meth c Z k nq mc ms n0 ad0 idx np ls st h := by
  simp only [bc_s1] at hx
  split at hx
  · exact bc_ebin hC hi (fun _ _ _ _ _ _ => rfl) (fun a b => bc_shr a b) (fun x y => x >>> (y &&& 31)) (fun ha hb => ⟨by unfold bc_shr; rw [Int32.ofInt_toInt], bc_ri _⟩) (fun hd _ _ kk => lv_ishr hC.1 hC.2.1 hd kk) hx
  · exact False.elim hx
theorem bc_o_iushr (hC : bc_Cx g p s m args meth c k) (hi : (bc_code k)[idx]? = some .iushr) (hx : bc_wp (bc_s1 ph .iushr ls st h) (fun ls st h => bc_At g ph p l e R s m args below meth c Z k nq mc ms n0 ad0 (idx + 1) np ls st h)) : bc_At g ph p l e R s m args below meth c Z k nq mc ms n0 ad0 idx np ls st h := by
  simp only [bc_s1] at hx
  split at hx
  · exact bc_ebin hC hi (fun _ _ _ _ _ _ => rfl) (fun a b => bc_ushr a b) (fun x y => (x.toUInt32 >>> (y.toUInt32 &&& Int32.toUInt32 31)).toInt32) (fun ha hb => ⟨by unfold bc_ushr; rw [Int32.ofInt_toInt], bc_ri _⟩) (fun hd _ _ kk => lv_iushr hC.1 hC.2.1 hd rfl kk) hx
  · exact False.elim hx
theorem bc_o_idiv (hC : bc_Cx g p s m args meth c k) (hi : (bc_code k)[idx]? = some .idiv) (hx : bc_wp (bc_s1 ph .idiv ls st h) (fun ls st h => bc_At g ph p l e R s m args below meth c Z k nq mc ms n0 ad0 (idx + 1) np ls st h)) : bc_At g ph p l e R s m args below meth c Z k nq mc ms n0 ad0 idx np ls st h := by
  simp only [bc_s1] at hx
  split at hx
  · exact bc_ebin hC hi (fun _ _ _ _ _ _ => rfl) (fun a b => bc_w32 (a.tdiv b)) (fun x y => x / y) (fun ha hb => ⟨bc_tdiv ha hb, bc_w32_i _⟩) (fun hd _ hb kk => lv_idiv hC.1 hC.2.1 hd (fun q => hx.1 ((bc_eqi hb ⟨by decide, by decide⟩).mp q)) kk) hx.2
  · exact False.elim hx
theorem bc_o_irem (hC : bc_Cx g p s m args meth c k) (hi : (bc_code k)[idx]? = some .irem) (hx : bc_wp (bc_s1 ph .irem ls st h) (fun ls st h => bc_At g ph p l e R s m args below meth c Z k nq mc ms n0 ad0 (idx + 1) np ls st h)) : bc_At g ph p l e R s m args below meth c Z k nq mc ms n0 ad0 idx np ls st h := by
  simp only [bc_s1] at hx
  split at hx
  · exact bc_ebin hC hi (fun _ _ _ _ _ _ => rfl) (fun a b => a.tmod b) (fun x y => x - x / y * y) (fun ha hb => ⟨bc_tmod ha hb, bc_tmod_i ha hx.1⟩) (fun hd _ hb kk => lv_irem hC.1 hC.2.1 hd (fun q => hx.1 ((bc_eqi hb ⟨by decide, by decide⟩).mp q)) kk) hx.2
  · exact False.elim hx
theorem bc_o_ladd (hC : bc_Cx g p s m args meth c k) (hi : (bc_code k)[idx]? = some .ladd) (hx : bc_wp (bc_s1 ph .ladd ls st h) (fun ls st h => bc_At g ph p l e R s m args below meth c Z k nq mc ms n0 ad0 (idx + 1) np ls st h)) : bc_At g ph p l e R s m args below meth c Z k nq mc ms n0 ad0 idx np ls st h := by
  simp only [bc_s1] at hx
  split at hx
  · exact bc_elbin hC hi (fun _ _ _ _ _ _ => rfl) (fun a b => bc_w64 (a + b)) (fun x y => x + y) (fun ha hb => ⟨by rw [bc_o64, Int64.ofInt_add], bc_w64_j _⟩) (fun hd _ _ kk => lv_ladd hC.1 hC.2.1 hd kk) hx
  · exact False.elim hx
theorem bc_o_lsub (hC : bc_Cx g p s m args meth c k) (hi : (bc_code k)[idx]? = some .lsub) (hx : bc_wp (bc_s1 ph .lsub ls st h) (fun ls st h => bc_At g ph p l e R s m args below meth c Z k nq mc ms n0 ad0 (idx + 1) np ls st h)) : bc_At g ph p l e R s m args below meth c Z k nq mc ms n0 ad0 idx np ls st h := by
  simp only [bc_s1] at hx
  split at hx
  · exact bc_elbin hC hi (fun _ _ _ _ _ _ => rfl) (fun a b => bc_w64 (a - b)) (fun x y => x - y) (fun ha hb => ⟨by rw [bc_o64, Int64.ofInt_sub], bc_w64_j _⟩) (fun hd _ _ kk => lv_lsub hC.1 hC.2.1 hd kk) hx
  · exact False.elim hx
theorem bc_o_lmul (hC : bc_Cx g p s m args meth c k) (hi : (bc_code k)[idx]? = some .lmul) (hx : bc_wp (bc_s1 ph .lmul ls st h) (fun ls st h => bc_At g ph p l e R s m args below meth c Z k nq mc ms n0 ad0 (idx + 1) np ls st h)) : bc_At g ph p l e R s m args below meth c Z k nq mc ms n0 ad0 idx np ls st h := by
  simp only [bc_s1] at hx
  split at hx
  · exact bc_elbin hC hi (fun _ _ _ _ _ _ => rfl) (fun a b => bc_w64 (a * b)) (fun x y => x * y) (fun ha hb => ⟨by rw [bc_o64, Int64.ofInt_mul], bc_w64_j _⟩) (fun hd _ _ kk => lv_lmul hC.1 hC.2.1 hd kk) hx
  · exact False.elim hx
theorem bc_o_land (hC : bc_Cx g p s m args meth c k) (hi : (bc_code k)[idx]? = some .land) (hx : bc_wp (bc_s1 ph .land ls st h) (fun ls st h => bc_At g ph p l e R s m args below meth c Z k nq mc ms n0 ad0 (idx + 1) np ls st h)) : bc_At g ph p l e R s m args below meth c Z k nq mc ms n0 ad0 idx np ls st h := by
  simp only [bc_s1] at hx
  split at hx
  · exact bc_elbin hC hi (fun _ _ _ _ _ _ => rfl) (fun a b => bc_landL a b) (fun x y => x &&& y) (fun ha hb => ⟨by unfold bc_landL; rw [Int64.ofInt_toInt], bc_rj _⟩) (fun hd _ _ kk => lv_land hC.1 hC.2.1 hd kk) hx
  · exact False.elim hx
theorem bc_o_lor (hC : bc_Cx g p s m args meth c k) (hi : (bc_code k)[idx]? = some .lor) (hx : bc_wp (bc_s1 ph .lor ls st h) (fun ls st h => bc_At g ph p l e R s m args below meth c Z k nq mc ms n0 ad0 (idx + 1) np ls st h)) : bc_At g ph p l e R s m args below meth c Z k nq mc ms n0 ad0 idx np ls st h := by
  simp only [bc_s1] at hx
  split at hx
  · exact bc_elbin hC hi (fun _ _ _ _ _ _ => rfl) (fun a b => bc_lorL a b) (fun x y => x ||| y) (fun ha hb => ⟨by unfold bc_lorL; rw [Int64.ofInt_toInt], bc_rj _⟩) (fun hd _ _ kk => lv_lor hC.1 hC.2.1 hd kk) hx
  · exact False.elim hx
theorem bc_o_ldiv (hC : bc_Cx g p s m args meth c k) (hi : (bc_code k)[idx]? = some .ldiv) (hx : bc_wp (bc_s1 ph .ldiv ls st h) (fun ls st h => bc_At g ph p l e R s m args below meth c Z k nq mc ms n0 ad0 (idx + 1) np ls st h)) : bc_At g ph p l e R s m args below meth c Z k nq mc ms n0 ad0 idx np ls st h := by
  simp only [bc_s1] at hx
  split at hx
  · exact bc_elbin hC hi (fun _ _ _ _ _ _ => rfl) (fun a b => bc_w64 (a.tdiv b)) (fun x y => x / y) (fun ha hb => ⟨bc_ldiv ha hb, bc_w64_j _⟩) (fun hd _ hb kk => lv_ldiv hC.1 hC.2.1 hd (fun q => hx.1 (by have q1 := congrArg Int64.toInt q; rw [bc_tj hb] at q1; exact q1)) kk) hx.2
  · exact False.elim hx
theorem bc_o_lrem (hC : bc_Cx g p s m args meth c k) (hi : (bc_code k)[idx]? = some .lrem) (hx : bc_wp (bc_s1 ph .lrem ls st h) (fun ls st h => bc_At g ph p l e R s m args below meth c Z k nq mc ms n0 ad0 (idx + 1) np ls st h)) : bc_At g ph p l e R s m args below meth c Z k nq mc ms n0 ad0 idx np ls st h := by
  simp only [bc_s1] at hx
  split at hx
  · exact bc_elbin hC hi (fun _ _ _ _ _ _ => rfl) (fun a b => a.tmod b) (fun x y => x - x / y * y) (fun ha hb => ⟨bc_lmod ha hb, bc_lmod_j ha hx.1⟩) (fun hd _ hb kk => lv_lrem hC.1 hC.2.1 hd (fun q => hx.1 (by have q1 := congrArg Int64.toInt q; rw [bc_tj hb] at q1; exact q1)) kk) hx.2
  · exact False.elim hx
theorem bc_o_lshl (hC : bc_Cx g p s m args meth c k) (hi : (bc_code k)[idx]? = some .lshl) (hx : bc_wp (bc_s1 ph .lshl ls st h) (fun ls st h => bc_At g ph p l e R s m args below meth c Z k nq mc ms n0 ad0 (idx + 1) np ls st h)) : bc_At g ph p l e R s m args below meth c Z k nq mc ms n0 ad0 idx np ls st h := by
  simp only [bc_s1] at hx
  split at hx
  · exact bc_elsh hC hi (fun _ _ _ _ _ _ => rfl) (fun a b => bc_lshl a b) (fun x y => x <<< (y.toInt64 &&& 63)) (fun ha hb => ⟨by unfold bc_lshl; rw [Int64.ofInt_toInt], bc_rj _⟩) (fun hd kk => lv_lshl hC.1 hC.2.1 hd rfl kk) hx
  · exact False.elim hx
theorem bc_o_lshr (hC : bc_Cx g p s m args meth c k) (hi : (bc_code k)[idx]? = some .lshr) (hx : bc_wp (bc_s1 ph .lshr ls st h) (fun ls st h => bc_At g ph p l e R s m args below meth c Z k nq mc ms n0 ad0 (idx + 1) np ls st h)) : bc_At g ph p l e R s m args below meth c Z k nq mc ms n0 ad0 idx np ls st h := by
  simp only [bc_s1] at hx
  split at hx
  · exact bc_elsh hC hi (fun _ _ _ _ _ _ => rfl) (fun a b => bc_lshr a b) (fun x y => x >>> (y.toInt64 &&& 63)) (fun ha hb => ⟨by unfold bc_lshr; rw [Int64.ofInt_toInt], bc_rj _⟩) (fun hd kk => lv_lshr hC.1 hC.2.1 hd rfl kk) hx
  · exact False.elim hx
theorem bc_o_lushr (hC : bc_Cx g p s m args meth c k) (hi : (bc_code k)[idx]? = some .lushr) (hx : bc_wp (bc_s1 ph .lushr ls st h) (fun ls st h => bc_At g ph p l e R s m args below meth c Z k nq mc ms n0 ad0 (idx + 1) np ls st h)) : bc_At g ph p l e R s m args below meth c Z k nq mc ms n0 ad0 idx np ls st h := by
  simp only [bc_s1] at hx
  split at hx
  · exact bc_elsh hC hi (fun _ _ _ _ _ _ => rfl) (fun a b => bc_lushr a b) (fun x y => (x.toUInt64 >>> (y.toInt64.toUInt64 &&& Int64.toUInt64 63)).toInt64) (fun ha hb => ⟨by unfold bc_lushr; rw [Int64.ofInt_toInt], bc_rj _⟩) (fun hd kk => lv_lushr hC.1 hC.2.1 hd rfl kk) hx
  · exact False.elim hx
theorem bc_o_ineg (hC : bc_Cx g p s m args meth c k) (hi : (bc_code k)[idx]? = some .ineg) (hx : bc_wp (bc_s1 ph .ineg ls st h) (fun ls st h => bc_At g ph p l e R s m args below meth c Z k nq mc ms n0 ad0 (idx + 1) np ls st h)) : bc_At g ph p l e R s m args below meth c Z k nq mc ms n0 ad0 idx np ls st h := by
  simp only [bc_s1] at hx
  split at hx
  · rename_i a _
    exact bc_eun (v := .inl a) (w := .inl (bc_w32 (-a))) hC hi (fun _ _ _ _ _ _ => rfl) (fun ha => bc_w32_i _) (fun hd ha kk => lv_ineg hC.1 hC.2.1 hd (by rw [← Int32.ofInt_neg, ← bc_o32]; exact kk)) hx
  · exact False.elim hx
theorem bc_o_i2l (hC : bc_Cx g p s m args meth c k) (hi : (bc_code k)[idx]? = some .i2l) (hx : bc_wp (bc_s1 ph .i2l ls st h) (fun ls st h => bc_At g ph p l e R s m args below meth c Z k nq mc ms n0 ad0 (idx + 1) np ls st h)) : bc_At g ph p l e R s m args below meth c Z k nq mc ms n0 ad0 idx np ls st h := by
  simp only [bc_s1] at hx
  split at hx
  · rename_i a _
    exact bc_eun (v := .inl a) (w := .inr (.inl a)) hC hi (fun _ _ _ _ _ _ => rfl) (fun ha => (show bc_j a from ⟨by have := ha.1; omega, by have := ha.2; omega⟩)) (fun hd ha kk => lv_i2l hC.1 hC.2.1 hd (bc_i2l ha) kk) hx
  · exact False.elim hx
theorem bc_o_l2i (hC : bc_Cx g p s m args meth c k) (hi : (bc_code k)[idx]? = some .l2i) (hx : bc_wp (bc_s1 ph .l2i ls st h) (fun ls st h => bc_At g ph p l e R s m args below meth c Z k nq mc ms n0 ad0 (idx + 1) np ls st h)) : bc_At g ph p l e R s m args below meth c Z k nq mc ms n0 ad0 idx np ls st h := by
  simp only [bc_s1] at hx
  split at hx
  · rename_i a _
    exact bc_eun (v := .inr (.inl a)) (w := .inl (bc_w32 a)) hC hi (fun _ _ _ _ _ _ => rfl) (fun ha => bc_w32_i _) (fun hd ha kk => lv_l2i hC.1 hC.2.1 hd (bc_l2i a) kk) hx
  · exact False.elim hx
theorem bc_o_i2b (hC : bc_Cx g p s m args meth c k) (hi : (bc_code k)[idx]? = some .i2b) (hx : bc_wp (bc_s1 ph .i2b ls st h) (fun ls st h => bc_At g ph p l e R s m args below meth c Z k nq mc ms n0 ad0 (idx + 1) np ls st h)) : bc_At g ph p l e R s m args below meth c Z k nq mc ms n0 ad0 idx np ls st h := by
  simp only [bc_s1] at hx
  split at hx
  · rename_i a _
    exact bc_eun (v := .inl a) (w := .inl (bc_w8 a)) hC hi (fun _ _ _ _ _ _ => rfl) (fun ha => bc_w8_i _) (fun hd ha kk => lv_i2b hC.1 hC.2.1 hd (bc_i2b ha) kk) hx
  · exact False.elim hx
theorem bc_o_i2s (hC : bc_Cx g p s m args meth c k) (hi : (bc_code k)[idx]? = some .i2s) (hx : bc_wp (bc_s1 ph .i2s ls st h) (fun ls st h => bc_At g ph p l e R s m args below meth c Z k nq mc ms n0 ad0 (idx + 1) np ls st h)) : bc_At g ph p l e R s m args below meth c Z k nq mc ms n0 ad0 idx np ls st h := by
  simp only [bc_s1] at hx
  split at hx
  · rename_i a _
    exact bc_eun (v := .inl a) (w := .inl (bc_w16 a)) hC hi (fun _ _ _ _ _ _ => rfl) (fun ha => bc_w16_i _) (fun hd ha kk => lv_i2s hC.1 hC.2.1 hd (bc_i2s ha) kk) hx
  · exact False.elim hx
theorem bc_o_lcmp (hC : bc_Cx g p s m args meth c k) (hi : (bc_code k)[idx]? = some .lcmp) (hx : bc_wp (bc_s1 ph .lcmp ls st h) (fun ls st h => bc_At g ph p l e R s m args below meth c Z k nq mc ms n0 ad0 (idx + 1) np ls st h)) : bc_At g ph p l e R s m args below meth c Z k nq mc ms n0 ad0 idx np ls st h := by
  simp only [bc_s1] at hx
  split at hx
  · rename_i b a st
    intro cells slots H locs ad lsc pcb hF h0 hR hS hL hV hA hp
    obtain ⟨hd, hx1⟩ := bc_row1 hC.2.2.2.2.2.2.2.2 hi hp (fun _ _ _ _ _ _ => rfl)
    have vb : bc_j b := hV (.inr (.inl b)) List.mem_cons_self
    have va : bc_j a := hV (.inr (.inl a)) (List.mem_cons_of_mem _ List.mem_cons_self)
    have kk : W p l e R s m args below meth c H locs cells slots Z (F0 m (pcb + 1) lsc (.int (Int32.ofInt (bc_lcmp a b)) :: st.map (bc_cv g ad))) := hx cells slots H locs ad lsc (pcb + 1) hF h0 hR hS hL (fun v hv => by
      rcases List.mem_cons.mp hv with rfl | hv
      · exact bc_lc_i a b
      · exact hV v (List.mem_cons_of_mem _ (List.mem_cons_of_mem _ hv))) hA hx1
    rw [← bc_lc va vb] at kk
    exact W.lcmp hC.1 hC.2.1 hd kk
  · exact False.elim hx
theorem bc_o_dup (hC : bc_Cx g p s m args meth c k) (hi : (bc_code k)[idx]? = some .dup) (hx : bc_wp (bc_s1 ph .dup ls st h) (fun ls st h => bc_At g ph p l e R s m args below meth c Z k nq mc ms n0 ad0 (idx + 1) np ls st h)) : bc_At g ph p l e R s m args below meth c Z k nq mc ms n0 ad0 idx np ls st h := by
  simp only [bc_s1] at hx
  split at hx
  · refine bc_estk hC hi (fun _ _ _ _ _ _ => rfl) ?_ ?_ hx
    · intro v hv
      simp only [List.mem_cons] at hv ⊢
      grind
    · exact fun hd hV kk => lv_dup hC.1 hC.2.1 hd rfl kk
  · refine bc_estk hC hi (fun _ _ _ _ _ _ => rfl) ?_ ?_ hx
    · intro v hv
      simp only [List.mem_cons] at hv ⊢
      grind
    · exact fun hd hV kk => lv_dup hC.1 hC.2.1 hd (bc_catr _ _) kk
  · exact False.elim hx
theorem bc_o_dup2 (hC : bc_Cx g p s m args meth c k) (hi : (bc_code k)[idx]? = some .dup2) (hx : bc_wp (bc_s1 ph .dup2 ls st h) (fun ls st h => bc_At g ph p l e R s m args below meth c Z k nq mc ms n0 ad0 (idx + 1) np ls st h)) : bc_At g ph p l e R s m args below meth c Z k nq mc ms n0 ad0 idx np ls st h := by
  simp only [bc_s1] at hx
  split at hx
  · refine bc_estk hC hi (fun _ _ _ _ _ _ => rfl) ?_ ?_ hx
    · intro v hv
      simp only [List.mem_cons] at hv ⊢
      grind
    · exact fun hd hV kk => lv_dup2_11 hC.1 hC.2.1 hd rfl (bc_catr _ _) kk
  · refine bc_estk hC hi (fun _ _ _ _ _ _ => rfl) ?_ ?_ hx
    · intro v hv
      simp only [List.mem_cons] at hv ⊢
      grind
    · exact fun hd hV kk => lv_dup2_2 hC.1 hC.2.1 hd rfl kk
  · exact False.elim hx
theorem bc_o_pop (hC : bc_Cx g p s m args meth c k) (hi : (bc_code k)[idx]? = some .pop) (hx : bc_wp (bc_s1 ph .pop ls st h) (fun ls st h => bc_At g ph p l e R s m args below meth c Z k nq mc ms n0 ad0 (idx + 1) np ls st h)) : bc_At g ph p l e R s m args below meth c Z k nq mc ms n0 ad0 idx np ls st h := by
  simp only [bc_s1] at hx
  split at hx
  · refine bc_estk hC hi (fun _ _ _ _ _ _ => rfl) ?_ ?_ hx
    · intro v hv
      simp only [List.mem_cons] at hv ⊢
      grind
    · exact fun hd hV kk => lv_pop hC.1 hC.2.1 hd rfl kk
  · refine bc_estk hC hi (fun _ _ _ _ _ _ => rfl) ?_ ?_ hx
    · intro v hv
      simp only [List.mem_cons] at hv ⊢
      grind
    · exact fun hd hV kk => lv_pop hC.1 hC.2.1 hd (bc_catr _ _) kk
  · exact False.elim hx
end BCO
