/-! what lies outside the world stays -/
theorem bc_X_kept {g : bc_GG} {U : State} {H H1 : Heap} (h : bc_X g U H) (hz : H.size ≤ H1.size) (hq : ∀ a : Nat, a < H.size → ¬ bc_A g a → H1[a]? = H[a]?) : bc_X g U H1 := by
  obtain ⟨h1, h2, h3, h4, h5, h6, h7, h8, h9, h10, h11, h12⟩ := h
  exact ⟨h1.kept (hq _ (by omega) (by unfold bc_A; omega)), h2, by omega, h4, h5.kept hq, h6, h7, h8.kept hq, h9.kept hq, h10, h11, h12⟩
theorem bc_X_S {g : bc_GG} {s : State} {H : Heap} {locs : List Loc} (h : bc_X g s s.heap) (hS : va_S (bc_A g) s.heap H locs) : bc_X g s H := bc_X_kept h hS.1 hS.2.1
theorem bc_X_warm {g : bc_GG} {s U : State} {H : Heap} (hW : s.WarmedH U.vm) (h : bc_X g s H) : bc_X g U H := by
  obtain ⟨h1, h2, h3, h4, h5, h6, h7, h8, h9, h10, h11, h12⟩ := h
  exact ⟨h1.moved hW.alike, h2, h3, h4, h5.moved hW.alike, h6.warm hW, h7.warm hW, h8.moved hW.alike, h9.moved hW.alike, fun q hq => (h10 q hq).warmM hW, h11.moved hW.alike, h12.moved hW.alike⟩
theorem bc_X_same {g : bc_GG} {u U : State} {H : Heap} (hv : U.vm = u.vm) (h : bc_X g u H) : bc_X g U H := by
  obtain ⟨h1, h2, h3, h4, h5, h6, h7, h8, h9, h10, h11, h12⟩ := h
  have hA : u.vm.Alike U.vm := hv ▸ Vm.Alike.refl u.vm
  exact ⟨h1.moved hA, h2, h3, h4, h5.moved hA, h6.same hv, h7.same hv, h8.moved hA, h9.moved hA, fun q hq => (h10 q hq).same rfl hv.symm, h11.moved hA, h12.moved hA⟩
theorem bc_mem {w : Jvm.Cond} (q : Nat) (h : bc_lk q = some w) (hg : goodWord w = true) : w ∈ bc_T := List.mem_filter.mpr ⟨bc_lk_in h, hg⟩
theorem bc_good {L : List Jvm.Cond} (h : ∀ w ∈ L, w ∈ bc_T) : GoodIn bc_T L := fun w hw => ⟨h w hw, good_of_word (List.mem_filter.mp (h w hw)).2⟩
theorem bc_goodC {c : Jvm.Cond} (h : c ∈ bc_T) : GoodIn bc_T (c :: bc_T) := bc_good (fun w hw => by
  rcases List.mem_cons.mp hw with rfl | hw
  · exact h
  · exact hw)
def bc_QR (r : Option Value) : Array Value → State → Outcome → State → Prop := fun _ st o t => o = .returned r ∧ t.heap = st.heap
theorem bc_catsum {g : bc_GG} {ad : Nat → Nat} : ∀ st : bc_St, ((st.map (bc_cv g ad)).map (fun v => v.category)).sum = bc_cat st
  | [] => rfl
  | .inl x :: st => by
    show 1 + ((st.map (bc_cv g ad)).map (fun v => v.category)).sum = 1 + bc_cat st
    rw [bc_catsum st]
  | .inr (.inl x) :: st => by
    show 2 + ((st.map (bc_cv g ad)).map (fun v => v.category)).sum = 2 + bc_cat st
    rw [bc_catsum st]
  | .inr (.inr x) :: st => by
    show (bc_cv g ad (.inr (.inr x))).category + ((st.map (bc_cv g ad)).map (fun v => v.category)).sum = 1 + bc_cat st
    rw [bc_catsum st, bc_catr]
/-! the JDK's methods of String constants -/
abbrev bc_yLen : MethodName := ⟨"java/lang/String", "length", "()I"⟩
abbrev bc_yCoder : MethodName := ⟨"java/lang/String", "coder", "()B"⟩
abbrev bc_yChar : MethodName := ⟨"java/lang/String", "charAt", "(I)C"⟩
abbrev bc_yIs1 : MethodName := ⟨"java/lang/String", "isLatin1", "()Z"⟩
abbrev bc_yL1 : MethodName := ⟨"java/lang/StringLatin1", "charAt", "([BI)C"⟩
abbrev bc_yCkS : MethodName := ⟨"java/lang/String", "checkIndex", "(II)V"⟩
abbrev bc_yCkP : MethodName := ⟨"jdk/internal/util/Preconditions", "checkIndex", "(IILjava/util/function/BiFunction;)I"⟩
abbrev bc_bLen : ByteArray := prog_18_method_54_code
abbrev bc_bCoder : ByteArray := prog_18_method_152_code
abbrev bc_bChar : ByteArray := prog_18_method_56_code
abbrev bc_bIs1 : ByteArray := prog_18_method_154_code
abbrev bc_bL1 : ByteArray := prog_19_method_2_code
abbrev bc_bCkS : ByteArray := prog_18_method_155_code
abbrev bc_bCkP : ByteArray := prog_23_method_11_code
theorem bc_m59 : Cond.code bc_yLen bc_bLen 1 (some .int) ∈ bc_T := bc_mem 59 rfl rfl
theorem bc_m63 : Cond.code bc_yCoder bc_bCoder 1 (some .byte) ∈ bc_T := bc_mem 63 rfl rfl
theorem bc_m69 : Cond.code bc_yChar bc_bChar 2 (some .char) ∈ bc_T := bc_mem 69 rfl rfl
theorem bc_m73 : Cond.code bc_yIs1 bc_bIs1 1 (some .boolean) ∈ bc_T := bc_mem 73 rfl rfl
theorem bc_m76 : Cond.code bc_yL1 bc_bL1 2 (some .char) ∈ bc_T := bc_mem 76 rfl rfl
theorem bc_m79 : Cond.code bc_yCkS bc_bCkS 2 none ∈ bc_T := bc_mem 79 rfl rfl
theorem bc_m84 : Cond.code bc_yCkP bc_bCkP 3 (some .int) ∈ bc_T := bc_mem 84 rfl rfl
theorem bc_m57 : Cond.instanceMethod bc_yLen ∈ bc_T := bc_mem 57 rfl rfl
theorem bc_m58 : Cond.selects "java/lang/String" bc_yLen bc_yLen ∈ bc_T := bc_mem 58 rfl rfl
theorem bc_m67 : Cond.instanceMethod bc_yChar ∈ bc_T := bc_mem 67 rfl rfl
theorem bc_m68 : Cond.selects "java/lang/String" bc_yChar bc_yChar ∈ bc_T := bc_mem 68 rfl rfl
theorem bc_m60 : Cond.methodLink "java/lang/String" 335 bc_yCoder ∈ bc_T := bc_mem 60 rfl rfl
theorem bc_m61 : Cond.instanceMethod bc_yCoder ∈ bc_T := bc_mem 61 rfl rfl
theorem bc_m62 : Cond.selects "java/lang/String" bc_yCoder bc_yCoder ∈ bc_T := bc_mem 62 rfl rfl
theorem bc_m70 : Cond.methodLink "java/lang/String" 492 bc_yIs1 ∈ bc_T := bc_mem 70 rfl rfl
theorem bc_m71 : Cond.instanceMethod bc_yIs1 ∈ bc_T := bc_mem 71 rfl rfl
theorem bc_m72 : Cond.selects "java/lang/String" bc_yIs1 bc_yIs1 ∈ bc_T := bc_mem 72 rfl rfl
theorem bc_m74 : Cond.methodLink "java/lang/String" 495 bc_yL1 ∈ bc_T := bc_mem 74 rfl rfl
theorem bc_m75 : Cond.static bc_yL1 ∈ bc_T := bc_mem 75 rfl rfl
theorem bc_m77 : Cond.methodLink "java/lang/StringLatin1" 9 bc_yCkS ∈ bc_T := bc_mem 77 rfl rfl
theorem bc_m78 : Cond.static bc_yCkS ∈ bc_T := bc_mem 78 rfl rfl
theorem bc_m82 : Cond.methodLink "java/lang/String" 1059 bc_yCkP ∈ bc_T := bc_mem 82 rfl rfl
theorem bc_m83 : Cond.static bc_yCkP ∈ bc_T := bc_mem 83 rfl rfl
theorem bc_m4 : Cond.initialized "java/lang/String" ∈ bc_T := bc_mem 4 rfl rfl
theorem bc_m5 : Cond.initialized "java/lang/StringLatin1" ∈ bc_T := bc_mem 5 rfl rfl
theorem bc_m6 : Cond.initialized "jdk/internal/util/Preconditions" ∈ bc_T := bc_mem 6 rfl rfl
theorem bc_m64 : Cond.fieldLink "java/lang/String" 38 "java/lang/String" "COMPACT_STRINGS" "Z" ∈ bc_T := bc_mem 64 rfl rfl
theorem bc_m80 : Cond.fieldLink "java/lang/String" 1053 "jdk/internal/util/Preconditions" "SIOOBE_FORMATTER" "Ljava/util/function/BiFunction;" ∈ bc_T := bc_mem 80 rfl rfl
theorem bc_m9015 : Cond.fieldLink "java/lang/String" 9 "java/lang/String" "value" "[B" ∈ bc_T := bc_mem 9015 rfl rfl
theorem bc_m9016 : Cond.fieldLink "java/lang/String" 15 "java/lang/String" "coder" "B" ∈ bc_T := bc_mem 9016 rfl rfl
