/-! ===== a name more ===== -/
theorem bs_fst_no (p : Int → Prop) [DecidablePred p] {n : Int} (n0 : 0 ≤ n) : bs_fst p n = -1 ↔ ∀ i, 0 ≤ i → i < n → ¬ p i := by
  have key : ∀ m : Nat, bs_fst p (m : Int) = -1 ↔ ∀ i, 0 ≤ i → i < (m : Int) → ¬ p i := by
    intro m
    induction m with
    | zero => exact ⟨fun _ i i0 i1 => absurd i1 (by omega), fun _ => rfl⟩
    | succ m ih =>
      have st := bs_fstS p (n := (m : Int)) (by omega)
      rw [show ((m + 1 : Nat) : Int) = (m : Int) + 1 by omega, st]
      constructor
      · intro h i i0 i1
        by_cases z : bs_fst p (m : Int) = -1
        · rw [if_pos z] at h
          by_cases e : i = m
          · subst e
            intro hp
            rw [if_pos hp] at h; omega
          · exact ih.1 z i i0 (by omega)
        · rw [if_neg z] at h; exact absurd h z
      · intro h
        have z := ih.2 (fun i i0 i1 => h i i0 (by omega))
        rw [if_pos z, if_neg (h m (by omega) (by omega))]
  have := key n.toNat
  rw [show ((n.toNat : Nat) : Int) = n by omega] at this
  exact this
theorem bs_w256_inj {T U : Int → Int} {q r : Int} : ∀ m m' : Nat, (∀ k, q ≤ k → k < q + m → bs_let (T k)) → (∀ k, r ≤ k → k < r + m' → bs_let (U k)) → m ≤ 8 → m' ≤ 8 → bs_c256 (bs_wl T q (q + m)) = bs_c256 (bs_wl U r (r + m')) → m = m' ∧ ∀ i : Int, 0 ≤ i → i < m → T (q + i) = U (r + i)
  | 0, 0, _, _, _, _, _ => ⟨rfl, fun i i0 i1 => absurd i1 (by omega)⟩
  | 0, m' + 1, _, hU, _, h8, e => by
    have l := hU (r + m') (by omega) (by omega)
    have c := bs_c256_r U (q := r) m' (by omega) (fun k a b => hU k a (by omega))
    rw [show q + ((0 : Nat) : Int) = q by omega, bs_wl_0, show r + ((m' + 1 : Nat) : Int) = r + (m' : Int) + 1 by omega, bs_wl_s U (by omega), bs_c256_s] at e
    have e : (0 : Int) = bs_c256 (bs_wl U r (r + m')) * 256 + (96 + (U (r + m') - 96)) := e
    unfold bs_let at l
    omega
  | m + 1, 0, hT, _, h8, _, e => by
    have l := hT (q + m) (by omega) (by omega)
    have c := bs_c256_r T (q := q) m (by omega) (fun k a b => hT k a (by omega))
    rw [show r + ((0 : Nat) : Int) = r by omega, bs_wl_0, show q + ((m + 1 : Nat) : Int) = q + (m : Int) + 1 by omega, bs_wl_s T (by omega), bs_c256_s] at e
    have e : bs_c256 (bs_wl T q (q + m)) * 256 + (96 + (T (q + m) - 96)) = (0 : Int) := e
    unfold bs_let at l
    omega
  | m + 1, m' + 1, hT, hU, h8, h8', e => by
    have l := hT (q + m) (by omega) (by omega)
    have l' := hU (r + m') (by omega) (by omega)
    rw [show q + ((m + 1 : Nat) : Int) = q + (m : Int) + 1 by omega, bs_wl_s T (by omega), bs_c256_s, show r + ((m' + 1 : Nat) : Int) = r + (m' : Int) + 1 by omega, bs_wl_s U (by omega), bs_c256_s] at e
    unfold bs_let at l l'
    have ih := bs_w256_inj m m' (fun k a b => hT k a (by omega)) (fun k a b => hU k a (by omega)) (by omega) (by omega) (by omega)
    refine ⟨by omega, fun i i0 i1 => ?_⟩
    by_cases z : i = m
    · subst z
      have := ih.1
      subst this
      omega
    · exact ih.2 i i0 (by omega)
theorem bs_word_wl {l : List Int} (h : bs_word l) : ∃ (T : Int → Int) (m : Nat), m ≤ 8 ∧ (∀ k, 0 ≤ k → k < 0 + (m : Int) → bs_let (T k)) ∧ l = bs_wl T 0 (0 + m) := by
  refine ⟨fun k => l.getD k.toNat 0 + 96, l.length, h.2.1, fun k k0 k1 => ?_, ?_⟩
  · have hk : k.toNat < l.length := by omega
    have e : l.getD k.toNat 0 = l[k.toNat] := by rw [List.getD_eq_getElem?_getD, List.getElem?_eq_getElem hk]; rfl
    have := h.2.2 l[k.toNat] (List.getElem_mem hk)
    unfold bs_let
    show 97 ≤ l.getD k.toNat 0 + 96 ∧ l.getD k.toNat 0 + 96 ≤ 122
    rw [e]; omega
  · unfold bs_wl
    rw [show (0 + (l.length : Int) - 0).toNat = l.length by omega]
    refine List.ext_getElem (by rw [List.length_map, List.length_range]) (fun i h1 h2 => ?_)
    rw [List.getElem_map, List.getElem_range]
    show l[i] = l.getD (0 + (i : Int)).toNat 0 + 96 - 96
    rw [show (0 + (i : Int)).toNat = i by omega, List.getD_eq_getElem?_getD, List.getElem?_eq_getElem h1]
    show l[i] = l[i] + 96 - 96
    omega
theorem bs_word_inj {l l' : List Int} (h : bs_word l) (h' : bs_word l') : (bs_c32 l = bs_c32 l' → l = l') ∧ (bs_c256 l = bs_c256 l' → l = l') := by
  obtain ⟨T, m, m8, hT, rfl⟩ := bs_word_wl h
  obtain ⟨U, m', m8', hU, rfl⟩ := bs_word_wl h'
  have fin : (m = m' ∧ ∀ i : Int, 0 ≤ i → i < m → T (0 + i) = U (0 + i)) → bs_wl T 0 (0 + m) = bs_wl U 0 (0 + m') := fun ⟨e, f⟩ => by
    subst e; exact bs_wl_eq m f
  exact ⟨fun e => fin (bs_wl_inj m m' hT hU m8 m8' e), fun e => fin (bs_w256_inj m m' hT hU m8 m8' e)⟩
/-- the first of the kind K, before and behind a new entry -/
theorem bs_cn_add {n x K k y z : Int} {co ki nu : Int → Int} (n0 : 0 ≤ n) (hz : z ≠ -1) : bs_cn (n + 1) (bc_set co n y) (bc_set ki n k) (bc_set nu n z) K x = if bs_fst (fun i => co i = x ∧ ki i = K) n = -1 then (if y = x ∧ k = K then z else -1) else bs_cn n co ki nu K x := by
  have e : bs_fst (fun i => bc_set co n y i = x ∧ bc_set ki n k i = K) n = bs_fst (fun i => co i = x ∧ ki i = K) n := bs_fst_congr (fun i i0 i1 => by rw [bc_setn (by omega), bc_setn (by omega)])
  have r : bs_fst (fun i => co i = x ∧ ki i = K) n = -1 ∨ (0 ≤ bs_fst (fun i => co i = x ∧ ki i = K) n ∧ bs_fst (fun i => co i = x ∧ ki i = K) n < n) := by
    refine bc_it_ind (fun (n : Int) (r : Int) => r = -1 ∨ (0 ≤ r ∧ r < n)) (Or.inl rfl) (fun i r i0 ih => ?_) n0
    (repeat' split) <;> omega
  unfold bs_cn
  rw [bs_fstS _ n0, e, bc_setj, bc_setj]
  by_cases u : bs_fst (fun i => co i = x ∧ ki i = K) n = -1
  · rw [if_pos u, if_pos u]
    by_cases v : y = x ∧ k = K
    · rw [if_pos v, if_neg (by omega), bc_setj, if_pos v]
    · rw [if_neg v, if_pos rfl, if_neg v]
  · rw [if_neg u, if_neg u, if_neg u, bc_setn (by omega), if_neg u]
theorem bs_rn_add {NM : Int → Int} {off m x y : Int} (m0 : 0 ≤ m) : bs_rn (bc_set NM (off + m) y) off (m + 1) x = if bs_rn NM off m x = -1 then (if y = x then m else -1) else bs_rn NM off m x := by
  have e : bs_fst (fun k => bc_set NM (off + m) y (off + k) = x) m = bs_fst (fun k => NM (off + k) = x) m := bs_fst_congr (fun i i0 i1 => by rw [bc_setn (by omega)])
  unfold bs_rn
  rw [bs_fstS _ m0, e, bc_setj]
theorem bs_rn_keep {NM : Int → Int} {off m x j y : Int} (h : j < off ∨ off + m ≤ j) : bs_rn (bc_set NM j y) off m x = bs_rn NM off m x := bs_rn_A (fun k k0 k1 => bc_setn (by omega))
theorem bs_fst_add {co : Int → Int} {n x y : Int} (n0 : 0 ≤ n) : bs_fst (fun i => bc_set co n y i = x) (n + 1) = if bs_fst (fun i => co i = x) n = -1 then (if y = x then n else -1) else bs_fst (fun i => co i = x) n := by
  have e : bs_fst (fun i => bc_set co n y i = x) n = bs_fst (fun i => co i = x) n := bs_fst_congr (fun i i0 i1 => by rw [bc_setn (by omega)])
  rw [bs_fstS _ n0, e, bc_setj]
/-- which kind has which place and which names -/
def bs_kd (K i off : Int) : Prop := (K = 2 ∧ i = 0 ∧ off = 0) ∨ (K = 3 ∧ i = 1 ∧ off = 5) ∨ (K = 8 ∧ i = 2 ∧ off = 12) ∨ (K = 11 ∧ i = 3 ∧ off = 18)
theorem bs_Nm_kd {n K i off : Int} {co ki nu B NM : Int → Int} (h : bs_Nm n co ki nu B NM) (hk : bs_kd K i off) {l : List Int} (hl : bs_word l) : bs_cn n co ki nu K (bs_c32 l) = bs_rn NM off (B i) (bs_c256 l) := by
  have t := (h.2 l hl).1
  rcases hk with ⟨rfl, rfl, rfl⟩ | ⟨rfl, rfl, rfl⟩ | ⟨rfl, rfl, rfl⟩ | ⟨rfl, rfl, rfl⟩
  · exact t.1
  · exact t.2.1
  · exact t.2.2.1
  · exact t.2.2.2
theorem bs_Nm_add {n K i off : Int} {co ki nu B NM : Int → Int} {l0 : List Int} (h : bs_Nm n co ki nu B NM) (hk : bs_kd K i off) (b0 : 0 ≤ B 0 ∧ B 0 ≤ 5) (b1 : 0 ≤ B 1 ∧ B 1 ≤ 7) (b2 : 0 ≤ B 2 ∧ B 2 ≤ 6) (b3 : 0 ≤ B 3 ∧ B 3 ≤ 8) (room : off + B i < off + (if i = 0 then 5 else if i = 1 then 7 else if i = 2 then 6 else 8)) (hl0 : bs_word l0) (fresh : bs_fst (fun j => co j = bs_c32 l0) n = -1) {B' : Int → Int} (eB : ∀ j, 0 ≤ j → j < 4 → B' j = bc_set B i (B i + 1) j) : bs_Nm (n + 1) (bc_set co n (bs_c32 l0)) (bc_set ki n K) (bc_set nu n (B i)) B' (bc_set NM (off + B i) (bs_c256 l0)) := by
  obtain ⟨⟨n0, n1⟩, hw⟩ := h
  have e0 := eB 0 (by omega) (by omega)
  have e1 := eB 1 (by omega) (by omega)
  have e2 := eB 2 (by omega) (by omega)
  have e3 := eB 3 (by omega) (by omega)
  have hk' := hk
  have bi : 0 ≤ B i ∧ B i ≠ -1 := by
    rcases hk with ⟨rfl, rfl, rfl⟩ | ⟨rfl, rfl, rfl⟩ | ⟨rfl, rfl, rfl⟩ | ⟨rfl, rfl, rfl⟩ <;> omega
  have fk : ∀ K', bs_fst (fun j => co j = bs_c32 l0 ∧ ki j = K') n = -1 := fun K' => (bs_fst_no _ n0).2 (fun j j0 j1 u => (bs_fst_no _ n0).1 fresh j j0 j1 u.1)
  have ck : ∀ K', bs_cn n co ki nu K' (bs_c32 l0) = -1 := fun K' => by unfold bs_cn; rw [if_pos (fk K')]
  refine ⟨?_, fun l hl => ?_⟩
  · rw [e0, e1, e2, e3]
    rcases hk with ⟨rfl, rfl, rfl⟩ | ⟨rfl, rfl, rfl⟩ | ⟨rfl, rfl, rfl⟩ | ⟨rfl, rfl, rfl⟩
    · rw [bc_setj, bc_setn (by decide), bc_setn (by decide), bc_setn (by decide)]; omega
    · rw [bc_setj, bc_setn (by decide), bc_setn (by decide), bc_setn (by decide)]; omega
    · rw [bc_setj, bc_setn (by decide), bc_setn (by decide), bc_setn (by decide)]; omega
    · rw [bc_setj, bc_setn (by decide), bc_setn (by decide), bc_setn (by decide)]; omega
  · have old := hw l hl
    have inj := bs_word_inj hl0 hl
    -- the class's lookups
    have cls : ∀ K', bs_cn (n + 1) (bc_set co n (bs_c32 l0)) (bc_set ki n K) (bc_set nu n (B i)) K' (bs_c32 l) = if l0 = l ∧ K = K' then B i else bs_cn n co ki nu K' (bs_c32 l) := fun K' => by
      rw [bs_cn_add n0 bi.2]
      by_cases el : l0 = l
      · subst el
        rw [if_pos (fk K'), ck K']
        by_cases ek : K = K'
        · rw [if_pos ⟨rfl, ek⟩, if_pos ⟨rfl, ek⟩]
        · rw [if_neg (fun u => ek u.2), if_neg (fun u => ek u.2)]
      · rw [if_neg (c := l0 = l ∧ K = K') (fun u => el u.1)]
        by_cases z : bs_fst (fun j => co j = bs_c32 l ∧ ki j = K') n = -1
        · rw [if_pos z, if_neg (fun u => el (inj.1 u.1))]
          unfold bs_cn; rw [if_pos z]
        · rw [if_neg z]
    have ref : bs_rn (bc_set NM (off + B i) (bs_c256 l0)) off (B i + 1) (bs_c256 l) = if l0 = l then B i else bs_rn NM off (B i) (bs_c256 l) := by
      rw [bs_rn_add bi.1]
      by_cases el : l0 = l
      · subst el
        have : bs_rn NM off (B i) (bs_c256 l0) = -1 := by rw [← bs_Nm_kd ⟨⟨n0, n1⟩, hw⟩ hk' hl0]; exact ck K
        rw [if_pos this, if_pos rfl, if_pos rfl]
      · rw [if_neg (c := l0 = l) el]
        by_cases z : bs_rn NM off (B i) (bs_c256 l) = -1
        · rw [if_pos z, if_neg (fun u => el (inj.2 u)), z]
        · rw [if_neg z]
    have tk : bs_fst (fun j => bc_set co n (bs_c32 l0) j = bs_c32 l) (n + 1) ≠ -1 ↔ (l0 = l ∨ bs_fst (fun j => co j = bs_c32 l) n ≠ -1) := by
      rw [bs_fst_add n0]
      by_cases el : l0 = l
      · subst el
        rw [if_pos fresh, if_pos rfl]
        exact ⟨fun _ => Or.inl rfl, fun _ => by omega⟩
      · by_cases z : bs_fst (fun j => co j = bs_c32 l) n = -1
        · rw [if_pos z, if_neg (fun u => el (inj.1 u))]
          exact ⟨fun u => absurd rfl u, fun u => by rcases u with u | u; exact absurd u el; exact absurd z u⟩
        · rw [if_neg z]
          exact ⟨fun u => Or.inr u, fun _ => z⟩
    rw [tk, old.2, cls 2, cls 3, cls 8, cls 11, e0, e1, e2, e3, old.1.1, old.1.2.1, old.1.2.2.1, old.1.2.2.2]
    rcases hk with ⟨rfl, rfl, rfl⟩ | ⟨rfl, rfl, rfl⟩ | ⟨rfl, rfl, rfl⟩ | ⟨rfl, rfl, rfl⟩
    · rw [bc_setj, bc_setn (by decide), bc_setn (by decide), bc_setn (by decide), ref, bs_rn_keep (off := 5) (by omega), bs_rn_keep (off := 12) (by omega), bs_rn_keep (off := 18) (by omega)]
      by_cases el : l0 = l
      · simp [el]; omega
      · simp [el]
    · rw [bc_setj, bc_setn (by decide), bc_setn (by decide), bc_setn (by decide), ref, bs_rn_keep (off := 0) (by omega), bs_rn_keep (off := 12) (by omega), bs_rn_keep (off := 18) (by omega)]
      by_cases el : l0 = l
      · simp [el]; omega
      · simp [el]
    · rw [bc_setj, bc_setn (by decide), bc_setn (by decide), bc_setn (by decide), ref, bs_rn_keep (off := 0) (by omega), bs_rn_keep (off := 5) (by omega), bs_rn_keep (off := 18) (by omega)]
      by_cases el : l0 = l
      · simp [el]; omega
      · simp [el]
    · rw [bc_setj, bc_setn (by decide), bc_setn (by decide), bc_setn (by decide), ref, bs_rn_keep (off := 0) (by omega), bs_rn_keep (off := 5) (by omega), bs_rn_keep (off := 12) (by omega)]
      by_cases el : l0 = l
      · simp [el]; omega
      · simp [el]
