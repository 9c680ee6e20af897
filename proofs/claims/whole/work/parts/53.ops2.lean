/-! ===== calls on trays and the tape ===== -/
theorem bs_kf {s q a b : Int} (k : bs_keep s q a b) : (a ≠ 0 ∨ b ≠ 0) ∧ (a ≠ 156 ∨ b ≠ 2) := by
  unfold bs_keep at k
  omega
theorem bs_k1 {s q a b : Int} (e : a < 0) : bs_keep s q a b := Or.inl e
theorem bs_k2 {s q b : Int} (e : b ≠ 0) : bs_keep s q 0 b := Or.inr (Or.inl ⟨rfl, e⟩)
theorem bs_k3 {s q a b : Int} (e : 1 ≤ a ∧ a ≤ 5) : bs_keep s q a b := Or.inr (Or.inr (Or.inl e))
theorem bs_k6 {s q b : Int} (e : b ≤ 2) : bs_keep s q 6 b := Or.inr (Or.inr (Or.inr (Or.inl ⟨rfl, e⟩)))
theorem bs_k7 {s q b : Int} : bs_keep s q 7 b := Or.inr (Or.inr (Or.inr (Or.inr (Or.inl rfl))))
theorem bs_k8 {s q b : Int} : bs_keep s q 8 b := Or.inr (Or.inr (Or.inr (Or.inr (Or.inr (Or.inl rfl)))))
theorem bs_k13 {s q b : Int} : bs_keep s q 13 b := Or.inr (Or.inr (Or.inr (Or.inr (Or.inr (Or.inr (Or.inl rfl))))))
theorem bs_kc {s q a b : Int} (e : 24 ≤ a) (e2 : a ≤ 155) (e3 : ¬ (s ≤ a ∧ a < s + 20)) (e4 : ¬ (q ≤ a ∧ a < q + 6)) : bs_keep s q a b := Or.inr (Or.inr (Or.inr (Or.inr (Or.inr (Or.inr (Or.inr (Or.inl ⟨e, e2, e3, e4⟩)))))))
theorem bs_k156 {s q b : Int} (e : b = 3 ∨ b = 4 ∨ b = 10 ∨ b = 16 ∨ b = 17 ∨ b = 48 ∨ b = 49) : bs_keep s q 156 b := Or.inr (Or.inr (Or.inr (Or.inr (Or.inr (Or.inr (Or.inr (Or.inr (Or.inl ⟨rfl, e⟩))))))))
theorem bs_k157 {s q b : Int} (e : b < 2112) : bs_keep s q 157 b := Or.inr (Or.inr (Or.inr (Or.inr (Or.inr (Or.inr (Or.inr (Or.inr (Or.inr (Or.inl ⟨rfl, e⟩)))))))))
theorem bs_k158 {s q b : Int} (e : b < 104) : bs_keep s q 158 b := Or.inr (Or.inr (Or.inr (Or.inr (Or.inr (Or.inr (Or.inr (Or.inr (Or.inr (Or.inr (Or.inl ⟨rfl, e⟩))))))))))
theorem bs_k159 {s q a b : Int} (e : 159 ≤ a ∧ a ≤ 162) : bs_keep s q a b := Or.inr (Or.inr (Or.inr (Or.inr (Or.inr (Or.inr (Or.inr (Or.inr (Or.inr (Or.inr (Or.inr (Or.inl e)))))))))))
theorem bs_k182 {s q b : Int} : bs_keep s q 182 b := Or.inr (Or.inr (Or.inr (Or.inr (Or.inr (Or.inr (Or.inr (Or.inr (Or.inr (Or.inr (Or.inr (Or.inr (Or.inl rfl))))))))))))
theorem bs_k184 {s q b : Int} : bs_keep s q 184 b := Or.inr (Or.inr (Or.inr (Or.inr (Or.inr (Or.inr (Or.inr (Or.inr (Or.inr (Or.inr (Or.inr (Or.inr (Or.inr rfl))))))))))))
/-- other trays, or another tape -/
theorem bs_R_T {S : Int → Int} {L c s p q : Int} {h h' : bc_H} (hR : bs_R S L c s p q h) (hF : ∀ a b, bs_keep s q a b → ¬ (3 ≤ a ∧ a ≤ 7) → ¬ (159 ≤ a ∧ a ≤ 162) → (a ≠ 156 ∨ b ≠ 10) → h' a b = h a b) (hs : h' 0 0 = h' 156 2) (ht : bs_Rtr (h' 3) (h' 4) (h' 5) (h' 159) (h' 160) (h' 161)) (htp : bs_Rtp (h' 6 0) (h' 156 10) (h' 7) (h' 162)) (hf : h' 6 1 = h' 156 16 ∧ h' 6 2 = h' 156 17) : bs_R S L c s p q h' := by
  obtain ⟨r1, r2, r3, r4, r5, r6, r7, r8, r9, r10, r11, ⟨m1, m2, m3, m4⟩, r13⟩ := hR
  have row : ∀ a, a ≠ 156 → ¬ (3 ≤ a ∧ a ≤ 7) → ¬ (159 ≤ a ∧ a ≤ 162) → (∀ b, bs_keep s q a b) → h' a = h a := fun a h1 h2 h3 hk => funext (fun b => hF a b (hk b) h2 h3 (Or.inl h1))
  have f0 : ∀ b, b ≠ 0 → h' 0 b = h 0 b := fun b hb => hF 0 b (bs_k2 hb) (by omega) (by omega) (by omega)
  have fm : ∀ b, (b = 3 ∨ b = 4 ∨ b = 48 ∨ b = 49) → h' 156 b = h 156 b := fun b hb => hF 156 b (bs_k156 (by omega)) (by omega) (by omega) (by omega)
  have fc : ∀ a b, 24 ≤ a → a ≤ 155 → ¬ (s ≤ a ∧ a < s + 20) → ¬ (q ≤ a ∧ a < q + 6) → h' a b = h a b := fun a b h1 h2 h3 h4 => hF a b (bs_kc h1 h2 h3 h4) (by omega) (by omega) (by omega)
  have f157 : ∀ k, k < 2112 → h' 157 k = h 157 k := fun k hk => hF 157 k (bs_k157 hk) (by omega) (by omega) (by omega)
  have f158 : ∀ k, k < 104 → h' 158 k = h 158 k := fun k hk => hF 158 k (bs_k158 hk) (by omega) (by omega) (by omega)
  refine ⟨r1, ?_, ?_, hs, ?_, ht, htp, hf, ?_, ?_, ?_, ⟨?_, ?_, ?_, ?_⟩, ?_⟩
  · rw [f0 12 (by omega), f0 13 (by omega), f0 14 (by omega), f0 15 (by omega)]; exact r2
  · rw [row (-2) (by omega) (by omega) (by omega) (fun b => bs_k1 (by omega)), row (-3) (by omega) (by omega) (by omega) (fun b => bs_k1 (by omega))]; exact r3
  · rw [f0 1 (by omega), f0 2 (by omega), fm 3 (by omega), fm 4 (by omega)]; exact r5
  · rw [f0 3 (by omega), fm 48 (by omega), row 1 (by omega) (by omega) (by omega) (fun b => bs_k3 (by omega)), row 184 (by omega) (by omega) (by omega) (fun b => bs_k184)]; exact r9
  · rw [row 13 (by omega) (by omega) (by omega) (fun b => bs_k13), row 182 (by omega) (by omega) (by omega) (fun b => bs_k182)]; exact r10
  · rw [row 8 (by omega) (by omega) (by omega) (fun b => bs_k8)]; exact r11
  · rw [f0 16 (by omega), fm 49 (by omega)]; exact m1
  · rw [f0 16 (by omega)]; exact m2
  · rw [show h' 76 = h 76 from funext (fun b => fc 76 b (by omega) (by omega) (by omega) (by omega)), show h' 77 = h 77 from funext (fun b => fc 77 b (by omega) (by omega) (by omega) (by omega))]; exact m3
  · intro i i0 i1
    rw [f0 16 (by omega)] at i1
    exact bs_Cave_h (fun a b hab => fc a b (by omega) (by omega) (by omega) (by omega)) (fun k k0 k1 => f157 _ (by omega)) (fun k k0 k1 => f158 _ (by omega)) (m4 i i0 i1)
  · exact bs_Cave_h (fun a b hab => fc a b (by omega) (by omega) (by omega) (by omega)) (fun k k0 k1 => f157 k (by omega)) (fun k k0 k1 => f158 k (by omega)) r13
def bs_cut (v t : Int) : Int := if t = 0 then bc_w8 (bc_w32 v) else if t = 1 then bc_w16 (bc_w32 v) else if t = 2 then bc_w32 v else v
theorem bc_c_cut {d : Nat} {v t : Int} {h : bc_H} {K : Int → bc_H → Prop} (hK : K (bs_cut v t) h) : bf_Trays_cut d v t h (bc_J K) := by
  unfold bs_cut at hK
  refine rv_Trays_cut ⟨fun z => ?_, fun z => ⟨fun z1 => ?_, fun z1 => ⟨fun z2 => ?_, fun z2 => ?_⟩⟩⟩
  · rw [if_pos z] at hK; exact hK
  · rw [if_neg z, if_pos z1] at hK; exact hK
  · rw [if_neg z, if_neg z1, if_pos z2] at hK; exact hK
  · rw [if_neg z, if_neg z1, if_neg z2] at hK; exact hK
theorem bc_m_cut {d : Nat} {v t : Int} {h : bc_H} {K : Int → bc_H → Prop} (hK : K (bs_cut v t) h) : bf_M_cut d v t h (bc_J K) := by
  unfold bs_cut at hK
  refine rv_M_cut ⟨fun z => ⟨fun z1 => ⟨fun z2 => ?_, fun z2 => ?_⟩, fun z1 => ?_⟩, fun z => ?_⟩
  · rw [if_neg z, if_neg z1, if_neg z2] at hK; exact hK
  · rw [if_neg z, if_neg z1, if_pos z2] at hK; exact hK
  · rw [if_neg z, if_pos z1] at hK; exact hK
  · rw [if_pos z] at hK; exact hK
def bs_wp (h : bc_H) (t k : Int) : Int := if 0 ≤ t ∧ t < 4 then (if h 160 t = -1 then 2 else if k < 0 ∨ h 160 t ≤ k then 3 else 0) else 1
theorem bc_c_sop {d : Nat} {t k : Int} {S : Int → Int} {L c s p q : Int} {h : bc_H} (hR : bs_R S L c s p q h) {K : Int → bc_H → Prop} (hK : K (bs_wp h t k) h) : bf_X_statusOfPlace (d + 4) t k h (bc_I K) := by
  obtain ⟨⟨hcs, hpq⟩, ⟨e12, e13, e14, e15⟩, hS, est, efr, htr, htp, hfa, hlv, hlo, hrs, hmk, ⟨hC, hW, hck, hN, hP⟩⟩ := id hR
  obtain ⟨⟨n4, n5, n6, n2, n0, n1, n3⟩, hw, hd, hg, hf, hm⟩ := id hC
  obtain ⟨⟨w0, w1, w2, w3, w4, w5, w7⟩, hww, hwy, hwv, hwf, hwg⟩ := id hW
  unfold bs_wp at hK
  refine rv_X_statusOfPlace ?_
  by_cases ht : 0 ≤ t ∧ t < 4
  · rw [if_pos ht] at hK
    have tt := htr t ht.1 ht.2
    rcases tt with ⟨t1, t2, t3⟩ | ⟨t1, t2, t3, t4, t5⟩
    · rw [if_pos t3] at hK
      rw [t1, t2]
      (repeat' with_reducible (first | intro _ | apply And.intro))
      all_goals first
        | omega
        | exact hK
        | (exfalso; omega)
    · rw [if_neg (by omega), ← t3] at hK
      by_cases hk : k < 0 ∨ h 4 t ≤ k
      · rw [if_pos hk] at hK
        by_cases hk2 : 0 ≤ k ∧ k ≤ h 4 t
        · rw [bc_wi (x := h 4 t - k) (by omega) (by omega)]
          (repeat' with_reducible (first | intro _ | apply And.intro))
          all_goals first
            | omega
            | exact hK
            | (exfalso; omega)
        · (repeat' with_reducible (first | intro _ | apply And.intro))
          all_goals first
            | omega
            | exact hK
            | (exfalso; omega)
      · rw [if_neg hk] at hK
        rw [bc_wi (x := h 4 t - k) (by omega) (by omega)]
        (repeat' with_reducible (first | intro _ | apply And.intro))
        all_goals first
          | omega
          | exact hK
          | (exfalso; omega)
  · rw [if_neg ht] at hK
    (repeat' with_reducible (first | intro _ | apply And.intro))
    all_goals first
      | omega
      | exact hK
      | (exfalso; omega)
theorem bc_m_wrongPlace {d : Nat} {t k : Int} {h : bc_H} {K : Int → bc_H → Prop} (hK : K (bs_wp h t k) h) : bf_M_wrongPlace (d + 1) t k h (bc_I K) := by
  unfold bs_wp at hK
  refine rv_M_wrongPlace ⟨fun ht => ?_, fun ht => ?_⟩
  · rw [if_pos ht] at hK
    refine ⟨ht, fun h1 => ?_, fun h1 => ?_⟩
    · rw [if_neg h1] at hK
      refine ⟨fun z => ?_, fun z => ⟨ht, ?_⟩⟩
      · rw [if_pos (Or.inl z)] at hK; exact hK
      · by_cases q : k < h 160 t
        · rw [if_neg (by omega)] at hK; rw [if_pos q]; exact hK
        · rw [if_pos (by omega)] at hK; rw [if_neg q]; exact hK
    · rw [if_pos h1] at hK; exact hK
  · rw [if_neg ht] at hK; exact hK
