/-! ===== flicker ===== -/
theorem bc_c_flL {d : Nat} {o : Int} {h : bc_H} {A B : bc_H → Prop} {n : Nat} (e12 : 0 ≤ h 0 12) (eo : h (h 0 12) 1 = o) (o0 : 0 ≤ o) (o1 : o ≤ 16) (hn : n ≤ 12) : ∀ (j l : Nat) (s : Int), l + j = n + 1 ∨ (j = 0 ∧ n < l) → (0 ≤ bs_sm o n j l s ∧ bs_sm o n j l s < 562949953421312) → A (bc_upd (bc_upd (bc_upd h 0 1 (bc_w64 ((bs_sm o n j l s).tdiv (bs_gd (bs_sm o n j l s) (bs_pw 16 n 1))))) 0 2 (bc_w64 ((bs_pw 16 n 1).tdiv (bs_gd (bs_sm o n j l s) (bs_pw 16 n 1))))) 0 0 0) → bl_X_flicker_18 (d + 1) (n : Int) s (l : Int) h (bc_B A B)
  | 0, l, s, e, hb, hK => by
    have p := bs_pw16 n (by omega)
    exact rv_X_flicker_18 ⟨fun _ => bc_c_power n hn (bc_c_tellFraction hb.1 hb.2 p.1 p.2 hK), fun q => absurd q (by omega)⟩
  | j + 1, l, s, e, hb, hK => by
    refine rv_X_flicker_18 ⟨fun q => absurd q (by omega), fun _ => bc_c_choices l (by omega) (by omega) ⟨e12, bc_c_power l (by omega) ⟨e12, ?_⟩⟩⟩
    rw [eo, bc_wi (x := 16 - o) (by omega) (by omega), bc_wi (x := (n : Int) - l) (by omega) (by omega), show (n : Int) - l = ((n - l : Nat) : Int) by omega]
    refine bc_c_power (n - l) (by omega) ?_
    rw [bc_wi (x := (l : Int) + 1) (by omega) (by omega), show (l : Int) + 1 = ((l + 1 : Nat) : Int) by omega]
    rw [show bs_sm o n (j + 1) l s = bs_sm o n j (l + 1) (bc_w64 (s + bs_tm o n l)) from rfl, show bs_tm o n l = bc_w64 (bc_w64 (bs_ch n l 0 1 * bs_pw o l 1) * bs_pw (16 - o) (n - l) 1) from if_pos (by omega)] at hK hb
    exact bc_c_flL e12 eo o0 o1 hn j (l + 1) _ (by omega) hb hK
theorem bc_m_fl88 {d : Nat} {o x : Int} {h : bc_H} {A B : bc_H → Prop} {n : Nat} (hr : ∀ t : Nat, t ≤ 12 → h 181 t = bs_tm o n t) (x0 : 0 < x) (x1 : x < 562949953421312) : ∀ (j l : Nat) (s : Int), l + j = 13 → (0 ≤ bs_sm o n j l s ∧ bs_sm o n j l s < 562949953421312) → A (bc_upd (bc_upd (bc_upd h 156 3 (bc_w64 ((bs_sm o n j l s).tdiv (bs_gd (bs_sm o n j l s) x)))) 156 4 (bc_w64 (x.tdiv (bs_gd (bs_sm o n j l s) x)))) 156 2 0) → bl_M_flicker_88 (d + 2) x s (l : Int) h (bc_B A B)
  | 0, l, s, e, hb, hK => rv_M_flicker_88 (d := d + 1) ⟨fun _ => bc_m_tellsBy hb.1 hb.2 x0 x1 hK, fun q => absurd q (by omega)⟩
  | j + 1, l, s, e, hb, hK => by
    refine rv_M_flicker_88 (d := d + 1) ⟨fun q => absurd q (by omega), fun _ => ⟨by omega, ?_⟩⟩
    rw [hr l (by omega), bc_wi (x := (l : Int) + 1) (by omega) (by omega), show (l : Int) + 1 = ((l + 1 : Nat) : Int) by omega]
    exact bc_m_fl88 hr x0 x1 j (l + 1) _ (by omega) hb hK
theorem bc_m_fl41 {d : Nat} {o x k j : Int} {n : Nat} {h0 : bc_H} {A B : bc_H → Prop} {n' : Int} (o0 : 0 ≤ o) (o1 : o ≤ 16) (hn : n < 12) (eo : h0 157 5 = o) (hK : ∀ h', (∀ a, a ≠ 181 → h' a = h0 a) → (∀ t : Nat, t ≤ 12 → h' 181 t = bs_tm o (n + 1) t) → bl_M_flicker_36 (d + 1) n' k (bc_w64 (x * 16)) (bc_w32 (j + 1)) h' (bc_B A B)) : ∀ (i : Nat) (h : bc_H), i ≤ 13 → (∀ a, a ≠ 181 → h a = h0 a) → (∀ t : Nat, t ≤ 12 → h 181 t = if t < i then bs_tm o n t else bs_tm o (n + 1) t) → bl_M_flicker_41 (d + 1) n' k x j ((i : Int) - 1) h (bc_B A B)
  | 0, h, _, hF, hr => rv_M_flicker_41 ⟨fun _ => hK h hF (fun t ht => by rw [hr t ht, if_neg (by omega)]), fun q => absurd q (by omega)⟩
  | i + 1, h, hi, hF, hr => by
    have ea : ((i + 1 : Nat) : Int) - 1 = i := by omega
    have st := bs_tm_step o.toNat (by omega) n hn i (by omega)
    rw [show ((o.toNat : Nat) : Int) = o by omega] at st
    rw [ea]
    have nx : ∀ v, v = bs_tm o (n + 1) i → bl_M_flicker_41 (d + 1) n' k x j (bc_w32 ((i : Int) + (-1))) (bc_upd h 181 i v) (bc_B A B) := fun v ev => by
      rw [bc_wi (x := (i : Int) + (-1)) (by omega) (by omega)]
      refine bc_m_fl41 o0 o1 hn eo hK i _ (by omega) (fun a ka => by rw [bc_urow ka]; exact hF a ka) (fun t ht => ?_)
      by_cases e : t = i
      · subst e; rw [bc_uu, if_neg (by omega)]; exact ev
      · rw [bc_uj (by omega), hr t ht]
        by_cases e2 : t < i
        · rw [if_pos e2, if_pos (by omega)]
        · rw [if_neg e2, if_neg (by omega)]
    have e5 : h 157 5 = o := by rw [hF 157 (by decide)]; exact eo
    have ri := hr i (by omega)
    rw [if_pos (by omega)] at ri
    refine rv_M_flicker_41 ⟨fun q => absurd q (by omega), fun _ => ⟨by omega, fun z => ⟨?_, by omega, ?_⟩, fun z => ⟨by omega, ?_⟩⟩⟩
    · rw [bc_wi (by omega) (by omega)]; omega
    · refine nx _ ?_
      have rj := hr (i - 1) (by omega)
      rw [if_pos (by omega)] at rj
      rw [if_neg (by omega)] at st
      rw [bc_wi (x := (i : Int) - 1) (by omega) (by omega), show (i : Int) - 1 = ((i - 1 : Nat) : Int) by omega, rj, ri, e5, bc_wi (x := 16 - o) (by omega) (by omega), st]
    · refine nx _ ?_
      rw [if_pos (by omega)] at st
      rw [ri, e5, bc_wi (x := 16 - o) (by omega) (by omega), st]
theorem bc_m_fl36 {d : Nat} {o : Int} {n k : Nat} {h0 : bc_H} {A B : bc_H → Prop} (o0 : 0 ≤ o) (o1 : o ≤ 16) (hn : n ≤ 12) (hk : k ≤ 12) (eo : h0 157 5 = o) (hb : 0 ≤ bs_sm o n (13 - k) k 0 ∧ bs_sm o n (13 - k) k 0 < 562949953421312) (hK : ∀ h', (∀ a, a ≠ 181 → h' a = h0 a) → A (bc_upd (bc_upd (bc_upd h' 156 3 (bc_w64 ((bs_sm o n (13 - k) k 0).tdiv (bs_gd (bs_sm o n (13 - k) k 0) (bs_pw 16 n 1))))) 156 4 (bc_w64 ((bs_pw 16 n 1).tdiv (bs_gd (bs_sm o n (13 - k) k 0) (bs_pw 16 n 1))))) 156 2 0)) : ∀ (m j : Nat) (x : Int) (h : bc_H), j + m = n → bs_pw 16 m x = bs_pw 16 n 1 → (∀ a, a ≠ 181 → h a = h0 a) → (∀ t : Nat, t ≤ 12 → h 181 t = bs_tm o j t) → bl_M_flicker_36 (d + 2) (n : Int) (k : Int) x (j : Int) h (bc_B A B)
  | 0, j, x, h, e, ex, hF, hr => by
    have p := bs_pw16 n (by omega)
    rw [show x = bs_pw 16 n 1 from ex]
    rw [show j = n by omega] at hr ⊢
    exact rv_M_flicker_36 (d := d + 1) ⟨fun _ => bc_m_fl88 hr p.1 p.2 (13 - k) k 0 (by omega) hb (hK h hF), fun q => absurd q (by omega)⟩
  | m + 1, j, x, h, e, ex, hF, hr => by
    refine rv_M_flicker_36 (d := d + 1) ⟨fun q => absurd q (by omega), fun _ => ?_⟩
    refine bc_m_fl41 (d := d + 1) (n := j) (o := o) o0 o1 (by omega) (by rw [hF 157 (by decide)]; exact eo) (fun h' hF' hr' => ?_) 13 h (by omega) (fun a _ => rfl) (fun t ht => by rw [if_pos (by omega)]; exact hr t ht)
    rw [bc_wi (x := (j : Int) + 1) (by omega) (by omega), show (j : Int) + 1 = ((j + 1 : Nat) : Int) by omega]
    exact bc_m_fl36 o0 o1 hn hk eo hb hK m (j + 1) _ h' (by omega) ex (fun a ka => by rw [hF' a ka, hF a ka]) hr'
theorem bc_m_fl20 {d : Nat} {n k : Nat} {h0 : bc_H} {A B : bc_H → Prop} (hK : ∀ h', (∀ a, a ≠ 181 → h' a = h0 a) → (∀ t : Nat, t ≤ 12 → h' 181 t = if t = 0 then 1 else 0) → bl_M_flicker_36 (d + 1) (n : Int) (k : Int) 1 0 h' (bc_B A B)) : ∀ (m j : Nat) (h : bc_H), j + m = 13 → (∀ a, a ≠ 181 → h a = h0 a) → (∀ t : Nat, t < j → h 181 t = if t = 0 then 1 else 0) → bl_M_flicker_20 (d + 1) (n : Int) (k : Int) 1 (j : Int) h (bc_B A B)
  | 0, j, h, e, hF, hr => rv_M_flicker_20 ⟨fun _ => hK h hF (fun t ht => hr t (by omega)), fun q => absurd q (by omega)⟩
  | m + 1, j, h, e, hF, hr => by
    have nx : ∀ v, v = (if j = 0 then 1 else 0) → bl_M_flicker_20 (d + 1) (n : Int) (k : Int) 1 (bc_w32 ((j : Int) + 1)) (bc_upd h 181 j v) (bc_B A B) := fun v ev => by
      rw [bc_wi (x := (j : Int) + 1) (by omega) (by omega), show (j : Int) + 1 = ((j + 1 : Nat) : Int) by omega]
      refine bc_m_fl20 hK m (j + 1) _ (by omega) (fun a ka => by rw [bc_urow ka]; exact hF a ka) (fun t ht => ?_)
      by_cases e : t = j
      · subst e; rw [bc_uu]; exact ev
      · rw [bc_uj (by omega)]; exact hr t (by omega)
    exact rv_M_flicker_20 ⟨fun q => absurd q (by omega), fun _ => ⟨fun z => ⟨by omega, nx 0 (by rw [if_neg (by omega)])⟩, fun z => ⟨by omega, nx 1 (by rw [if_pos (by omega)])⟩⟩⟩
theorem bs_o_flicker {d : Nat} {a b : Int} {S : Int → Int} {L c s p q : Int} {h : bc_H} (hR : bs_R S L c s p q h) {P N1 N2 : bc_H → Prop} {Q1 Q0 : bc_H → Prop} (hQ : ∀ h1, h1 (-2) = h (-2) → h1 (-3) = h (-3) → bf_M_flicker (d + 4) a b h1 (bc_B P N1) → Q1 h1) (hQ0 : ∀ h1, h1 (-2) = h (-2) → h1 (-3) = h (-3) → bf_M_flicker (d + 4) a b h1 (bc_B N2 P) → Q0 h1) (hK : ∀ h2, bs_R S L c s p q h2 → P h2) : bf_X_flicker (d + 4) a b h (bc_B Q1 Q0) := by
  obtain ⟨⟨hcs, hpq⟩, ⟨e12, e13, e14, e15⟩, hS, est, efr, htr, htp, hfa, hlv, hlo, hrs, hmk, ⟨hC, hW, hck, hN, hP⟩⟩ := id hR
  obtain ⟨⟨n4, n5, n6, n2, n0, n1, n3⟩, hw, hd, hg, hf, hm⟩ := id hC
  obtain ⟨⟨w0, w1, w2, w3, w4, w5, w7⟩, hww, hwy, hwv, hwf, hwg⟩ := id hW
  have hq : ∀ v, P (bc_upd (bc_upd h 0 0 v) 156 2 v) := fun v => hK _ (bs_R_st hR v)
  refine rv_X_flicker (d := d + 3) ⟨fun za => ⟨fun zb => ?_, fun zb => ?_⟩, fun za => ?_⟩
  · obtain ⟨n, rfl⟩ : ∃ n : Nat, a = n := ⟨a.toNat, by omega⟩
    obtain ⟨k, rfl⟩ : ∃ k : Nat, b = k := ⟨b.toNat, by omega⟩
    have se := bs_sm_eq (h 157 5).toNat (by omega) n (by omega) k (by omega)
    rw [show (((h 157 5).toNat : Nat) : Int) = h 157 5 by omega] at se
    refine bc_c_flL (d := d + 3) (o := h 157 5) (by omega) (by rw [e12]; exact n5) (by omega) (by omega) (by omega) (n + 1 - k) k 0 (by omega) (by rw [se.1]; exact se.2) ?_
    rw [se.1]
    refine hQ _ (by rw [bc_urow (by decide), bc_urow (by decide), bc_urow (by decide)]) (by rw [bc_urow (by decide), bc_urow (by decide), bc_urow (by decide)]) ?_
    refine rv_M_flicker (d := d + 3) ⟨fun _ => ⟨fun _ => ?_, fun q => absurd zb q⟩, fun q => absurd za q⟩
    refine bc_m_fl20 (d := d + 3) (fun h' hF hr => ?_) 13 0 _ (by omega) (fun _ _ => rfl) (fun t ht => absurd ht (by omega))
    refine bc_m_fl36 (d := d + 2) (o := h 157 5) (by omega) (by omega) (by omega) (by omega) ?_ se.2 (fun h2 hF2 => ?_) n 0 1 h' (by omega) rfl (fun _ _ => rfl) (fun t ht => ?_)
    · rw [hF 157 (by decide), bc_urow (by decide), bc_urow (by decide), bc_urow (by decide)]
    · have hF3 : ∀ a b, a ≠ 181 → (a ≠ 0 ∨ (b ≠ 0 ∧ b ≠ 1 ∧ b ≠ 2)) → h2 a b = h a b := fun a b k1 k2 => by
        rw [hF2 a k1, hF a k1, bc_un2 (by omega), bc_un2 (by omega), bc_un2 (by omega)]
      refine hK _ (bs_R_fr hR (fun x y k k1 k2 => ?_) ?_ ⟨?_, ?_⟩)
      · have kf := bs_kf k
        rw [bc_un2 (by omega), bc_un2 (by omega), bc_un2 (by omega)]
        refine hF3 x y ?_ (by omega)
        intro e; subst e
        simp [bs_keep] at k
      · rw [bc_ur (by decide), bc_ur (by decide), bc_ur (by decide), bc_uu, hF2 0 (by decide), hF 0 (by decide), bc_uu]
      · rw [bc_ur (by decide), bc_ur (by decide), bc_ur (by decide), hF2 0 (by decide), hF 0 (by decide), bc_uj (by decide), bc_uj (by decide), bc_uu, bc_uj (by decide), bc_uj (by decide), bc_uu]
      · rw [bc_ur (by decide), bc_ur (by decide), bc_ur (by decide), hF2 0 (by decide), hF 0 (by decide), bc_uj (by decide), bc_uu, bc_uj (by decide), bc_uu]
    · rw [hr t ht]
      by_cases e : t = 0
      · subst e; rfl
      · rw [if_neg e]; exact (if_neg (by omega)).symm
  · refine hQ0 _ (bc_urow (by decide)) (bc_urow (by decide)) ?_
    exact rv_M_flicker (d := d + 3) ⟨fun _ => ⟨fun q => absurd q zb, fun _ => hq 1⟩, fun q => absurd za q⟩
  · refine hQ0 _ (bc_urow (by decide)) (bc_urow (by decide)) ?_
    exact rv_M_flicker (d := d + 3) ⟨fun q => absurd q za, fun _ => hq 1⟩
