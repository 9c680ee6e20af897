/-! ===== of so many walls, so many lit ===== -/
def bs_pw (x : Int) : Nat → Int → Int
  | 0, r => r
  | k + 1, r => bs_pw x k (bc_w64 (r * x))
def bs_ch (n : Int) : Nat → Int → Int → Int
  | 0, _, r => r
  | k + 1, i, r => bs_ch n k (i + 1) (bc_w64 ((bc_w64 (r * (n - i))).tdiv (i + 1)))
theorem bc_c_powerL {d : Nat} {x n : Int} {h : bc_H} {K : Int → bc_H → Prop} : ∀ (k : Nat) (r i : Int), 0 ≤ i → i + k = n → n ≤ 12 → K (bs_pw x k r) h → bl_X_power_4 d x n r i h (bc_J K)
  | 0, r, i, i0, e, _, hK => rv_X_power_4 ⟨fun _ => hK, fun q => absurd q (by omega)⟩
  | k + 1, r, i, i0, e, hn, hK => by
    refine rv_X_power_4 ⟨fun q => absurd q (by omega), fun _ => ?_⟩
    rw [bc_wi (by omega) (by omega)]
    exact bc_c_powerL k _ (i + 1) (by omega) (by omega) hn hK
theorem bc_c_power {d : Nat} {x : Int} {h : bc_H} {K : Int → bc_H → Prop} (n : Nat) (hn : n ≤ 12) (hK : K (bs_pw x n 1) h) : bf_X_power d x n h (bc_J K) :=
  rv_X_power (bc_c_powerL n 1 0 (by omega) (by omega) (by omega) hK)
theorem bc_c_choicesL {d : Nat} {x n : Int} {h : bc_H} {K : Int → bc_H → Prop} (hx : x ≤ 12) (hn : n ≤ x) : ∀ (k : Nat) (r i : Int), 0 ≤ i → i + k = n → K (bs_ch x k i r) h → bl_X_choices_4 d x n r i h (bc_J K)
  | 0, r, i, i0, e, hK => rv_X_choices_4 ⟨fun _ => hK, fun q => absurd q (by omega)⟩
  | k + 1, r, i, i0, e, hK => by
    refine rv_X_choices_4 ⟨fun q => absurd q (by omega), fun _ => ?_⟩
    rw [bc_wi (x := i + 1) (by omega) (by omega), bc_wi (x := x - i) (by omega) (by omega)]
    exact ⟨by omega, bc_c_choicesL hx hn k _ (i + 1) (by omega) (by omega) hK⟩
theorem bc_c_choices {d : Nat} {x : Int} {h : bc_H} {K : Int → bc_H → Prop} (n : Nat) (hx : x ≤ 12) (hn : (n : Int) ≤ x) (hK : K (bs_ch x n 0 1) h) : bf_X_choices d x n h (bc_J K) :=
  rv_X_choices (bc_c_choicesL hx hn n 1 0 (by omega) (by omega) hK)
def bs_tm (o : Int) (n t : Nat) : Int := if t ≤ n then bc_w64 (bc_w64 (bs_ch n t 0 1 * bs_pw o t 1) * bs_pw (16 - o) (n - t) 1) else 0
def bs_sm (o : Int) (n : Nat) : Nat → Nat → Int → Int
  | 0, _, s => s
  | j + 1, l, s => bs_sm o n j (l + 1) (bc_w64 (s + bs_tm o n l))
theorem bs_tm_step : ∀ o, o < 17 → ∀ n, n < 12 → ∀ t, t < 13 → bs_tm ((o : Nat) : Int) (n + 1) t = bc_w64 (bc_w64 (bs_tm o n t * (16 - (o : Int))) + (if t = 0 then 0 else bc_w64 (bs_tm o n (t - 1) * (o : Int)))) := by
  decide +kernel
theorem bs_sm_eq : ∀ o, o < 17 → ∀ n, n < 13 → ∀ k, k < 13 → bs_sm ((o : Nat) : Int) n (n + 1 - k) k 0 = bs_sm ((o : Nat) : Int) n (13 - k) k 0 ∧ 0 ≤ bs_sm ((o : Nat) : Int) n (13 - k) k 0 ∧ bs_sm ((o : Nat) : Int) n (13 - k) k 0 < 562949953421312 := by
  decide +kernel
theorem bs_pw16 : ∀ n, n < 13 → 0 < bs_pw 16 n 1 ∧ bs_pw 16 n 1 < 562949953421312 := by
  decide +kernel
