/-! small calls and what many calls end with -/
theorem c_status (N : Nat) (κ : hk_T) : fX11_status N 0 (hp κ) = some (hk_I κ 0 10, hp κ) := by
  unfold fX11_status nX11_status_0
  simp only [hk_ob_0, hk_rd_0, Option.bind_some]
theorem c_rebound (N : Nat) (κ : hk_T) : fX11_rebound N 0 (hp κ) = some (hk_I κ 0 11, hp κ) := by
  unfold fX11_rebound nX11_rebound_0
  simp only [hk_ob_0, hk_rd_0, Option.bind_some]
theorem c_fault (N : Nat) (κ : hk_T) : fX11_fault N 0 (hp κ) = some (hk_I κ 0 12, hp κ) := by
  unfold fX11_fault nX11_fault_0
  simp only [hk_ob_0, hk_rd_0, Option.bind_some]
theorem r_status (N : Nat) (κ : hk_T) : fX12_status N 69 (hp κ) = some (hk_I κ 69 1, hp (hk_wI κ 69 0 0)) := by
  unfold fX12_status nX12_status_0
  simp only [hk_ob_0, hk_wi_0, hk_rd_0, hk_rd_1, hk_rd_2, Option.bind_some, hk_I_wI]
  rfl
theorem c_forgetRow (N : Nat) (κ : hk_T) : fX6_forgetAll N 61 (hp κ) = some (hp (hk_wI κ 61 4 0)) := by
  unfold fX6_forgetAll nX6_forgetAll_0
  simp only [hk_ob_0, hk_wi_0, Option.bind_some]
  rfl
theorem c_clear (N : Nat) (κ : hk_T) : fX11_clear N 0 (hp κ) = some (hk_I κ 1 16, hp (hk_wI (hk_wI κ 1 16 0) 61 4 0)) := by
  unfold fX11_clear nX11_clear_0
  simp only [hk_ob_0, hk_rd_0, hk_rd_1, hk_wi_0, Option.bind_some, c_forgetRow]
theorem r_clear (N : Nat) (κ : hk_T) : fX12_clear N 69 (hp κ) = some (hk_A κ 71 483, hp (hk_wA (hk_wI κ 69 0 0) 71 483 0)) := by
  unfold fX12_clear nX12_clear_0
  simp only [hk_ob_0, hk_rd_0, hk_rd_1, hk_rd_2, hk_wi_0, Option.bind_some, hk_ra_0, hk_ra_1, hk_wa_0, hk_wa_1]
  rw [if_neg (by decide), if_neg (by decide)]
  rfl
theorem c_accept (N : Nat) (κ : hk_T) (v : Int32) : fX11_accept N 0 v (hp κ) = some (v, hp (hk_wI κ 0 10 0)) := by
  unfold fX11_accept nX11_accept_0
  simp only [hk_ob_0, hk_wi_0, Option.bind_some]
theorem c_refuse (N : Nat) (κ : hk_T) (k : Nat) (hk : 1 ≤ k) (hk6 : k ≤ 6) : fX11_refuse N 0 (-(Int32.ofNat k)) (hp κ) = some (-(Int32.ofNat k), hp (hk_wA (hk_wI κ 0 10 (-(Int32.ofNat k))) 68 k (hk_A κ 68 k + 1))) := by
  unfold fX11_refuse nX11_refuse_0
  simp only [hk_ob_0, hk_rd_0, hk_wi_0, Option.bind_some, hk_ra_0, hk_ra_1, hk_wa_0, hk_wa_1]
  have h1 : k = 1 ∨ k = 2 ∨ k = 3 ∨ k = 4 ∨ k = 5 ∨ k = 6 := by omega
  rcases h1 with rfl | rfl | rfl | rfl | rfl | rfl <;> rfl
theorem r_was (N : Nat) (κ : hk_T) (v : Int32) : fX12_was N 69 v (hp κ) = some (v, hp (hk_wI κ 69 1 0)) := by
  unfold fX12_was nX12_was_0
  simp only [hk_ob_0, hk_wi_0, Option.bind_some]
theorem r_tell (N : Nat) (κ : hk_T) (v : Int32) (hv : 0 ≤ v.toInt) : fX12_tell N 69 v (hp κ) = some (v, hp (hk_wI κ 69 1 0)) := by
  unfold fX12_tell nX12_tell_0
  have h0 : ¬ v < 0 := by rw [i_lt]; show ¬ v.toInt < 0; omega
  simp only [hk_ob_0]
  rw [if_neg h0]
  simp only [nX12_tell_10, nX12_tell_28, hk_wi_0, Option.bind_some]
  rw [if_neg h0]
