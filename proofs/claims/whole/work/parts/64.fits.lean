theorem r_tellneg (N : Nat) (κ : hk_T) (k : Nat) (hk : 1 ≤ k) (hk6 : k ≤ 6) : fX12_tell N 69 (-(Int32.ofNat k)) (hp κ) = some (-(Int32.ofNat k), hp (hk_wA (hk_wI κ 69 1 (-(Int32.ofNat k))) 70 k (hk_A κ 70 k + 1))) := by
  unfold fX12_tell nX12_tell_0
  have h1 : k = 1 ∨ k = 2 ∨ k = 3 ∨ k = 4 ∨ k = 5 ∨ k = 6 := by omega
  simp only [hk_ob_0]
  rcases h1 with rfl | rfl | rfl | rfl | rfl | rfl <;>
    (rw [if_pos (by decide)]
     simp only [nX12_tell_10, nX12_tell_28, hk_wi_0, Option.bind_some]
     rw [if_pos (by decide)]
     simp only [hk_rd_0, hk_rd_1, hk_rd_2, Option.bind_some, hk_ra_0, hk_ra_1, hk_wa_0, hk_wa_1]
     rfl)
theorem r_rebound (N : Nat) (κ : hk_T) : fX12_rebound N 69 (hp κ) = some (hk_I κ 69 6, hp (hk_wI κ 69 0 0)) := by
  unfold fX12_rebound nX12_rebound_0
  simp only [hk_ob_0, hk_wi_0, hk_rd_0, hk_rd_1, hk_rd_2, Option.bind_some, hk_I_wI]
  rfl
theorem r_fault (N : Nat) (κ : hk_T) : fX12_fault N 69 (hp κ) = some (hk_I κ 69 13, hp (hk_wI κ 69 0 0)) := by
  unfold fX12_fault nX12_fault_0
  simp only [hk_ob_0, hk_wi_0, hk_rd_0, hk_rd_1, hk_rd_2, Option.bind_some, hk_I_wI]
  rfl
/-- the least and the most of each fact -/
def s_least (f : Nat) : Int := ([0, 1, 0, 1, 1, 0, 0, 0, 0, 0, 0, 0] : List Int).getD f 0
def s_most (f : Nat) : Int := ([8, 99, 199, 30, 40, 2, 40, 9, 9, 999, 7, 11] : List Int).getD f 0
abbrev s_fits (f v : Int) : Prop := 0 ≤ f ∧ f < 12 ∧ s_least f.toNat ≤ v ∧ v ≤ s_most f.toNat
theorem s_ll (L : Nat) (xs : Nat → Int32) : ∀ i, i < 12 → ((ra_ex0 L xs 1).2 i).toInt = s_least i := by
  show ∀ i, i < 12 → (([0, 1, 0, 1, 1, 0, 0, 0, 0, 0, 0, 0] : List Int32).getD i 0).toInt = s_least i
  decide
theorem s_mm (L : Nat) (xs : Nat → Int32) : ∀ i, i < 12 → ((ra_ex0 L xs 2).2 i).toInt = s_most i := by
  show ∀ i, i < 12 → (([8, 99, 199, 30, 40, 2, 40, 9, 9, 999, 7, 11] : List Int32).getD i 0).toInt = s_most i
  decide
theorem c_fits (N L : Nat) (xs : Nat → Int32) (κ : hk_T) (f v : Int32) (hx : hk_x κ = ra_ex0 L xs) : fX11_fits N f v (hp κ) = some (if s_fits f.toInt v.toInt then 1 else 0, hp κ) := by
  unfold fX11_fits nX11_fits_0
  simp only [nX11_fits_32, nX11_fits_33]
  by_cases h1 : f.toInt < 0
  · have g : ¬ s_fits f.toInt v.toInt := fun z => by have := z.1; omega
    rw [if_pos (by rw [i_lt]; exact h1), if_neg g]
    rfl
  · rw [if_neg (by rw [i_lt]; exact h1)]
    by_cases h2 : f.toInt < 12
    · have r1 : ra_xI (hp κ) 1 f = some ((ra_ex0 L xs 1).2 f.toInt.toNat) := by
        rw [hk_xI, hx, if_pos (by decide)]
        exact if_neg (ix (n := 12) (by omega) (by omega))
      have r2 : ra_xI (hp κ) 2 f = some ((ra_ex0 L xs 2).2 f.toInt.toNat) := by
        rw [hk_xI, hx, if_pos (by decide)]
        exact if_neg (ix (n := 12) (by omega) (by omega))
      rw [if_pos (by rw [i_lt]; exact h2), r1, r2, Option.bind_some, Option.bind_some]
      have a1 := s_ll L xs f.toInt.toNat (by omega)
      have a2 := s_mm L xs f.toInt.toNat (by omega)
      by_cases h3 : v.toInt < s_least f.toInt.toNat
      · have g : ¬ s_fits f.toInt v.toInt := fun z => by have := z.2.2.1; omega
        rw [if_pos (by rw [i_lt, a1]; exact h3), if_neg g]
        rfl
      · rw [if_neg (by rw [i_lt, a1]; exact h3)]
        by_cases h4 : v.toInt ≤ s_most f.toInt.toNat
        · have g : s_fits f.toInt v.toInt := ⟨by omega, h2, by omega, h4⟩
          rw [if_pos (by rw [i_le, a2]; exact h4), if_pos g]
          rfl
        · have g : ¬ s_fits f.toInt v.toInt := fun z => h4 z.2.2.2
          rw [if_neg (by rw [i_le, a2]; exact h4), if_neg g]
          rfl
    · have g : ¬ s_fits f.toInt v.toInt := fun z => h2 z.2.1
      rw [if_neg (by rw [i_lt]; exact h2), if_neg g]
      rfl
