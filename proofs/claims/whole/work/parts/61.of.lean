/-! of -/
def s_of (κ : hk_T) (b f : Int32) : Int32 := if (0 ≤ b.toInt ∧ b.toInt < (hk_I κ 1 13).toInt) ∧ 0 ≤ f.toInt ∧ f.toInt < 12 then hk_A κ 2 (12 * b.toInt.toNat + f.toInt.toNat) else -1000
theorem c_of (N : Nat) (κ : hk_T) (b f : Int32) (hn : (hk_I κ 1 13).toInt ≤ 40) : fX11_of N 0 b f (hp κ) = some (s_of κ b f, hp κ) := by
  unfold fX11_of nX11_of_0 s_of
  simp only [hk_ob_0, hk_rd_0, Option.bind_some, f_hasBook, nX11_of_21]
  by_cases h1 : 0 ≤ b.toInt ∧ b.toInt < (hk_I κ 1 13).toInt
  · rw [if_pos h1, if_neg (by decide)]
    by_cases h2 : f < 0
    · have h3 : ¬ (0 ≤ f.toInt) := by rw [i_lt] at h2; have : f.toInt < 0 := h2; omega
      rw [if_pos h2, if_neg (fun z => h3 z.2.1)]
    · have h3 : 0 ≤ f.toInt := by rw [i_lt] at h2; have : ¬ f.toInt < 0 := h2; omega
      rw [if_neg h2]
      by_cases h4 : f < 12
      · have h5 : f.toInt < 12 := by rw [i_lt] at h4; exact h4
        rw [if_pos h4, if_pos ⟨h1, h3, h5⟩, f_factOf N κ b f h1.1 (by omega) h3 h5]
        rfl
      · have h5 : ¬ f.toInt < 12 := by rw [i_lt] at h4; exact h4
        rw [if_neg h4, if_neg (fun z => h5 z.2.2)]
  · rw [if_neg h1, if_pos rfl, if_neg (fun z => h1 z.1)]
theorem r_of (N : Nat) (κ : hk_T) (b f : Int32) (hn : (hk_I κ 1 13).toInt ≤ 40) (hB : hk_A κ 71 480 = hk_I κ 1 13) (hF : ∀ i : Nat, (i : Int) < 12 * (hk_I κ 1 13).toInt → hk_A κ 71 i = hk_A κ 2 i) : fX12_of N 69 b f (hp κ) = some (s_of κ b f, hp (hk_wI κ 69 0 0)) := by
  unfold fX12_of nX12_of_0 s_of
  simp only [hk_ob_0, hk_wi_0, Option.bind_some, f_isBook, f_in, i_toL, hk_kI, hB, nX12_of_39, nX12_of_42]
  have e0 : (0 : Int64).toInt = 0 := rfl
  have e1 : (11 : Int64).toInt = 11 := rfl
  rw [e0, e1]
  by_cases h1 : 0 ≤ b.toInt ∧ b.toInt < (hk_I κ 1 13).toInt
  · rw [if_pos h1, if_neg (by decide)]
    by_cases h2 : 0 ≤ f.toInt ∧ f.toInt ≤ 11
    · have e := i_lin b f 12 (by omega) h1.1 (by omega) h2.1 (by omega)
      have e3 : (12 * b + f).toInt = b.toInt * 12 + f.toInt := by rw [Int32.mul_comm]; exact e
      rw [if_pos h2, if_neg (by decide), if_pos ⟨h1, h2.1, by omega⟩]
      simp only [hk_rd_0, hk_rd_1, hk_rd_2, Option.bind_some, hk_ra_0, hk_ra_1]
      rw [if_neg (ix (by rw [e3]; omega) (by rw [e3]; omega)), Option.bind_some, i_cl, e3]
      simp only [hk_kI]
      rw [hF _ (by omega)]
      congr 3
      omega
    · rw [if_neg h2, if_pos rfl, if_neg (fun z => h2 ⟨z.2.1, by omega⟩)]
  · rw [if_neg h1, if_pos rfl, if_neg (fun z => h1 z.1)]
