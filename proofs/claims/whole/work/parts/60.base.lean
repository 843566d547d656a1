/-! numbers -/
theorem i_eq {a b : Int32} : a = b ↔ a.toInt = b.toInt := Int32.toInt_inj.symm
theorem i_lt {a b : Int32} : a < b ↔ a.toInt < b.toInt := Int32.lt_iff_toInt_lt
theorem i_le {a b : Int32} : a ≤ b ↔ a.toInt ≤ b.toInt := Int32.le_iff_toInt_le
theorem i_rg (a : Int32) : -2147483648 ≤ a.toInt ∧ a.toInt ≤ 2147483647 := by
  have h1 := a.le_toInt
  have h2 := a.toInt_lt
  omega
theorem j_eq {a b : Int64} : a = b ↔ a.toInt = b.toInt := Int64.toInt_inj.symm
theorem j_lt {a b : Int64} : a < b ↔ a.toInt < b.toInt := Int64.lt_iff_toInt_lt
theorem j_le {a b : Int64} : a ≤ b ↔ a.toInt ≤ b.toInt := Int64.le_iff_toInt_le
theorem i_toL (a : Int32) : a.toInt64.toInt = a.toInt := by simp
theorem i_cl (a : Int32) : a.toNatClampNeg = a.toInt.toNat := rfl
theorem j_sub1 (a : Int32) : (a.toInt64 - 1).toInt = a.toInt - 1 := by
  have := i_rg a
  rw [Int64.toInt_sub, i_toL]
  show (a.toInt - 1).bmod (2 ^ 64) = _
  rw [Int.bmod_eq_of_le] <;> omega
theorem ra_rz0 (h : ra_H) : ra_rz 0 h = some (0, h) := rfl
theorem ra_rz1 (h : ra_H) : ra_rz 1 h = some (1, h) := rfl
theorem ra_rzi (p : Prop) [Decidable p] (h : ra_H) : ra_rz (if p then 1 else 0) h = some (if p then 1 else 0, h) := by
  split <;> rfl
theorem f_in (N : Nat) (a b c : Int64) (h : ra_H) : fX12_in N a b c h = some (if b.toInt ≤ a.toInt ∧ a.toInt ≤ c.toInt then 1 else 0, h) := by
  unfold fX12_in nX12_in_0
  simp only [nX12_in_17, nX12_in_18, lg_cmp_lt, lg_cmp_le, j_lt, j_le]
  by_cases h1 : a.toInt < b.toInt
  · have : ¬ b.toInt ≤ a.toInt := by omega
    simp [h1, this, ra_rz0]
  · have h3 : b.toInt ≤ a.toInt := by omega
    by_cases h2 : a.toInt ≤ c.toInt
    · simp [h1, h2, h3, ra_rz1]
    · simp [h1, h2, ra_rz0]
theorem ix {i : Int32} {n : Nat} (h0 : 0 ≤ i.toInt) (h1 : i.toInt < n) : ¬ (i < 0 ∨ n ≤ i.toNatClampNeg) := by
  rw [i_lt, i_cl]
  show ¬ (i.toInt < 0 ∨ _)
  omega
theorem f_isBook (N : Nat) (κ : hk_T) (b : Int32) : fX12_isBook N 69 b (hp κ) = some (if 0 ≤ b.toInt ∧ b.toInt < (hk_A κ 71 480).toInt then 1 else 0, hp κ) := by
  unfold fX12_isBook nX12_isBook_0
  simp only [hk_ob_0, hk_rd_0, hk_rd_1, hk_rd_2, hk_ra_0, hk_ra_1, Option.bind_some, f_in, j_sub1, i_toL]
  rw [if_neg (by decide), Option.bind_some, Option.bind_some, ra_rzi]
  congr 3
  apply propext
  show (0 ≤ b.toInt ∧ b.toInt ≤ (hk_A κ 71 480).toInt - 1) ↔ _
  constructor <;> intro h <;> omega
theorem f_hasBook (N : Nat) (κ : hk_T) (b : Int32) : fX2_hasBook N 1 b (hp κ) = some (if 0 ≤ b.toInt ∧ b.toInt < (hk_I κ 1 13).toInt then 1 else 0, hp κ) := by
  unfold fX2_hasBook nX2_hasBook_0
  simp only [hk_ob_0, hk_rd_0, hk_rd_1, hk_rd_2, Option.bind_some, nX2_hasBook_16, nX2_hasBook_17, i_lt]
  have e0 : (0 : Int32).toInt = 0 := rfl
  rw [e0]
  by_cases h1 : b.toInt < 0
  · have h2 : ¬ (0 ≤ b.toInt ∧ b.toInt < (hk_I κ 1 13).toInt) := by omega
    simp only [h1, h2, if_true, if_false]
    rfl
  · by_cases h3 : b.toInt < (hk_I κ 1 13).toInt
    · have h2 : 0 ≤ b.toInt ∧ b.toInt < (hk_I κ 1 13).toInt := by omega
      simp only [h1, h2, h3, if_true, if_false, and_self]
      rfl
    · have h2 : ¬ (0 ≤ b.toInt ∧ b.toInt < (hk_I κ 1 13).toInt) := by omega
      rw [if_neg h1, if_neg h3, if_neg h2]
      rfl
theorem i_lin (a b : Int32) (k : Nat) (hk : k ≤ 1000) (ha : 0 ≤ a.toInt) (ha1 : a.toInt ≤ 1000) (hb : 0 ≤ b.toInt) (hb1 : b.toInt ≤ 1000) : (a * Int32.ofNat k + b).toInt = a.toInt * k + b.toInt := by
  have e1 : (Int32.ofNat k).toInt = k := Int32.toInt_ofNat_of_lt (by omega)
  have hm : 0 ≤ a.toInt * k ∧ a.toInt * k ≤ 1000 * 1000 := by
    constructor
    · exact Int.mul_nonneg ha (by omega)
    · exact Int.mul_le_mul ha1 (by omega) (by omega) (by omega)
  have e2 : (a * Int32.ofNat k).toInt = a.toInt * k := by
    rw [Int32.toInt_mul, e1]
    exact Int.bmod_eq_of_le (by omega) (by omega)
  rw [Int32.toInt_add, e2]
  exact Int.bmod_eq_of_le (by omega) (by omega)
theorem f_factOf (N : Nat) (κ : hk_T) (b f : Int32) (h0 : 0 ≤ b.toInt) (h1 : b.toInt < 40) (h2 : 0 ≤ f.toInt) (h3 : f.toInt < 12) : fX2_factOf N 1 b f (hp κ) = some (hk_A κ 2 (12 * b.toInt.toNat + f.toInt.toNat), hp κ) := by
  unfold fX2_factOf nX2_factOf_0
  have e := i_lin b f 12 (by omega) h0 (by omega) h2 (by omega)
  have e1 : (b * 12 + f).toInt = b.toInt * 12 + f.toInt := e
  simp only [hk_ob_0, hk_rd_0, Option.bind_some, hk_ra_0]
  rw [if_neg (ix (by rw [e1]; omega) (by rw [e1]; omega)), Option.bind_some, i_cl, e1]
  congr 3
  omega
