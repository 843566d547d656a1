/-! bytes of a number -/
def byt (x : Int32) (k : Nat) : Nat := x.toBitVec.toNat / 2 ^ k % 256
theorem byt_lt (x : Int32) (k : Nat) : byt x k < 256 := Nat.mod_lt _ (by decide)
theorem bv_and255 (v : BitVec 32) : (v &&& 255#32) = BitVec.ofNat 32 (v.toNat % 256) := by
  apply BitVec.eq_of_toNat_eq
  rw [BitVec.toNat_and, BitVec.toNat_ofNat, BitVec.toNat_ofNat]
  have h1 : (255 % 2 ^ 32 : Nat) = 2 ^ 8 - 1 := by decide
  rw [h1, Nat.and_two_pow_sub_one_eq_mod]
  have : v.toNat % 2 ^ 8 < 2 ^ 8 := Nat.mod_lt _ (by decide)
  exact (Nat.mod_eq_of_lt (show v.toNat % 2 ^ 8 < 2 ^ 32 by omega)).symm
theorem byt_u (x : Int32) : ((Int32.toUInt32 x >>> (Int32.toUInt32 (n3 24) &&& Int32.toUInt32 (n3 31))).toInt32 &&& n3 255 = n3 (byt x 24)) ∧ ((Int32.toUInt32 x >>> (Int32.toUInt32 (n3 16) &&& Int32.toUInt32 (n3 31))).toInt32 &&& n3 255 = n3 (byt x 16)) ∧ ((Int32.toUInt32 x >>> (Int32.toUInt32 (n3 8) &&& Int32.toUInt32 (n3 31))).toInt32 &&& n3 255 = n3 (byt x 8)) ∧ ((Int32.toUInt32 x >>> (Int32.toUInt32 (n3 0) &&& Int32.toUInt32 (n3 31))).toInt32 &&& n3 255 = n3 (byt x 0)) := by
  have key : ∀ k : Nat, (x.toBitVec >>> k) &&& 255#32 = BitVec.ofNat 32 (byt x k) := by
    intro k
    rw [bv_and255, BitVec.toNat_ushiftRight, Nat.shiftRight_eq_div_pow]
    rfl
  refine ⟨?_, ?_, ?_, ?_⟩
  · exact Int32.toBitVec_inj.mp (key 24)
  · exact Int32.toBitVec_inj.mp (key 16)
  · exact Int32.toBitVec_inj.mp (key 8)
  · exact Int32.toBitVec_inj.mp (key 0)
theorem byt_s (x : Int32) : ((x >>> (n3 24 &&& n3 31)) &&& n3 255 = n3 (byt x 24)) ∧ ((x >>> (n3 16 &&& n3 31)) &&& n3 255 = n3 (byt x 16)) ∧ ((x >>> (n3 8 &&& n3 31)) &&& n3 255 = n3 (byt x 8)) ∧ ((x >>> (n3 0 &&& n3 31)) &&& n3 255 = n3 (byt x 0)) := by
  have key : ∀ k : Nat, k ≤ 24 → (x.toBitVec.sshiftRight k) &&& 255#32 = BitVec.ofNat 32 (byt x k) := by
    intro k hk
    have e : (x.toBitVec >>> k) &&& 255#32 = BitVec.ofNat 32 (byt x k) := by
      rw [bv_and255, BitVec.toNat_ushiftRight, Nat.shiftRight_eq_div_pow]
      rfl
    rw [← e]
    apply BitVec.eq_of_getLsbD_eq
    intro i hi
    rw [BitVec.getLsbD_and, BitVec.getLsbD_and, BitVec.getLsbD_sshiftRight, BitVec.getLsbD_ushiftRight]
    by_cases h8 : i < 8
    · have : k + i < 32 := by omega
      simp only [this, if_true, show ¬ 32 ≤ i by omega, decide_false, Bool.not_false, Bool.true_and]
    · have e255 : (255#32).getLsbD i = false := by
        rw [BitVec.getLsbD_ofNat]
        have : Nat.testBit 255 i = false := Nat.testBit_lt_two_pow (by
          have : 2 ^ 8 ≤ 2 ^ i := Nat.pow_le_pow_right (by omega) (by omega)
          omega)
        rw [this, Bool.and_false]
      rw [e255, Bool.and_false, Bool.and_false]
  refine ⟨?_, ?_, ?_, ?_⟩
  · exact Int32.toBitVec_inj.mp (key 24 (by omega))
  · exact Int32.toBitVec_inj.mp (key 16 (by omega))
  · exact Int32.toBitVec_inj.mp (key 8 (by omega))
  · exact Int32.toBitVec_inj.mp (key 0 (by omega))
section
variable (N : Nat) (κ : hk_T)
/-- four bytes behind the tape -/
def tap4 (κ : hk_T) (k o f n : Nat) (x : Int32) : hk_T := hk_wI (hk_wA (hk_wI (hk_wA (hk_wI (hk_wA (hk_wI (hk_wA κ k n (n3 (byt x 24))) o f (n3 (n + 1))) k (n + 1) (n3 (byt x 16))) o f (n3 (n + 2))) k (n + 2) (n3 (byt x 8))) o f (n3 (n + 3))) k (n + 3) (n3 (byt x 0))) o f (n3 (n + 4))
theorem c_append1 {n s m : Nat} (x : Int32) (hn : hk_I κ 16 1 = n3 n) (h4 : n < 400) (hs : s < 100) : nX8_append_3 N (m + 1) 16 x (n3 s) (hp κ) = nX8_append_3 N m 16 x (n3 s + -n3 8) (hp (hk_wI (hk_wA κ 17 n ((Int32.toUInt32 x >>> (Int32.toUInt32 (n3 s) &&& Int32.toUInt32 (n3 31))).toInt32 &&& n3 255)) 16 1 (n3 (n + 1)))) := by
  have e8 : (-8 : Int32) = -n3 8 := rfl
  have q : ¬ n3 s < n3 0 := by rw [n3_lt (by omega) (by omega)]; omega
  rw [nX8_append_3]
  simp (disch := omega) only [n3_l, e8, q, if_false, if_true, hk_rd_0, hk_rd_1, hk_rd_2, hn, Option.bind_some, h3w_0, h3w_1, hk_wi_0, hk_kA, hk_kI, n3_add, n3_lt, h4, nX8_append_43]
theorem c_append {n : Nat} (x : Int32) (hn : hk_I κ 16 1 = n3 n) (h4 : n + 4 ≤ 400) (hN : 1000 < N) : fX8_append N 16 x (hp κ) = some (hp (tap4 κ 17 16 1 n x)) := by
  obtain ⟨M, hM⟩ : ∃ M, N = M + 5 := ⟨N - 5, by omega⟩
  have e : fX8_append N 16 x (hp κ) = nX8_append_3 N (M + 5) 16 x (n3 24) (hp κ) := by
    unfold fX8_append nX8_append_0
    simp only [hk_ob_0, n3_l]
    rw [← hM]
  rw [e, c_append1 N κ x hn (by omega) (by omega), show n3 24 + -n3 8 = n3 16 by decide, c_append1 N _ x I_eq (by omega) (by omega), show n3 16 + -n3 8 = n3 8 by decide, c_append1 N _ x I_eq (by omega) (by omega), show n3 8 + -n3 8 = n3 0 by decide, c_append1 N _ x I_eq (by omega) (by omega), show n3 0 + -n3 8 = -n3 8 by decide]
  rw [nX8_append_3, if_pos (by decide), (byt_u x).1, (byt_u x).2.1, (byt_u x).2.2.1, (byt_u x).2.2.2]
  rfl
theorem r_four1 {n s m : Nat} (x : Int32) (hn : hk_I κ 69 8 = n3 n) (h4 : n < 400) (hs : s < 100) : nX12_four_3 N (m + 1) 69 x (n3 s) (hp κ) = nX12_four_3 N m 69 x (n3 s + -n3 8) (hp (hk_wI (hk_wA κ 74 n ((x >>> (n3 s &&& n3 31)) &&& n3 255)) 69 8 (n3 (n + 1)))) := by
  have e8 : (-8 : Int32) = -n3 8 := rfl
  have q : ¬ n3 s < n3 0 := by rw [n3_lt (by omega) (by omega)]; omega
  rw [nX12_four_3]
  simp (disch := omega) only [n3_l, e8, q, if_false, hk_rd_0, hk_rd_1, hk_rd_2, hn, Option.bind_some, h3w_0, h3w_1, hk_wi_0, hk_kA, hk_kI, n3_add]
theorem r_four {n : Nat} (x : Int32) (hn : hk_I κ 69 8 = n3 n) (h4 : n + 4 ≤ 400) (hN : 1000 < N) : fX12_four N 69 x (hp κ) = some (hp (tap4 κ 74 69 8 n x)) := by
  obtain ⟨M, hM⟩ : ∃ M, N = M + 5 := ⟨N - 5, by omega⟩
  have e : fX12_four N 69 x (hp κ) = nX12_four_3 N (M + 5) 69 x (n3 24) (hp κ) := by
    unfold fX12_four nX12_four_0
    simp only [hk_ob_0, n3_l]
    rw [← hM]
  rw [e, r_four1 N κ x hn (by omega) (by omega), show n3 24 + -n3 8 = n3 16 by decide, r_four1 N _ x I_eq (by omega) (by omega), show n3 16 + -n3 8 = n3 8 by decide, r_four1 N _ x I_eq (by omega) (by omega), show n3 8 + -n3 8 = n3 0 by decide, r_four1 N _ x I_eq (by omega) (by omega), show n3 0 + -n3 8 = -n3 8 by decide]
  rw [nX12_four_3, if_pos (by decide), (byt_s x).1, (byt_s x).2.1, (byt_s x).2.2.1, (byt_s x).2.2.2]
  rfl
/-- what both tapes have then -/
theorem tap4_same (k o f n : Nat) (x : Int32) : same [k] [(o, f)] κ (tap4 κ k o f n x) := by
  unfold tap4
  exact ((((((((same.refl [k] [(o, f)] κ).wA (List.mem_singleton.mpr rfl)).wI (List.mem_singleton.mpr rfl)).wA (List.mem_singleton.mpr rfl)).wI (List.mem_singleton.mpr rfl)).wA (List.mem_singleton.mpr rfl)).wI (List.mem_singleton.mpr rfl)).wA (List.mem_singleton.mpr rfl)).wI (List.mem_singleton.mpr rfl)
theorem tap4_at (k o f n : Nat) (x : Int32) (i : Nat) : hk_A (tap4 κ k o f n x) k i = if i = n then n3 (byt x 24) else if i = n + 1 then n3 (byt x 16) else if i = n + 2 then n3 (byt x 8) else if i = n + 3 then n3 (byt x 0) else hk_A κ k i := by
  unfold tap4
  simp only [hk_kI]
  by_cases e3 : i = n + 3
  · subst e3; simp (disch := omega) only [A_eq, if_neg, if_true]
  · by_cases e2 : i = n + 2
    · subst e2; simp (disch := omega) only [A_eq, A_ne, hk_kI]; simp
    · by_cases e1 : i = n + 1
      · subst e1; simp (disch := omega) only [A_eq, A_ne, hk_kI]; simp
      · by_cases e0 : i = n
        · subst e0; simp (disch := omega) only [A_eq, A_ne, hk_kI]; simp
        · simp (disch := omega) only [A_ne, hk_kI, e0, e1, e2, e3, if_false]
theorem tap4_len (k o f n : Nat) (x : Int32) : hk_I (tap4 κ k o f n x) o f = n3 (n + 4) := by
  unfold tap4
  rw [I_eq]
end
