/-! pieces of the reference's code, put together -/
def rawV (o : Nat) (a b : Int) : Int := if o = 0 then a + b else if o = 1 then a - b else if o = 2 then a * b else if o = 3 then (if b = 0 then 0 else a.tdiv b) else if o = 4 then (if a < b then 1 else 0) else if o = 5 then (if b < a then 1 else 0) else (if a = b then 1 else 0)
theorem opV_raw {o : Nat} {a b : Int} : opV o a b = if o = 3 ∧ b = 0 then none else limV (rawV o a b) := by
  have one : ∀ (p : Prop) [Decidable p], limV (if p then 1 else 0) = some (if p then 1 else 0) := by
    intro p _
    split <;> rfl
  unfold opV rawV
  by_cases c0 : o = 0
  · rw [if_pos c0, if_pos c0, if_neg (by omega)]
  · rw [if_neg c0, if_neg c0]
    by_cases c1 : o = 1
    · rw [if_pos c1, if_pos c1, if_neg (by omega)]
    · rw [if_neg c1, if_neg c1]
      by_cases c2 : o = 2
      · rw [if_pos c2, if_pos c2, if_neg (by omega)]
      · rw [if_neg c2, if_neg c2]
        by_cases c3 : o = 3
        · rw [if_pos c3, if_pos c3]
          by_cases cb : b = 0
          · rw [if_pos cb, if_pos ⟨c3, cb⟩]
          · rw [if_neg cb, if_neg (fun z => cb z.2), if_neg cb]
        · have hn : ¬ (o = 3 ∧ b = 0) := fun z => c3 z.1
          rw [if_neg c3, if_neg c3, if_neg hn]
          by_cases c4 : o = 4
          · rw [if_pos c4, if_pos c4, one]
          · rw [if_neg c4, if_neg c4]
            by_cases c5 : o = 5
            · rw [if_pos c5, if_pos c5, one]
            · rw [if_neg c5, if_neg c5, one]
theorem rawV_bd {o : Nat} {a b : Int} (a1 : -1000000000 ≤ a) (a2 : a ≤ 1000000000) (b1 : -1000000000 ≤ b) (b2 : b ≤ 1000000000) : -1000000000000000000 ≤ rawV o a b ∧ rawV o a b ≤ 1000000000000000000 := by
  have m1 : -1000000000000000000 ≤ a * b ∧ a * b ≤ 1000000000000000000 := by
    have h1 : (a * b).natAbs ≤ 1000000000 * 1000000000 := by
      rw [Int.natAbs_mul]
      exact Nat.mul_le_mul (by omega) (by omega)
    omega
  have d1 : -1000000000 ≤ a.tdiv b ∧ a.tdiv b ≤ 1000000000 := by
    have h1 : (a.tdiv b).natAbs ≤ a.natAbs := by rw [Int.natAbs_tdiv]; exact Nat.div_le_self _ _
    omega
  unfold rawV
  (repeat' split) <;> omega
theorem r_reckon (N : Nat) (κ : hk_T) {o : Nat} {a b : Int} (ho : o ≤ 6) (hz : hk_I κ 69 30 = n3 0) (a1 : -1000000000 ≤ a) (a2 : a ≤ 1000000000) (b1 : -1000000000 ≤ b) (b2 : b ≤ 1000000000) : ∃ κ', fX12_reckon N 69 (n3 (20 + o)) (Int64.ofInt a) (Int64.ofInt b) (hp κ) = some (Int64.ofInt (rawV o a b), hp κ') ∧ samJ [] [(69, 30)] κ κ' ∧ hk_I κ' 69 30 = if o = 3 ∧ b = 0 then n3 1 else n3 0 := by
  have ll : lg_cmp (Int64.ofInt a) (Int64.ofInt b) < n3 0 ↔ a < b := by rw [lg3_lt, l_lt, l9_toInt (by omega) (by omega), l9_toInt (by omega) (by omega)]
  have lle : lg_cmp (Int64.ofInt a) (Int64.ofInt b) ≤ n3 0 ↔ a ≤ b := by rw [lg3_le, l_le, l9_toInt (by omega) (by omega), l9_toInt (by omega) (by omega)]
  have le : lg_cmp (Int64.ofInt a) (Int64.ofInt b) = n3 0 ↔ a = b := by rw [lg3_eq, ← Int64.toInt_inj, l9_toInt (by omega) (by omega), l9_toInt (by omega) (by omega)]
  have e0 : (0 : Int64) = Int64.ofInt 0 := rfl
  have l0 : lg_cmp (Int64.ofInt b) (0 : Int64) = n3 0 ↔ b = 0 := by rw [lg3_eq, e0, ← Int64.toInt_inj, l9_toInt (by omega) (by omega), l9_toInt (by omega) (by omega)]
  have b0 : Int64.ofInt b = 0 ↔ b = 0 := by rw [e0, ← Int64.toInt_inj, l9_toInt (by omega) (by omega), l9_toInt (by omega) (by omega)]
  unfold fX12_reckon nX12_reckon_0 rawV
  rcases (by omega : o = 0 ∨ o = 1 ∨ o = 2 ∨ o = 3 ∨ o = 4 ∨ o = 5 ∨ o = 6) with e | e | e | e | e | e | e <;> subst e
  · refine ⟨κ, ?_, samJ.refl _ _ _, hz⟩
    simp (maxSteps := 400000) (disch := omega) only [n3_l, n3_add, n3_mul, n3_sub, n3_subn, n3_lt, n3_le, n3_eq, n3_eqn, n3_neq, n3_and, n3_or, n3_shl, n3_i, n3_cl, ↓hbd_0, ↓hbd_1, ↓hbd_2, hk_ob_0, hk_rd_0, hk_rd_1, hk_rd_2, hk_al_0, hk_al_1, h3r_0, h3r_1, hk_wi_0, hk_wj_0, h3w_0, h3w_1, h3v_0, hk_kI, hk_kJ, hk_kA, hk_kB, A_eq, A_ne, A_row, B_eq, B_ne, B_row, I_eq, I_ne, J_eq, J_ne, Option.bind_some, Option.some.injEq, if_true, if_false, eq_self, true_or, or_true, true_and, and_true, false_or, or_false, not_true_eq_false, not_false_eq_true, Classical.not_not, nar_b0, nar_b1, rz_0, rz_1, rz_i, ite01, Nat.add_zero, Nat.zero_add, Nat.one_mul, mul12, reduceIte, ra_z0, Nat.reduceEqDiff, Nat.reduceLT, Nat.reduceLeDiff, Nat.reduceAdd, Nat.reduceMul, Nat.reduceSub, Nat.reduceDiv, Nat.reduceMod, Bool.false_eq_true, false_and, and_false, reduceCtorEq]
    rw [Int64.ofInt_add]
  · refine ⟨κ, ?_, samJ.refl _ _ _, hz⟩
    simp (maxSteps := 400000) (disch := omega) only [n3_l, n3_add, n3_mul, n3_sub, n3_subn, n3_lt, n3_le, n3_eq, n3_eqn, n3_neq, n3_and, n3_or, n3_shl, n3_i, n3_cl, ↓hbd_0, ↓hbd_1, ↓hbd_2, hk_ob_0, hk_rd_0, hk_rd_1, hk_rd_2, hk_al_0, hk_al_1, h3r_0, h3r_1, hk_wi_0, hk_wj_0, h3w_0, h3w_1, h3v_0, hk_kI, hk_kJ, hk_kA, hk_kB, A_eq, A_ne, A_row, B_eq, B_ne, B_row, I_eq, I_ne, J_eq, J_ne, Option.bind_some, Option.some.injEq, if_true, if_false, eq_self, true_or, or_true, true_and, and_true, false_or, or_false, not_true_eq_false, not_false_eq_true, Classical.not_not, nar_b0, nar_b1, rz_0, rz_1, rz_i, ite01, Nat.add_zero, Nat.zero_add, Nat.one_mul, mul12, reduceIte, ra_z0, Nat.reduceEqDiff, Nat.reduceLT, Nat.reduceLeDiff, Nat.reduceAdd, Nat.reduceMul, Nat.reduceSub, Nat.reduceDiv, Nat.reduceMod, Bool.false_eq_true, false_and, and_false, reduceCtorEq]
    rw [Int64.ofInt_sub]
  · refine ⟨κ, ?_, samJ.refl _ _ _, hz⟩
    simp (maxSteps := 400000) (disch := omega) only [n3_l, n3_add, n3_mul, n3_sub, n3_subn, n3_lt, n3_le, n3_eq, n3_eqn, n3_neq, n3_and, n3_or, n3_shl, n3_i, n3_cl, ↓hbd_0, ↓hbd_1, ↓hbd_2, hk_ob_0, hk_rd_0, hk_rd_1, hk_rd_2, hk_al_0, hk_al_1, h3r_0, h3r_1, hk_wi_0, hk_wj_0, h3w_0, h3w_1, h3v_0, hk_kI, hk_kJ, hk_kA, hk_kB, A_eq, A_ne, A_row, B_eq, B_ne, B_row, I_eq, I_ne, J_eq, J_ne, Option.bind_some, Option.some.injEq, if_true, if_false, eq_self, true_or, or_true, true_and, and_true, false_or, or_false, not_true_eq_false, not_false_eq_true, Classical.not_not, nar_b0, nar_b1, rz_0, rz_1, rz_i, ite01, Nat.add_zero, Nat.zero_add, Nat.one_mul, mul12, reduceIte, ra_z0, Nat.reduceEqDiff, Nat.reduceLT, Nat.reduceLeDiff, Nat.reduceAdd, Nat.reduceMul, Nat.reduceSub, Nat.reduceDiv, Nat.reduceMod, Bool.false_eq_true, false_and, and_false, reduceCtorEq]
    rw [Int64.ofInt_mul]
  · by_cases c : b = 0
    · refine ⟨hk_wI κ 69 30 (n3 1), ?_, (samJ.refl _ _ _).wI (by decide), ?_⟩
      · simp (maxSteps := 400000) (disch := omega) only [n3_l, n3_add, n3_mul, n3_sub, n3_subn, n3_lt, n3_le, n3_eq, n3_eqn, n3_neq, n3_and, n3_or, n3_shl, n3_i, n3_cl, ↓hbd_0, ↓hbd_1, ↓hbd_2, hk_ob_0, hk_rd_0, hk_rd_1, hk_rd_2, hk_al_0, hk_al_1, h3r_0, h3r_1, hk_wi_0, hk_wj_0, h3w_0, h3w_1, h3v_0, hk_kI, hk_kJ, hk_kA, hk_kB, A_eq, A_ne, A_row, B_eq, B_ne, B_row, I_eq, I_ne, J_eq, J_ne, Option.bind_some, Option.some.injEq, if_true, if_false, eq_self, true_or, or_true, true_and, and_true, false_or, or_false, not_true_eq_false, not_false_eq_true, Classical.not_not, nar_b0, nar_b1, rz_0, rz_1, rz_i, ite01, Nat.add_zero, Nat.zero_add, Nat.one_mul, mul12, reduceIte, ra_z0, Nat.reduceEqDiff, Nat.reduceLT, Nat.reduceLeDiff, Nat.reduceAdd, Nat.reduceMul, Nat.reduceSub, Nat.reduceDiv, Nat.reduceMod, Bool.false_eq_true, false_and, and_false, reduceCtorEq, l0, c, nX12_reckon_68, nX12_reckon_86]
        rfl
      · rw [I_eq, if_pos ⟨rfl, c⟩]
    · have c' : ¬ Int64.ofInt b = 0 := fun z => c (b0.mp z)
      have d1 : -1000000000 ≤ a.tdiv b ∧ a.tdiv b ≤ 1000000000 := by
        have h1 : (a.tdiv b).natAbs ≤ a.natAbs := by rw [Int.natAbs_tdiv]; exact Nat.div_le_self _ _
        omega
      have dv : Int64.ofInt a / Int64.ofInt b = Int64.ofInt (a.tdiv b) := by
        rw [← Int64.toInt_inj, Int64.toInt_div, l9_toInt (by omega) (by omega), l9_toInt (by omega) (by omega), l9_toInt (by omega) (by omega)]
        exact Int.bmod_eq_of_le (by omega) (by omega)
      refine ⟨hk_wI κ 69 30 (n3 0), ?_, (samJ.refl _ _ _).wI (by decide), ?_⟩
      · simp (maxSteps := 400000) (disch := omega) only [n3_l, n3_add, n3_mul, n3_sub, n3_subn, n3_lt, n3_le, n3_eq, n3_eqn, n3_neq, n3_and, n3_or, n3_shl, n3_i, n3_cl, ↓hbd_0, ↓hbd_1, ↓hbd_2, hk_ob_0, hk_rd_0, hk_rd_1, hk_rd_2, hk_al_0, hk_al_1, h3r_0, h3r_1, hk_wi_0, hk_wj_0, h3w_0, h3w_1, h3v_0, hk_kI, hk_kJ, hk_kA, hk_kB, A_eq, A_ne, A_row, B_eq, B_ne, B_row, I_eq, I_ne, J_eq, J_ne, Option.bind_some, Option.some.injEq, if_true, if_false, eq_self, true_or, or_true, true_and, and_true, false_or, or_false, not_true_eq_false, not_false_eq_true, Classical.not_not, nar_b0, nar_b1, rz_0, rz_1, rz_i, ite01, Nat.add_zero, Nat.zero_add, Nat.one_mul, mul12, reduceIte, ra_z0, Nat.reduceEqDiff, Nat.reduceLT, Nat.reduceLeDiff, Nat.reduceAdd, Nat.reduceMul, Nat.reduceSub, Nat.reduceDiv, Nat.reduceMod, Bool.false_eq_true, false_and, and_false, reduceCtorEq, l0, c, c', nX12_reckon_68, nX12_reckon_86, dv]
      · rw [I_eq, if_neg (fun z => c z.2)]
  · refine ⟨κ, ?_, samJ.refl _ _ _, hz⟩
    by_cases c : a < b
    · simp (maxSteps := 400000) (disch := omega) only [n3_l, n3_add, n3_mul, n3_sub, n3_subn, n3_lt, n3_le, n3_eq, n3_eqn, n3_neq, n3_and, n3_or, n3_shl, n3_i, n3_cl, ↓hbd_0, ↓hbd_1, ↓hbd_2, hk_ob_0, hk_rd_0, hk_rd_1, hk_rd_2, hk_al_0, hk_al_1, h3r_0, h3r_1, hk_wi_0, hk_wj_0, h3w_0, h3w_1, h3v_0, hk_kI, hk_kJ, hk_kA, hk_kB, A_eq, A_ne, A_row, B_eq, B_ne, B_row, I_eq, I_ne, J_eq, J_ne, Option.bind_some, Option.some.injEq, if_true, if_false, eq_self, true_or, or_true, true_and, and_true, false_or, or_false, not_true_eq_false, not_false_eq_true, Classical.not_not, nar_b0, nar_b1, rz_0, rz_1, rz_i, ite01, Nat.add_zero, Nat.zero_add, Nat.one_mul, mul12, reduceIte, ra_z0, Nat.reduceEqDiff, Nat.reduceLT, Nat.reduceLeDiff, Nat.reduceAdd, Nat.reduceMul, Nat.reduceSub, Nat.reduceDiv, Nat.reduceMod, Bool.false_eq_true, false_and, and_false, reduceCtorEq, ll, c, nX12_reckon_99]; rfl
    · simp (maxSteps := 400000) (disch := omega) only [n3_l, n3_add, n3_mul, n3_sub, n3_subn, n3_lt, n3_le, n3_eq, n3_eqn, n3_neq, n3_and, n3_or, n3_shl, n3_i, n3_cl, ↓hbd_0, ↓hbd_1, ↓hbd_2, hk_ob_0, hk_rd_0, hk_rd_1, hk_rd_2, hk_al_0, hk_al_1, h3r_0, h3r_1, hk_wi_0, hk_wj_0, h3w_0, h3w_1, h3v_0, hk_kI, hk_kJ, hk_kA, hk_kB, A_eq, A_ne, A_row, B_eq, B_ne, B_row, I_eq, I_ne, J_eq, J_ne, Option.bind_some, Option.some.injEq, if_true, if_false, eq_self, true_or, or_true, true_and, and_true, false_or, or_false, not_true_eq_false, not_false_eq_true, Classical.not_not, nar_b0, nar_b1, rz_0, rz_1, rz_i, ite01, Nat.add_zero, Nat.zero_add, Nat.one_mul, mul12, reduceIte, ra_z0, Nat.reduceEqDiff, Nat.reduceLT, Nat.reduceLeDiff, Nat.reduceAdd, Nat.reduceMul, Nat.reduceSub, Nat.reduceDiv, Nat.reduceMod, Bool.false_eq_true, false_and, and_false, reduceCtorEq, ll, c, nX12_reckon_99]; rfl
  · refine ⟨κ, ?_, samJ.refl _ _ _, hz⟩
    by_cases c : a ≤ b
    · have c' : ¬ b < a := by omega
      simp (maxSteps := 400000) (disch := omega) only [n3_l, n3_add, n3_mul, n3_sub, n3_subn, n3_lt, n3_le, n3_eq, n3_eqn, n3_neq, n3_and, n3_or, n3_shl, n3_i, n3_cl, ↓hbd_0, ↓hbd_1, ↓hbd_2, hk_ob_0, hk_rd_0, hk_rd_1, hk_rd_2, hk_al_0, hk_al_1, h3r_0, h3r_1, hk_wi_0, hk_wj_0, h3w_0, h3w_1, h3v_0, hk_kI, hk_kJ, hk_kA, hk_kB, A_eq, A_ne, A_row, B_eq, B_ne, B_row, I_eq, I_ne, J_eq, J_ne, Option.bind_some, Option.some.injEq, if_true, if_false, eq_self, true_or, or_true, true_and, and_true, false_or, or_false, not_true_eq_false, not_false_eq_true, Classical.not_not, nar_b0, nar_b1, rz_0, rz_1, rz_i, ite01, Nat.add_zero, Nat.zero_add, Nat.one_mul, mul12, reduceIte, ra_z0, Nat.reduceEqDiff, Nat.reduceLT, Nat.reduceLeDiff, Nat.reduceAdd, Nat.reduceMul, Nat.reduceSub, Nat.reduceDiv, Nat.reduceMod, Bool.false_eq_true, false_and, and_false, reduceCtorEq, lle, c, c', nX12_reckon_112]; rfl
    · have c' : b < a := by omega
      simp (maxSteps := 400000) (disch := omega) only [n3_l, n3_add, n3_mul, n3_sub, n3_subn, n3_lt, n3_le, n3_eq, n3_eqn, n3_neq, n3_and, n3_or, n3_shl, n3_i, n3_cl, ↓hbd_0, ↓hbd_1, ↓hbd_2, hk_ob_0, hk_rd_0, hk_rd_1, hk_rd_2, hk_al_0, hk_al_1, h3r_0, h3r_1, hk_wi_0, hk_wj_0, h3w_0, h3w_1, h3v_0, hk_kI, hk_kJ, hk_kA, hk_kB, A_eq, A_ne, A_row, B_eq, B_ne, B_row, I_eq, I_ne, J_eq, J_ne, Option.bind_some, Option.some.injEq, if_true, if_false, eq_self, true_or, or_true, true_and, and_true, false_or, or_false, not_true_eq_false, not_false_eq_true, Classical.not_not, nar_b0, nar_b1, rz_0, rz_1, rz_i, ite01, Nat.add_zero, Nat.zero_add, Nat.one_mul, mul12, reduceIte, ra_z0, Nat.reduceEqDiff, Nat.reduceLT, Nat.reduceLeDiff, Nat.reduceAdd, Nat.reduceMul, Nat.reduceSub, Nat.reduceDiv, Nat.reduceMod, Bool.false_eq_true, false_and, and_false, reduceCtorEq, lle, c, c', nX12_reckon_112]; rfl
  · refine ⟨κ, ?_, samJ.refl _ _ _, hz⟩
    by_cases c : a = b
    · have c' := le.mpr c
      rw [if_pos c]
      simp (maxSteps := 400000) (disch := omega) only [n3_l, n3_add, n3_mul, n3_sub, n3_subn, n3_lt, n3_le, n3_eq, n3_eqn, n3_neq, n3_and, n3_or, n3_shl, n3_i, n3_cl, ↓hbd_0, ↓hbd_1, ↓hbd_2, hk_ob_0, hk_rd_0, hk_rd_1, hk_rd_2, hk_al_0, hk_al_1, h3r_0, h3r_1, hk_wi_0, hk_wj_0, h3w_0, h3w_1, h3v_0, hk_kI, hk_kJ, hk_kA, hk_kB, A_eq, A_ne, A_row, B_eq, B_ne, B_row, I_eq, I_ne, J_eq, J_ne, Option.bind_some, Option.some.injEq, if_true, if_false, eq_self, true_or, or_true, true_and, and_true, false_or, or_false, not_true_eq_false, not_false_eq_true, Classical.not_not, nar_b0, nar_b1, rz_0, rz_1, rz_i, ite01, Nat.add_zero, Nat.zero_add, Nat.one_mul, mul12, reduceIte, ra_z0, Nat.reduceEqDiff, Nat.reduceLT, Nat.reduceLeDiff, Nat.reduceAdd, Nat.reduceMul, Nat.reduceSub, Nat.reduceDiv, Nat.reduceMod, Bool.false_eq_true, false_and, and_false, reduceCtorEq, c', nX12_reckon_125]; rfl
    · simp (maxSteps := 400000) (disch := omega) only [n3_l, n3_add, n3_mul, n3_sub, n3_subn, n3_lt, n3_le, n3_eq, n3_eqn, n3_neq, n3_and, n3_or, n3_shl, n3_i, n3_cl, ↓hbd_0, ↓hbd_1, ↓hbd_2, hk_ob_0, hk_rd_0, hk_rd_1, hk_rd_2, hk_al_0, hk_al_1, h3r_0, h3r_1, hk_wi_0, hk_wj_0, h3w_0, h3w_1, h3v_0, hk_kI, hk_kJ, hk_kA, hk_kB, A_eq, A_ne, A_row, B_eq, B_ne, B_row, I_eq, I_ne, J_eq, J_ne, Option.bind_some, Option.some.injEq, if_true, if_false, eq_self, true_or, or_true, true_and, and_true, false_or, or_false, not_true_eq_false, not_false_eq_true, Classical.not_not, nar_b0, nar_b1, rz_0, rz_1, rz_i, ite01, Nat.add_zero, Nat.zero_add, Nat.one_mul, mul12, reduceIte, ra_z0, Nat.reduceEqDiff, Nat.reduceLT, Nat.reduceLeDiff, Nat.reduceAdd, Nat.reduceMul, Nat.reduceSub, Nat.reduceDiv, Nat.reduceMod, Bool.false_eq_true, false_and, and_false, reduceCtorEq, le, c, nX12_reckon_125]; rfl
theorem rFr_bin {O G : Nat → Nat} {f m1 t d1 d2 o : Nat} {v w : valT} (hv : rFr O G f m1 d1 v) (hw : rFr O G m1 t d2 w) (ov : vO v) (ow : vO w) (hO : O t = 20 + o) (ho : o ≤ 6) : rFr O G f (t + 1) (d1 + d2) (vBin o v w) := by
  obtain ⟨a1, a2, a3⟩ := hv
  obtain ⟨b1, b2, b3⟩ := hw
  refine ⟨by omega, by omega, fun N m κ T t0 n X hE hz hh hm => ?_⟩
  obtain ⟨κ1, r1, r2, r3, r4⟩ := a3 N m κ T t0 n X (hE.sub (Nat.le_refl _) (by omega)) hz (by omega) (by omega)
  cases hv1 : v X with
  | none =>
    refine ⟨κ1, r1, r2, ?_, fun _ => ?_⟩
    · intro a ha
      unfold vBin at ha
      rw [hv1] at ha
      cases ha
    · obtain ⟨z1, m', n', at', z2, z3, z4, z5⟩ := r4 hv1
      exact ⟨z1, m', n', at', by omega, z3, z4, z5⟩
  | some a =>
    obtain ⟨r5, rz, m', r6, r7⟩ := r3 a hv1
    obtain ⟨κ2, s1, s2, s3, s4⟩ := b3 N m' κ1 T t0 (n + 1) X ((hE.sub (by omega) (by omega)).same r1) rz (by omega) (by omega)
    have sm : samJ [83] [(69, 30)] κ κ2 := r1.trans s1
    have low : ∀ i, i < n → hk_B κ2 83 i = hk_B κ 83 i := fun i hi => by rw [s2 i (by omega), r2 i hi]
    cases hw1 : w X with
    | none =>
      refine ⟨κ2, sm, low, ?_, fun _ => ?_⟩
      · intro c hc
        unfold vBin at hc
        rw [hv1] at hc
        dsimp only at hc
        rw [hw1] at hc
        cases hc
      · obtain ⟨z1, m'', n', at', z2, z3, z4, z5⟩ := s4 hw1
        exact ⟨z1, m'', n', at', by omega, z3, z4, r7.trans z5⟩
    | some b =>
      obtain ⟨s5, sz, m'', s6, s7⟩ := s3 b hw1
      have s8 : hk_B κ2 83 n = Int64.ofInt a := by rw [s2 n (by omega)]; exact r5
      obtain ⟨e1, e2, e3, e4, e5⟩ := ((hE.same r1).same s1).step (N := N) (m := m) (n := n) (i := t) (by omega) (by omega) sz
      obtain ⟨m'', rfl⟩ : ∃ j, m'' = j + 1 := ⟨m'' - 1, by omega⟩
      rw [hO] at e3
      obtain ⟨oa1, oa2⟩ := ov _ a hv1
      obtain ⟨ob1, ob2⟩ := ow _ b hw1
      obtain ⟨κ3, k1, k2, k3⟩ := r_reckon N κ2 ho sz oa1 oa2 ob1 ob2
      obtain ⟨w1, w2⟩ := rawV_bd (o := o) oa1 oa2 ob1 ob2
      have vb : vBin o v w X = opV o a b := by
        unfold vBin
        rw [hv1]
        dsimp only
        rw [hw1]
      have n20 : ¬ 20 + o < 20 := by omega
      have n27 : 20 + o < 27 := by omega
      have kn1 : n + 1 + 1 - 1 = n + 1 := by omega
      have kn2 : n + 1 - 1 = n := by omega
      have inn : ∀ h, fX12_in N (Int64.ofInt (rawV o a b)) (-1000000000) 1000000000 h = some (if -1000000000 ≤ rawV o a b ∧ rawV o a b ≤ 1000000000 then n3 1 else n3 0, h) := by
        intro h
        rw [r_in, l9_toInt (by omega) (by omega)]
        rfl
      rw [s7] at r7
      have sm3 : samJ [83] [(69, 30)] κ κ3 := sm.trans (k2.weak (by decide) (by decide))
      have fin : ∀ z, samJ [83] [(69, 30)] κ (hk_wI (hk_wB κ3 83 n (Int64.ofInt (rawV o a b))) 69 30 z) := fun z => (sm3.wB (by decide)).wI (by decide)
      have low3 : ∀ z i, i < n → hk_B (hk_wI (hk_wB κ3 83 n (Int64.ofInt (rawV o a b))) 69 30 z) 83 i = hk_B κ 83 i := by
        intro z i hi
        show hk_B (hk_wB κ3 83 n _) 83 i = _
        rw [B_ne (Or.inr (by omega)), k2.1.2.1 83 (by decide)]
        exact low i hi
      by_cases cd : o = 3 ∧ b = 0
      · rw [if_pos cd] at k3
        have ob : opV o a b = none := by rw [opV_raw, if_pos cd]
        have k3' : hk_I (hk_wB κ3 83 n (Int64.ofInt (rawV o a b))) 69 30 = n3 1 := k3
        refine ⟨hk_wI (hk_wB κ3 83 n (Int64.ofInt (rawV o a b))) 69 30 (n3 1), fin _, low3 _, ?_, fun _ => ⟨I_eq, m'', n + 1, t + 1, by omega, by omega, by omega, ?_⟩⟩
        · intro c hc; rw [vb, ob] at hc; cases hc
        · rw [r7]
          unfold rLo
          rw [nX12_reckonAll_10]
          simp (maxSteps := 400000) (disch := omega) only [n3_l, n3_add, n3_mul, n3_sub, n3_subn, n3_lt, n3_le, n3_eq, n3_eqn, n3_neq, n3_and, n3_or, n3_shl, n3_i, n3_cl, ↓hbd_0, ↓hbd_1, ↓hbd_2, hk_ob_0, hk_rd_0, hk_rd_1, hk_rd_2, hk_al_0, hk_al_1, h3r_0, h3r_1, hk_wi_0, hk_wj_0, h3w_0, h3w_1, h3v_0, hk_kI, hk_kJ, hk_kA, hk_kB, A_eq, A_ne, A_row, B_eq, B_ne, B_row, I_eq, I_ne, J_eq, J_ne, Option.bind_some, Option.some.injEq, if_true, if_false, eq_self, true_or, or_true, true_and, and_true, false_or, or_false, not_true_eq_false, not_false_eq_true, Classical.not_not, nar_b0, nar_b1, rz_0, rz_1, rz_i, ite01, Nat.add_zero, Nat.zero_add, Nat.one_mul, mul12, reduceIte, ra_z0, Nat.reduceEqDiff, Nat.reduceLT, Nat.reduceLeDiff, Nat.reduceAdd, Nat.reduceMul, Nat.reduceSub, Nat.reduceDiv, Nat.reduceMod, Bool.false_eq_true, false_and, and_false, reduceCtorEq, e1, sz, e5, e3, e4, n20, n27, kn1, kn2, s8, s5, k1, k3', nX12_reckonAll_169, nX12_reckonAll_174, nX12_reckonAll_242]
      · rw [if_neg cd] at k3
        have k3' : hk_I (hk_wB κ3 83 n (Int64.ofInt (rawV o a b))) 69 30 = n3 0 := k3
        have ob : opV o a b = limV (rawV o a b) := by rw [opV_raw, if_neg cd]
        by_cases cl : -1000000000 ≤ rawV o a b ∧ rawV o a b ≤ 1000000000
        · have ol : opV o a b = some (rawV o a b) := by rw [ob]; exact if_pos cl
          refine ⟨hk_wI (hk_wB κ3 83 n (Int64.ofInt (rawV o a b))) 69 30 (n3 0), fin _, low3 _, ?_, fun hc => by rw [vb, ol] at hc; cases hc⟩
          intro c hc
          rw [vb, ol] at hc
          have hc' := Option.some.inj hc
          refine ⟨by show hk_B (hk_wB κ3 83 n _) 83 n = _; rw [B_eq rfl, hc'], I_eq, m'', by omega, ?_⟩
          rw [r7]
          unfold rLo
          rw [nX12_reckonAll_10]
          simp (maxSteps := 400000) (disch := omega) only [n3_l, n3_add, n3_mul, n3_sub, n3_subn, n3_lt, n3_le, n3_eq, n3_eqn, n3_neq, n3_and, n3_or, n3_shl, n3_i, n3_cl, ↓hbd_0, ↓hbd_1, ↓hbd_2, hk_ob_0, hk_rd_0, hk_rd_1, hk_rd_2, hk_al_0, hk_al_1, h3r_0, h3r_1, hk_wi_0, hk_wj_0, h3w_0, h3w_1, h3v_0, hk_kI, hk_kJ, hk_kA, hk_kB, A_eq, A_ne, A_row, B_eq, B_ne, B_row, I_eq, I_ne, J_eq, J_ne, Option.bind_some, Option.some.injEq, if_true, if_false, eq_self, true_or, or_true, true_and, and_true, false_or, or_false, not_true_eq_false, not_false_eq_true, Classical.not_not, nar_b0, nar_b1, rz_0, rz_1, rz_i, ite01, Nat.add_zero, Nat.zero_add, Nat.one_mul, mul12, reduceIte, ra_z0, Nat.reduceEqDiff, Nat.reduceLT, Nat.reduceLeDiff, Nat.reduceAdd, Nat.reduceMul, Nat.reduceSub, Nat.reduceDiv, Nat.reduceMod, Bool.false_eq_true, false_and, and_false, reduceCtorEq, e1, sz, e5, e3, e4, n20, n27, kn1, kn2, s8, s5, k1, k3', inn, cl, nX12_reckonAll_169, nX12_reckonAll_174, nX12_reckonAll_242]
        · have ol : opV o a b = none := by rw [ob]; exact if_neg cl
          refine ⟨hk_wI (hk_wB κ3 83 n (Int64.ofInt (rawV o a b))) 69 30 (n3 1), fin _, low3 _, ?_, fun _ => ⟨I_eq, m'', n + 1, t + 1, by omega, by omega, by omega, ?_⟩⟩
          · intro c hc; rw [vb, ol] at hc; cases hc
          · rw [r7]
            unfold rLo
            rw [nX12_reckonAll_10]
            simp (maxSteps := 400000) (disch := omega) only [n3_l, n3_add, n3_mul, n3_sub, n3_subn, n3_lt, n3_le, n3_eq, n3_eqn, n3_neq, n3_and, n3_or, n3_shl, n3_i, n3_cl, ↓hbd_0, ↓hbd_1, ↓hbd_2, hk_ob_0, hk_rd_0, hk_rd_1, hk_rd_2, hk_al_0, hk_al_1, h3r_0, h3r_1, hk_wi_0, hk_wj_0, h3w_0, h3w_1, h3v_0, hk_kI, hk_kJ, hk_kA, hk_kB, A_eq, A_ne, A_row, B_eq, B_ne, B_row, I_eq, I_ne, J_eq, J_ne, Option.bind_some, Option.some.injEq, if_true, if_false, eq_self, true_or, or_true, true_and, and_true, false_or, or_false, not_true_eq_false, not_false_eq_true, Classical.not_not, nar_b0, nar_b1, rz_0, rz_1, rz_i, ite01, Nat.add_zero, Nat.zero_add, Nat.one_mul, mul12, reduceIte, ra_z0, Nat.reduceEqDiff, Nat.reduceLT, Nat.reduceLeDiff, Nat.reduceAdd, Nat.reduceMul, Nat.reduceSub, Nat.reduceDiv, Nat.reduceMod, Bool.false_eq_true, false_and, and_false, reduceCtorEq, e1, sz, e5, e3, e4, n20, n27, kn1, kn2, s8, s5, k1, k3', inn, cl, nX12_reckonAll_169, nX12_reckonAll_174, nX12_reckonAll_242]
theorem rFr_not {O G : Nat → Nat} {f t d : Nat} {v : valT} (hv : rFr O G f t d v) (hO : O t = 27) : rFr O G f (t + 1) d (vNot v) := by
  obtain ⟨a1, a2, a3⟩ := hv
  refine ⟨by omega, a2, fun N m κ T t0 n X hE hz hh hm => ?_⟩
  obtain ⟨κ1, r1, r2, r3, r4⟩ := a3 N m κ T t0 n X (hE.sub (Nat.le_refl _) (by omega)) hz (by omega) (by omega)
  cases hv1 : v X with
  | none =>
    refine ⟨κ1, r1, r2, ?_, fun _ => ?_⟩
    · intro a ha
      unfold vNot at ha
      rw [hv1] at ha
      cases ha
    · obtain ⟨z1, m', n', at', z2, z3, z4, z5⟩ := r4 hv1
      exact ⟨z1, m', n', at', by omega, z3, z4, z5⟩
  | some a =>
    obtain ⟨r5, rz, m', r6, r7⟩ := r3 a hv1
    obtain ⟨e1, e2, e3, e4, e5⟩ := (hE.same r1).step (N := N) (m := m) (n := n) (i := t) (by omega) (by omega) rz
    obtain ⟨m', rfl⟩ : ∃ j, m' = j + 1 := ⟨m' - 1, by omega⟩
    rw [hO] at e3
    have zs : (1 : Int64) - Int64.ofInt a = Int64.ofInt (1 - a) := by rw [Int64.ofInt_sub]; rfl
    have kn2 : n + 1 - 1 = n := by omega
    refine ⟨hk_wB κ1 83 n (Int64.ofInt (1 - a)), r1.wB (by decide), fun i hi => by rw [B_ne (Or.inr (by omega))]; exact r2 i hi, ?_, ?_⟩
    · intro c hc
      unfold vNot at hc
      rw [hv1] at hc
      have hc' := Option.some.inj hc
      refine ⟨by rw [B_eq rfl, ← hc'], rz, m', by omega, ?_⟩
      rw [r7]
      unfold rLo
      rw [nX12_reckonAll_10]
      simp (maxSteps := 400000) (disch := omega) only [n3_l, n3_add, n3_mul, n3_sub, n3_subn, n3_lt, n3_le, n3_eq, n3_eqn, n3_neq, n3_and, n3_or, n3_shl, n3_i, n3_cl, ↓hbd_0, ↓hbd_1, ↓hbd_2, hk_ob_0, hk_rd_0, hk_rd_1, hk_rd_2, hk_al_0, hk_al_1, h3r_0, h3r_1, hk_wi_0, hk_wj_0, h3w_0, h3w_1, h3v_0, hk_kI, hk_kJ, hk_kA, hk_kB, A_eq, A_ne, A_row, B_eq, B_ne, B_row, I_eq, I_ne, J_eq, J_ne, Option.bind_some, Option.some.injEq, if_true, if_false, eq_self, true_or, or_true, true_and, and_true, false_or, or_false, not_true_eq_false, not_false_eq_true, Classical.not_not, nar_b0, nar_b1, rz_0, rz_1, rz_i, ite01, Nat.add_zero, Nat.zero_add, Nat.one_mul, mul12, reduceIte, ra_z0, Nat.reduceEqDiff, Nat.reduceLT, Nat.reduceLeDiff, Nat.reduceAdd, Nat.reduceMul, Nat.reduceSub, Nat.reduceDiv, Nat.reduceMod, Bool.false_eq_true, false_and, and_false, reduceCtorEq, e1, rz, e5, e3, e4, kn2, r5, zs, nX12_reckonAll_242]
    · intro hc
      unfold vNot at hc
      rw [hv1] at hc
      cases hc
theorem rFr_ao {O G : Nat → Nat} {f m1 t d1 d2 o : Nat} {v w : valT} (hv : rFr O G f m1 d1 v) (hw : rFr O G (m1 + 1) t d2 w) (tv : vT v) (ho : o = 0 ∨ o = 1) (hO : O m1 = 28 + o) (hG : G m1 = t) : rFr O G f t (d1 + d2) (vAO o v w) := by
  obtain ⟨a1, a2, a3⟩ := hv
  obtain ⟨b1, b2, b3⟩ := hw
  refine ⟨by omega, by omega, fun N m κ T t0 n X hE hz hh hm => ?_⟩
  obtain ⟨κ1, r1, r2, r3, r4⟩ := a3 N m κ T t0 n X (hE.sub (Nat.le_refl _) (by omega)) hz (by omega) (by omega)
  cases hv1 : v X with
  | none =>
    refine ⟨κ1, r1, r2, ?_, fun _ => ?_⟩
    · intro a ha
      unfold vAO at ha
      rw [hv1] at ha
      cases ha
    · obtain ⟨z1, m', n', at', z2, z3, z4, z5⟩ := r4 hv1
      exact ⟨z1, m', n', at', by omega, z3, z4, z5⟩
  | some a =>
    obtain ⟨r5, rz, m', r6, r7⟩ := r3 a hv1
    obtain ⟨e1, e2, e3, e4, e5⟩ := (hE.same r1).step (N := N) (m := m) (n := n) (i := m1) (by omega) (by omega) rz
    obtain ⟨m', rfl⟩ : ∃ j, m' = j + 1 := ⟨m' - 1, by omega⟩
    rw [hO] at e3
    rw [hG] at e4
    have ta := tv _ a hv1
    have vb : vAO o v w X = if a = (o : Int) then some a else w X := by
      unfold vAO
      rw [hv1]
    have le : ∀ k : Nat, k ≤ 1 → (lg_cmp (Int64.ofInt a) (Int64.ofInt k) = n3 0 ↔ a = (k : Int)) := by
      intro k hk
      rw [lg3_eq, ← Int64.toInt_inj, l9_toInt (by omega) (by omega), l9_toInt (by omega) (by omega)]
    have le0 : lg_cmp (Int64.ofInt a) (0 : Int64) = n3 0 ↔ a = ((0 : Nat) : Int) := le 0 (by omega)
    have le1 : lg_cmp (Int64.ofInt a) (1 : Int64) = n3 0 ↔ a = ((1 : Nat) : Int) := le 1 (by omega)
    have kn2 : n + 1 - 1 = n := by omega
    have step : rLo N (m' + 1) T (n + 1) m1 κ1 = if a = (o : Int) then rLo N m' T (n + 1) t κ1 else rLo N m' T n (m1 + 1) κ1 := by
      unfold rLo
      rw [nX12_reckonAll_10]
      by_cases c : a = (o : Int)
      · rw [if_pos c]
        rcases ho with z | z
        · subst z
          have c' := le0.mpr c
          simp (maxSteps := 400000) (disch := omega) only [n3_l, n3_add, n3_mul, n3_sub, n3_subn, n3_lt, n3_le, n3_eq, n3_eqn, n3_neq, n3_and, n3_or, n3_shl, n3_i, n3_cl, ↓hbd_0, ↓hbd_1, ↓hbd_2, hk_ob_0, hk_rd_0, hk_rd_1, hk_rd_2, hk_al_0, hk_al_1, h3r_0, h3r_1, hk_wi_0, hk_wj_0, h3w_0, h3w_1, h3v_0, hk_kI, hk_kJ, hk_kA, hk_kB, A_eq, A_ne, A_row, B_eq, B_ne, B_row, I_eq, I_ne, J_eq, J_ne, Option.bind_some, Option.some.injEq, if_true, if_false, eq_self, true_or, or_true, true_and, and_true, false_or, or_false, not_true_eq_false, not_false_eq_true, Classical.not_not, nar_b0, nar_b1, rz_0, rz_1, rz_i, ite01, Nat.add_zero, Nat.zero_add, Nat.one_mul, mul12, reduceIte, ra_z0, Nat.reduceEqDiff, Nat.reduceLT, Nat.reduceLeDiff, Nat.reduceAdd, Nat.reduceMul, Nat.reduceSub, Nat.reduceDiv, Nat.reduceMod, Bool.false_eq_true, false_and, and_false, reduceCtorEq, e1, rz, e5, e3, e4, kn2, r5, c', nX12_reckonAll_228, nX12_reckonAll_242]
        · subst z
          have c' := le1.mpr c
          simp (maxSteps := 400000) (disch := omega) only [n3_l, n3_add, n3_mul, n3_sub, n3_subn, n3_lt, n3_le, n3_eq, n3_eqn, n3_neq, n3_and, n3_or, n3_shl, n3_i, n3_cl, ↓hbd_0, ↓hbd_1, ↓hbd_2, hk_ob_0, hk_rd_0, hk_rd_1, hk_rd_2, hk_al_0, hk_al_1, h3r_0, h3r_1, hk_wi_0, hk_wj_0, h3w_0, h3w_1, h3v_0, hk_kI, hk_kJ, hk_kA, hk_kB, A_eq, A_ne, A_row, B_eq, B_ne, B_row, I_eq, I_ne, J_eq, J_ne, Option.bind_some, Option.some.injEq, if_true, if_false, eq_self, true_or, or_true, true_and, and_true, false_or, or_false, not_true_eq_false, not_false_eq_true, Classical.not_not, nar_b0, nar_b1, rz_0, rz_1, rz_i, ite01, Nat.add_zero, Nat.zero_add, Nat.one_mul, mul12, reduceIte, ra_z0, Nat.reduceEqDiff, Nat.reduceLT, Nat.reduceLeDiff, Nat.reduceAdd, Nat.reduceMul, Nat.reduceSub, Nat.reduceDiv, Nat.reduceMod, Bool.false_eq_true, false_and, and_false, reduceCtorEq, e1, rz, e5, e3, e4, kn2, r5, c', nX12_reckonAll_228, nX12_reckonAll_242]
      · rw [if_neg c]
        rcases ho with z | z
        · subst z
          simp (maxSteps := 400000) (disch := omega) only [n3_l, n3_add, n3_mul, n3_sub, n3_subn, n3_lt, n3_le, n3_eq, n3_eqn, n3_neq, n3_and, n3_or, n3_shl, n3_i, n3_cl, ↓hbd_0, ↓hbd_1, ↓hbd_2, hk_ob_0, hk_rd_0, hk_rd_1, hk_rd_2, hk_al_0, hk_al_1, h3r_0, h3r_1, hk_wi_0, hk_wj_0, h3w_0, h3w_1, h3v_0, hk_kI, hk_kJ, hk_kA, hk_kB, A_eq, A_ne, A_row, B_eq, B_ne, B_row, I_eq, I_ne, J_eq, J_ne, Option.bind_some, Option.some.injEq, if_true, if_false, eq_self, true_or, or_true, true_and, and_true, false_or, or_false, not_true_eq_false, not_false_eq_true, Classical.not_not, nar_b0, nar_b1, rz_0, rz_1, rz_i, ite01, Nat.add_zero, Nat.zero_add, Nat.one_mul, mul12, reduceIte, ra_z0, Nat.reduceEqDiff, Nat.reduceLT, Nat.reduceLeDiff, Nat.reduceAdd, Nat.reduceMul, Nat.reduceSub, Nat.reduceDiv, Nat.reduceMod, Bool.false_eq_true, false_and, and_false, reduceCtorEq, e1, rz, e5, e3, e4, kn2, r5, le0, c, nX12_reckonAll_228, nX12_reckonAll_242]
        · subst z
          simp (maxSteps := 400000) (disch := omega) only [n3_l, n3_add, n3_mul, n3_sub, n3_subn, n3_lt, n3_le, n3_eq, n3_eqn, n3_neq, n3_and, n3_or, n3_shl, n3_i, n3_cl, ↓hbd_0, ↓hbd_1, ↓hbd_2, hk_ob_0, hk_rd_0, hk_rd_1, hk_rd_2, hk_al_0, hk_al_1, h3r_0, h3r_1, hk_wi_0, hk_wj_0, h3w_0, h3w_1, h3v_0, hk_kI, hk_kJ, hk_kA, hk_kB, A_eq, A_ne, A_row, B_eq, B_ne, B_row, I_eq, I_ne, J_eq, J_ne, Option.bind_some, Option.some.injEq, if_true, if_false, eq_self, true_or, or_true, true_and, and_true, false_or, or_false, not_true_eq_false, not_false_eq_true, Classical.not_not, nar_b0, nar_b1, rz_0, rz_1, rz_i, ite01, Nat.add_zero, Nat.zero_add, Nat.one_mul, mul12, reduceIte, ra_z0, Nat.reduceEqDiff, Nat.reduceLT, Nat.reduceLeDiff, Nat.reduceAdd, Nat.reduceMul, Nat.reduceSub, Nat.reduceDiv, Nat.reduceMod, Bool.false_eq_true, false_and, and_false, reduceCtorEq, e1, rz, e5, e3, e4, kn2, r5, le1, c, nX12_reckonAll_228, nX12_reckonAll_242]
    rw [step] at r7
    by_cases c : a = (o : Int)
    · rw [if_pos c] at r7 vb
      refine ⟨κ1, r1, r2, ?_, fun hc => by rw [vb] at hc; cases hc⟩
      intro c' hc
      rw [vb] at hc
      have := Option.some.inj hc
      exact ⟨by rw [← this]; exact r5, rz, m', by omega, r7⟩
    · rw [if_neg c] at r7 vb
      obtain ⟨κ2, s1, s2, s3, s4⟩ := b3 N m' κ1 T t0 n X ((hE.sub (by omega) (Nat.le_refl _)).same r1) rz (by omega) (by omega)
      refine ⟨κ2, r1.trans s1, fun i hi => by rw [s2 i hi, r2 i hi], ?_, ?_⟩
      · intro c' hc
        rw [vb] at hc
        obtain ⟨s5, sz, m'', s6, s7⟩ := s3 c' hc
        exact ⟨s5, sz, m'', by omega, r7.trans s7⟩
      · intro hc
        rw [vb] at hc
        obtain ⟨z1, m'', n', at', z2, z3, z4, z5⟩ := s4 hc
        exact ⟨z1, m'', n', at', by omega, z3, z4, r7.trans z5⟩
