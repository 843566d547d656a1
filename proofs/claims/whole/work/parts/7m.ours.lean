/-! ours, untrue -/
def oursN (o : Option Int) : Nat := match o with
  | none => 0
  | some v => if v < 0 then 0 else if v ≤ 1000 then v.toNat else 1000
theorem oursN_le (o : Option Int) : oursN o ≤ 1000 := by
  unfold oursN
  split
  · omega
  · split
    · omega
    · split <;> omega
section
variable (N : Nat) (κ : hk_T)
theorem c_oursOf {t b q : Nat} {τ : tauT} (ht : t < 8) (hb : b < 40) (hN : 100000 < N) (hq : hk_Q κ 6 t = some q) (hc : cTx (hk_D κ) q τ) (hτ : tauOk τ) (hX : factsOk (fx (hk_A κ 2) b)) :
    ∃ κ', fX11_oursOf N 0 (n3 t) (n3 b) (hp κ) = some (n3 (oursN (τ 3 (fx (hk_A κ 2) b))), hp κ') ∧ same [22] [] κ κ' := by
  obtain ⟨cc, ch, cb, q1, q2, q3, q4, -, con⟩ := hc
  obtain ⟨k1, e1, s1⟩ := con N κ b 3 hN hb (by omega) hX rfl rfl rfl rfl
  refine ⟨k1, ?_, s1⟩
  have m2 : (-2000000000 : Int32) = -n3 2000000000 := rfl
  unfold fX11_oursOf nX11_oursOf_0 nX11_oursOf_40 nX11_oursOf_56
  simp (maxSteps := 400000) (disch := omega) only [n3_l, n3_add, n3_mul, n3_sub, n3_subn, n3_lt, n3_le, n3_eq, n3_eqn, n3_neq, n3_and, n3_or, n3_shl, n3_i, n3_cl, ↓hbd_0, ↓hbd_1, ↓hbd_2, hk_ob_0, hk_rd_0, hk_rd_1, hk_rd_2, hk_al_0, hk_al_1, h3r_0, h3r_1, hk_wi_0, hk_wj_0, h3w_0, h3w_1, h3v_0, hk_kI, hk_kJ, hk_kA, hk_kB, A_eq, A_ne, A_row, B_eq, B_ne, B_row, I_eq, I_ne, J_eq, J_ne, Option.bind_some, Option.some.injEq, if_true, if_false, eq_self, true_or, or_true, true_and, and_true, false_or, or_false, not_true_eq_false, not_false_eq_true, Classical.not_not, nar_b0, nar_b1, rz_0, rz_1, rz_i, ite01, Nat.add_zero, Nat.zero_add, Nat.one_mul, mul12, reduceIte, ra_z0, Nat.reduceEqDiff, Nat.reduceLT, Nat.reduceLeDiff, Nat.reduceAdd, Nat.reduceMul, Nat.reduceSub, Nat.reduceDiv, Nat.reduceMod, Bool.false_eq_true, false_and, and_false, reduceCtorEq, hq]
  simp (maxSteps := 400000) (disch := omega) only [n3_l, n3_add, n3_mul, n3_sub, n3_subn, n3_lt, n3_le, n3_eq, n3_eqn, n3_neq, n3_and, n3_or, n3_shl, n3_i, n3_cl, ↓hbd_0, ↓hbd_1, ↓hbd_2, hk_ob_0, hk_rd_0, hk_rd_1, hk_rd_2, hk_al_0, hk_al_1, h3r_0, h3r_1, hk_wi_0, hk_wj_0, h3w_0, h3w_1, h3v_0, hk_kI, hk_kJ, hk_kA, hk_kB, A_eq, A_ne, A_row, B_eq, B_ne, B_row, I_eq, I_ne, J_eq, J_ne, Option.bind_some, Option.some.injEq, if_true, if_false, eq_self, true_or, or_true, true_and, and_true, false_or, or_false, not_true_eq_false, not_false_eq_true, Classical.not_not, nar_b0, nar_b1, rz_0, rz_1, rz_i, ite01, Nat.add_zero, Nat.zero_add, Nat.one_mul, mul12, reduceIte, ra_z0, Nat.reduceEqDiff, Nat.reduceLT, Nat.reduceLeDiff, Nat.reduceAdd, Nat.reduceMul, Nat.reduceSub, Nat.reduceDiv, Nat.reduceMod, Bool.false_eq_true, false_and, and_false, reduceCtorEq, e1]
  unfold oursN
  cases h : τ 3 (fx (hk_A κ 2) b) with
  | none =>
    have e : tellI none = -n3 2000000000 := rfl
    simp (maxSteps := 400000) (disch := omega) only [n3_l, n3_add, n3_mul, n3_sub, n3_subn, n3_lt, n3_le, n3_eq, n3_eqn, n3_neq, n3_and, n3_or, n3_shl, n3_i, n3_cl, ↓hbd_0, ↓hbd_1, ↓hbd_2, hk_ob_0, hk_rd_0, hk_rd_1, hk_rd_2, hk_al_0, hk_al_1, h3r_0, h3r_1, hk_wi_0, hk_wj_0, h3w_0, h3w_1, h3v_0, hk_kI, hk_kJ, hk_kA, hk_kB, A_eq, A_ne, A_row, B_eq, B_ne, B_row, I_eq, I_ne, J_eq, J_ne, Option.bind_some, Option.some.injEq, if_true, if_false, eq_self, true_or, or_true, true_and, and_true, false_or, or_false, not_true_eq_false, not_false_eq_true, Classical.not_not, nar_b0, nar_b1, rz_0, rz_1, rz_i, ite01, Nat.add_zero, Nat.zero_add, Nat.one_mul, mul12, reduceIte, ra_z0, Nat.reduceEqDiff, Nat.reduceLT, Nat.reduceLeDiff, Nat.reduceAdd, Nat.reduceMul, Nat.reduceSub, Nat.reduceDiv, Nat.reduceMod, Bool.false_eq_true, false_and, and_false, reduceCtorEq, e, m2]
  | some v =>
    obtain ⟨g1, g2⟩ := hτ _ _ v h
    have e : tellI (some v) = Int32.ofInt v := rfl
    have ne := ofInt_ne g1 g2
    have lt : (Int32.ofInt v < n3 0) ↔ v < 0 := by rw [i_lt, toInt_ofI g1 g2, n3_toInt (by omega)]; omega
    have le : (Int32.ofInt v ≤ n3 1000) ↔ v ≤ 1000 := by rw [i_le, toInt_ofI g1 g2, n3_toInt (by omega)]; omega
    simp (maxSteps := 400000) (disch := omega) only [n3_l, n3_add, n3_mul, n3_sub, n3_subn, n3_lt, n3_le, n3_eq, n3_eqn, n3_neq, n3_and, n3_or, n3_shl, n3_i, n3_cl, ↓hbd_0, ↓hbd_1, ↓hbd_2, hk_ob_0, hk_rd_0, hk_rd_1, hk_rd_2, hk_al_0, hk_al_1, h3r_0, h3r_1, hk_wi_0, hk_wj_0, h3w_0, h3w_1, h3v_0, hk_kI, hk_kJ, hk_kA, hk_kB, A_eq, A_ne, A_row, B_eq, B_ne, B_row, I_eq, I_ne, J_eq, J_ne, Option.bind_some, Option.some.injEq, if_true, if_false, eq_self, true_or, or_true, true_and, and_true, false_or, or_false, not_true_eq_false, not_false_eq_true, Classical.not_not, nar_b0, nar_b1, rz_0, rz_1, rz_i, ite01, Nat.add_zero, Nat.zero_add, Nat.one_mul, mul12, reduceIte, ra_z0, Nat.reduceEqDiff, Nat.reduceLT, Nat.reduceLeDiff, Nat.reduceAdd, Nat.reduceMul, Nat.reduceSub, Nat.reduceDiv, Nat.reduceMod, Bool.false_eq_true, false_and, and_false, reduceCtorEq, e, m2, ne, lt, le]
    by_cases c0 : v < 0
    · simp (maxSteps := 400000) (disch := omega) only [n3_l, n3_add, n3_mul, n3_sub, n3_subn, n3_lt, n3_le, n3_eq, n3_eqn, n3_neq, n3_and, n3_or, n3_shl, n3_i, n3_cl, ↓hbd_0, ↓hbd_1, ↓hbd_2, hk_ob_0, hk_rd_0, hk_rd_1, hk_rd_2, hk_al_0, hk_al_1, h3r_0, h3r_1, hk_wi_0, hk_wj_0, h3w_0, h3w_1, h3v_0, hk_kI, hk_kJ, hk_kA, hk_kB, A_eq, A_ne, A_row, B_eq, B_ne, B_row, I_eq, I_ne, J_eq, J_ne, Option.bind_some, Option.some.injEq, if_true, if_false, eq_self, true_or, or_true, true_and, and_true, false_or, or_false, not_true_eq_false, not_false_eq_true, Classical.not_not, nar_b0, nar_b1, rz_0, rz_1, rz_i, ite01, Nat.add_zero, Nat.zero_add, Nat.one_mul, mul12, reduceIte, ra_z0, Nat.reduceEqDiff, Nat.reduceLT, Nat.reduceLeDiff, Nat.reduceAdd, Nat.reduceMul, Nat.reduceSub, Nat.reduceDiv, Nat.reduceMod, Bool.false_eq_true, false_and, and_false, reduceCtorEq, c0]
    · by_cases c1 : v ≤ 1000
      · simp (maxSteps := 400000) (disch := omega) only [n3_l, n3_add, n3_mul, n3_sub, n3_subn, n3_lt, n3_le, n3_eq, n3_eqn, n3_neq, n3_and, n3_or, n3_shl, n3_i, n3_cl, ↓hbd_0, ↓hbd_1, ↓hbd_2, hk_ob_0, hk_rd_0, hk_rd_1, hk_rd_2, hk_al_0, hk_al_1, h3r_0, h3r_1, hk_wi_0, hk_wj_0, h3w_0, h3w_1, h3v_0, hk_kI, hk_kJ, hk_kA, hk_kB, A_eq, A_ne, A_row, B_eq, B_ne, B_row, I_eq, I_ne, J_eq, J_ne, Option.bind_some, Option.some.injEq, if_true, if_false, eq_self, true_or, or_true, true_and, and_true, false_or, or_false, not_true_eq_false, not_false_eq_true, Classical.not_not, nar_b0, nar_b1, rz_0, rz_1, rz_i, ite01, Nat.add_zero, Nat.zero_add, Nat.one_mul, mul12, reduceIte, ra_z0, Nat.reduceEqDiff, Nat.reduceLT, Nat.reduceLeDiff, Nat.reduceAdd, Nat.reduceMul, Nat.reduceSub, Nat.reduceDiv, Nat.reduceMod, Bool.false_eq_true, false_and, and_false, reduceCtorEq, c0, c1]
        rw [ofInt_n3 (by omega)]
      · simp (maxSteps := 400000) (disch := omega) only [n3_l, n3_add, n3_mul, n3_sub, n3_subn, n3_lt, n3_le, n3_eq, n3_eqn, n3_neq, n3_and, n3_or, n3_shl, n3_i, n3_cl, ↓hbd_0, ↓hbd_1, ↓hbd_2, hk_ob_0, hk_rd_0, hk_rd_1, hk_rd_2, hk_al_0, hk_al_1, h3r_0, h3r_1, hk_wi_0, hk_wj_0, h3w_0, h3w_1, h3v_0, hk_kI, hk_kJ, hk_kA, hk_kB, A_eq, A_ne, A_row, B_eq, B_ne, B_row, I_eq, I_ne, J_eq, J_ne, Option.bind_some, Option.some.injEq, if_true, if_false, eq_self, true_or, or_true, true_and, and_true, false_or, or_false, not_true_eq_false, not_false_eq_true, Classical.not_not, nar_b0, nar_b1, rz_0, rz_1, rz_i, ite01, Nat.add_zero, Nat.zero_add, Nat.one_mul, mul12, reduceIte, ra_z0, Nat.reduceEqDiff, Nat.reduceLT, Nat.reduceLeDiff, Nat.reduceAdd, Nat.reduceMul, Nat.reduceSub, Nat.reduceDiv, Nat.reduceMod, Bool.false_eq_true, false_and, and_false, reduceCtorEq, c0, c1]
theorem r_oursOf {t b : Nat} {τ : tauT} (ht : t < 8) (hb : b < 40) (hN : 100000 < N) (hr : rTx (fun i => hk_A κ 71 (760 + 900 * t + i)) τ) (hτ : tauOk τ) (hX : factsOk (fx (hk_A κ 71) b)) :
    ∃ κ', fX12_oursOf N 69 (n3 t) (n3 b) (hp κ) = some (n3 (oursN (τ 3 (fx (hk_A κ 71) b))), hp κ') ∧ same [82, 83] [(69, 27), (69, 30), (69, 33)] κ κ' := by
  obtain ⟨k1, e1, s1, v1, w1⟩ := hr N κ t b 3 hN ht hb (by omega) hX (fun _ _ => rfl)
  refine ⟨k1, ?_, s1⟩
  have w := w1 (by omega)
  unfold fX12_oursOf nX12_oursOf_0 nX12_oursOf_42
  simp (maxSteps := 400000) (disch := omega) only [n3_l, n3_add, n3_mul, n3_sub, n3_subn, n3_lt, n3_le, n3_eq, n3_eqn, n3_neq, n3_and, n3_or, n3_shl, n3_i, n3_cl, ↓hbd_0, ↓hbd_1, ↓hbd_2, hk_ob_0, hk_rd_0, hk_rd_1, hk_rd_2, hk_al_0, hk_al_1, h3r_0, h3r_1, hk_wi_0, hk_wj_0, h3w_0, h3w_1, h3v_0, hk_kI, hk_kJ, hk_kA, hk_kB, A_eq, A_ne, A_row, B_eq, B_ne, B_row, I_eq, I_ne, J_eq, J_ne, Option.bind_some, Option.some.injEq, if_true, if_false, eq_self, true_or, or_true, true_and, and_true, false_or, or_false, not_true_eq_false, not_false_eq_true, Classical.not_not, nar_b0, nar_b1, rz_0, rz_1, rz_i, ite01, Nat.add_zero, Nat.zero_add, Nat.one_mul, mul12, reduceIte, ra_z0, Nat.reduceEqDiff, Nat.reduceLT, Nat.reduceLeDiff, Nat.reduceAdd, Nat.reduceMul, Nat.reduceSub, Nat.reduceDiv, Nat.reduceMod, Bool.false_eq_true, false_and, and_false, reduceCtorEq, e1, w]
  unfold oursN
  cases h : τ 3 (fx (hk_A κ 71) b) with
  | none =>
    simp only [Option.getD_none]
    rfl
  | some v =>
    obtain ⟨g1, g2⟩ := hτ _ _ v h
    simp only [Option.getD_some]
    have lt : (lg_cmp (Int64.ofInt v) 0 < n3 0) ↔ v < 0 := by rw [lg3_lt, j_lt, toIntJ_of g1 g2]; rfl
    have le : (lg_cmp (Int64.ofInt v) 1000 ≤ n3 0) ↔ v ≤ 1000 := by rw [lg3_le, j_le, toIntJ_of g1 g2]; rfl
    simp only [lt, le, ofIntJ_32]
    by_cases c0 : v < 0
    · simp (maxSteps := 400000) (disch := omega) only [n3_l, n3_add, n3_mul, n3_sub, n3_subn, n3_lt, n3_le, n3_eq, n3_eqn, n3_neq, n3_and, n3_or, n3_shl, n3_i, n3_cl, ↓hbd_0, ↓hbd_1, ↓hbd_2, hk_ob_0, hk_rd_0, hk_rd_1, hk_rd_2, hk_al_0, hk_al_1, h3r_0, h3r_1, hk_wi_0, hk_wj_0, h3w_0, h3w_1, h3v_0, hk_kI, hk_kJ, hk_kA, hk_kB, A_eq, A_ne, A_row, B_eq, B_ne, B_row, I_eq, I_ne, J_eq, J_ne, Option.bind_some, Option.some.injEq, if_true, if_false, eq_self, true_or, or_true, true_and, and_true, false_or, or_false, not_true_eq_false, not_false_eq_true, Classical.not_not, nar_b0, nar_b1, rz_0, rz_1, rz_i, ite01, Nat.add_zero, Nat.zero_add, Nat.one_mul, mul12, reduceIte, ra_z0, Nat.reduceEqDiff, Nat.reduceLT, Nat.reduceLeDiff, Nat.reduceAdd, Nat.reduceMul, Nat.reduceSub, Nat.reduceDiv, Nat.reduceMod, Bool.false_eq_true, false_and, and_false, reduceCtorEq, c0]
    · by_cases c1 : v ≤ 1000
      · simp (maxSteps := 400000) (disch := omega) only [n3_l, n3_add, n3_mul, n3_sub, n3_subn, n3_lt, n3_le, n3_eq, n3_eqn, n3_neq, n3_and, n3_or, n3_shl, n3_i, n3_cl, ↓hbd_0, ↓hbd_1, ↓hbd_2, hk_ob_0, hk_rd_0, hk_rd_1, hk_rd_2, hk_al_0, hk_al_1, h3r_0, h3r_1, hk_wi_0, hk_wj_0, h3w_0, h3w_1, h3v_0, hk_kI, hk_kJ, hk_kA, hk_kB, A_eq, A_ne, A_row, B_eq, B_ne, B_row, I_eq, I_ne, J_eq, J_ne, Option.bind_some, Option.some.injEq, if_true, if_false, eq_self, true_or, or_true, true_and, and_true, false_or, or_false, not_true_eq_false, not_false_eq_true, Classical.not_not, nar_b0, nar_b1, rz_0, rz_1, rz_i, ite01, Nat.add_zero, Nat.zero_add, Nat.one_mul, mul12, reduceIte, ra_z0, Nat.reduceEqDiff, Nat.reduceLT, Nat.reduceLeDiff, Nat.reduceAdd, Nat.reduceMul, Nat.reduceSub, Nat.reduceDiv, Nat.reduceMod, Bool.false_eq_true, false_and, and_false, reduceCtorEq, c0, c1]
        rw [ofInt_n3 (by omega)]
      · simp (maxSteps := 400000) (disch := omega) only [n3_l, n3_add, n3_mul, n3_sub, n3_subn, n3_lt, n3_le, n3_eq, n3_eqn, n3_neq, n3_and, n3_or, n3_shl, n3_i, n3_cl, ↓hbd_0, ↓hbd_1, ↓hbd_2, hk_ob_0, hk_rd_0, hk_rd_1, hk_rd_2, hk_al_0, hk_al_1, h3r_0, h3r_1, hk_wi_0, hk_wj_0, h3w_0, h3w_1, h3v_0, hk_kI, hk_kJ, hk_kA, hk_kB, A_eq, A_ne, A_row, B_eq, B_ne, B_row, I_eq, I_ne, J_eq, J_ne, Option.bind_some, Option.some.injEq, if_true, if_false, eq_self, true_or, or_true, true_and, and_true, false_or, or_false, not_true_eq_false, not_false_eq_true, Classical.not_not, nar_b0, nar_b1, rz_0, rz_1, rz_i, ite01, Nat.add_zero, Nat.zero_add, Nat.one_mul, mul12, reduceIte, ra_z0, Nat.reduceEqDiff, Nat.reduceLT, Nat.reduceLeDiff, Nat.reduceAdd, Nat.reduceMul, Nat.reduceSub, Nat.reduceDiv, Nat.reduceMod, Bool.false_eq_true, false_and, and_false, reduceCtorEq, c0, c1]
/-- the answer of ours for two books -/
def oursA (a b : Nat) : Nat := if a + b = 0 then 0 else a * 100 / (a + b)
theorem c_ours {n nT t b : Nat} {T : Nat → tauT} {o : Int32} (h : cH κ n nT T) (ht : t < nT) (hb : b < n) (hN : 100000 < N) (ho : o = -n3 1 ∨ vIn 0 (n - 1) o = true) :
    ∃ κ', fX11_ours N 0 (n3 t) (n3 b) o (hp κ) = some (if o = -n3 1 then n3 (oursN (T t 3 (fx (hk_A κ 2) b))) else n3 (oursA (oursN (T t 3 (fx (hk_A κ 2) b))) (oursN (T t 3 (fx (hk_A κ 2) o.toInt.toNat)))), hp κ') ∧ same [22] [] κ κ' := by
  obtain ⟨h1, h2, h3, h4, h5, h6, h7, h8⟩ := h
  obtain ⟨q, hq, hc, hτ⟩ := h5 t ht
  have hs := c_hasScheme N κ (n3 t) h3 h4 (fun t ht => by obtain ⟨q, a, -⟩ := h5 t ht; exact ⟨q, a⟩)
  have hvt : vIn 0 (nT - 1) (n3 t) = true := by rw [vIn_iff, n3_toInt (by omega)]; omega
  have hvb : vIn 0 (n - 1) (n3 b) = true := by rw [vIn_iff, n3_toInt (by omega)]; omega
  obtain ⟨k1, e1, s1⟩ := c_oursOf N κ (t := t) (b := b) (by omega) (by omega) hN hq hc hτ (h6 b hb)
  have l1 := oursN_le (T t 3 (fx (hk_A κ 2) b))
  unfold fX11_ours nX11_ours_0
  simp (maxSteps := 400000) (disch := omega) only [n3_l, n3_add, n3_mul, n3_sub, n3_subn, n3_lt, n3_le, n3_eq, n3_eqn, n3_neq, n3_and, n3_or, n3_shl, n3_i, n3_cl, ↓hbd_0, ↓hbd_1, ↓hbd_2, hk_ob_0, hk_rd_0, hk_rd_1, hk_rd_2, hk_al_0, hk_al_1, h3r_0, h3r_1, hk_wi_0, hk_wj_0, h3w_0, h3w_1, h3v_0, hk_kI, hk_kJ, hk_kA, hk_kB, A_eq, A_ne, A_row, B_eq, B_ne, B_row, I_eq, I_ne, J_eq, J_ne, Option.bind_some, Option.some.injEq, if_true, if_false, eq_self, true_or, or_true, true_and, and_true, false_or, or_false, not_true_eq_false, not_false_eq_true, Classical.not_not, nar_b0, nar_b1, rz_0, rz_1, rz_i, ite01, Nat.add_zero, Nat.zero_add, Nat.one_mul, mul12, reduceIte, ra_z0, Nat.reduceEqDiff, Nat.reduceLT, Nat.reduceLeDiff, Nat.reduceAdd, Nat.reduceMul, Nat.reduceSub, Nat.reduceDiv, Nat.reduceMod, Bool.false_eq_true, false_and, and_false, reduceCtorEq, hs, hvt, c_hasBook N κ h1 h2, hvb]
  rcases ho with ho | ho
  · subst ho
    refine ⟨k1, ?_, s1⟩
    simp (maxSteps := 400000) (disch := omega) only [n3_l, n3_add, n3_mul, n3_sub, n3_subn, n3_lt, n3_le, n3_eq, n3_eqn, n3_neq, n3_and, n3_or, n3_shl, n3_i, n3_cl, ↓hbd_0, ↓hbd_1, ↓hbd_2, hk_ob_0, hk_rd_0, hk_rd_1, hk_rd_2, hk_al_0, hk_al_1, h3r_0, h3r_1, hk_wi_0, hk_wj_0, h3w_0, h3w_1, h3v_0, hk_kI, hk_kJ, hk_kA, hk_kB, A_eq, A_ne, A_row, B_eq, B_ne, B_row, I_eq, I_ne, J_eq, J_ne, Option.bind_some, Option.some.injEq, if_true, if_false, eq_self, true_or, or_true, true_and, and_true, false_or, or_false, not_true_eq_false, not_false_eq_true, Classical.not_not, nar_b0, nar_b1, rz_0, rz_1, rz_i, ite01, Nat.add_zero, Nat.zero_add, Nat.one_mul, mul12, reduceIte, ra_z0, Nat.reduceEqDiff, Nat.reduceLT, Nat.reduceLeDiff, Nat.reduceAdd, Nat.reduceMul, Nat.reduceSub, Nat.reduceDiv, Nat.reduceMod, Bool.false_eq_true, false_and, and_false, reduceCtorEq, nX11_ours_40, e1]
  · obtain ⟨c, hcn, rfl⟩ := n3_ex (x := o) (n := n) (vIn_iff.mp ho).1 (by have := (vIn_iff.mp ho).2; omega)
    have hne : ¬ n3 c = -n3 1 := fun z => (n3_eqn (by omega) (by omega) (by omega)).mp z
    have e2' : hk_A k1 2 = hk_A κ 2 := s1.1 2 (by decide)
    obtain ⟨k2, e2, s2⟩ := c_oursOf N k1 (t := t) (b := c) (q := q) (τ := T t) (by omega) (by omega) hN (by rw [s1.2.2.2.1]; exact hq) (by rw [s1.2.2.2.2.2.1]; exact hc) hτ (by rw [e2']; exact h6 c hcn)
    rw [e2'] at e2
    have l2 := oursN_le (T t 3 (fx (hk_A κ 2) c))
    refine ⟨k2, ?_, s1.trans s2⟩
    simp (maxSteps := 400000) (disch := omega) only [n3_l, n3_add, n3_mul, n3_sub, n3_subn, n3_lt, n3_le, n3_eq, n3_eqn, n3_neq, n3_and, n3_or, n3_shl, n3_i, n3_cl, ↓hbd_0, ↓hbd_1, ↓hbd_2, hk_ob_0, hk_rd_0, hk_rd_1, hk_rd_2, hk_al_0, hk_al_1, h3r_0, h3r_1, hk_wi_0, hk_wj_0, h3w_0, h3w_1, h3v_0, hk_kI, hk_kJ, hk_kA, hk_kB, A_eq, A_ne, A_row, B_eq, B_ne, B_row, I_eq, I_ne, J_eq, J_ne, Option.bind_some, Option.some.injEq, if_true, if_false, eq_self, true_or, or_true, true_and, and_true, false_or, or_false, not_true_eq_false, not_false_eq_true, Classical.not_not, nar_b0, nar_b1, rz_0, rz_1, rz_i, ite01, Nat.add_zero, Nat.zero_add, Nat.one_mul, mul12, reduceIte, ra_z0, Nat.reduceEqDiff, Nat.reduceLT, Nat.reduceLeDiff, Nat.reduceAdd, Nat.reduceMul, Nat.reduceSub, Nat.reduceDiv, Nat.reduceMod, Bool.false_eq_true, false_and, and_false, reduceCtorEq, hne, ho, nX11_ours_40, nX11_ours_84, e1, e2, n3_toInt, Int.toNat_natCast, oursA]
    by_cases z : oursN (T t 3 (fx (hk_A κ 2) b)) + oursN (T t 3 (fx (hk_A κ 2) c)) = 0
    · simp (maxSteps := 400000) (disch := omega) only [n3_l, n3_add, n3_mul, n3_sub, n3_subn, n3_lt, n3_le, n3_eq, n3_eqn, n3_neq, n3_and, n3_or, n3_shl, n3_i, n3_cl, ↓hbd_0, ↓hbd_1, ↓hbd_2, hk_ob_0, hk_rd_0, hk_rd_1, hk_rd_2, hk_al_0, hk_al_1, h3r_0, h3r_1, hk_wi_0, hk_wj_0, h3w_0, h3w_1, h3v_0, hk_kI, hk_kJ, hk_kA, hk_kB, A_eq, A_ne, A_row, B_eq, B_ne, B_row, I_eq, I_ne, J_eq, J_ne, Option.bind_some, Option.some.injEq, if_true, if_false, eq_self, true_or, or_true, true_and, and_true, false_or, or_false, not_true_eq_false, not_false_eq_true, Classical.not_not, nar_b0, nar_b1, rz_0, rz_1, rz_i, ite01, Nat.add_zero, Nat.zero_add, Nat.one_mul, mul12, reduceIte, ra_z0, Nat.reduceEqDiff, Nat.reduceLT, Nat.reduceLeDiff, Nat.reduceAdd, Nat.reduceMul, Nat.reduceSub, Nat.reduceDiv, Nat.reduceMod, Bool.false_eq_true, false_and, and_false, reduceCtorEq, z]
    · simp (maxSteps := 400000) (disch := omega) only [n3_l, n3_add, n3_mul, n3_sub, n3_subn, n3_lt, n3_le, n3_eq, n3_eqn, n3_neq, n3_and, n3_or, n3_shl, n3_i, n3_cl, ↓hbd_0, ↓hbd_1, ↓hbd_2, hk_ob_0, hk_rd_0, hk_rd_1, hk_rd_2, hk_al_0, hk_al_1, h3r_0, h3r_1, hk_wi_0, hk_wj_0, h3w_0, h3w_1, h3v_0, hk_kI, hk_kJ, hk_kA, hk_kB, A_eq, A_ne, A_row, B_eq, B_ne, B_row, I_eq, I_ne, J_eq, J_ne, Option.bind_some, Option.some.injEq, if_true, if_false, eq_self, true_or, or_true, true_and, and_true, false_or, or_false, not_true_eq_false, not_false_eq_true, Classical.not_not, nar_b0, nar_b1, rz_0, rz_1, rz_i, ite01, Nat.add_zero, Nat.zero_add, Nat.one_mul, mul12, reduceIte, ra_z0, Nat.reduceEqDiff, Nat.reduceLT, Nat.reduceLeDiff, Nat.reduceAdd, Nat.reduceMul, Nat.reduceSub, Nat.reduceDiv, Nat.reduceMod, Bool.false_eq_true, false_and, and_false, reduceCtorEq, z, n3_div]
theorem r_ours {n nT u t b : Nat} {T : Nat → tauT} {o : Int32} (h : rH κ n nT u T) (ht : t < nT) (hb : b < n) (hN : 100000 < N) (ho : o = -n3 1 ∨ vIn 0 (n - 1) o = true) :
    ∃ κ', fX12_ours N 69 (n3 t) (n3 b) o (hp κ) = some (if o = -n3 1 then n3 (oursN (T t 3 (fx (hk_A κ 71) b))) else n3 (oursA (oursN (T t 3 (fx (hk_A κ 71) b))) (oursN (T t 3 (fx (hk_A κ 71) o.toInt.toNat)))), hp κ') ∧ same [82, 83] [(69, 0), (69, 27), (69, 30), (69, 33)] κ κ' := by
  obtain ⟨h1, h2, h3, h4, h5, h6, h7, h8⟩ := h
  obtain ⟨hr, hτ⟩ := h5 t ht
  have hvt : vIn 0 (nT - 1) (n3 t) = true := by rw [vIn_iff, n3_toInt (by omega)]; omega
  have hvb : vIn 0 (n - 1) (n3 b) = true := by rw [vIn_iff, n3_toInt (by omega)]; omega
  have w71 : hk_A (hk_wI κ 69 0 (n3 0)) 71 = hk_A κ 71 := rfl
  obtain ⟨k1, e1, s1⟩ := r_oursOf N (hk_wI κ 69 0 (n3 0)) (t := t) (b := b) (τ := T t) (by omega) (by omega) hN hr hτ (h6 b hb)
  rw [w71] at e1
  have l1 := oursN_le (T t 3 (fx (hk_A κ 71) b))
  have s0 : same [82, 83] [(69, 0), (69, 27), (69, 30), (69, 33)] κ (hk_wI κ 69 0 (n3 0)) := (same.refl _ _ κ).wI (by decide)
  have s1' := s0.trans (s1.weak (by decide) (by decide))
  unfold fX12_ours nX12_ours_0
  simp (maxSteps := 400000) (disch := omega) only [n3_l, n3_add, n3_mul, n3_sub, n3_subn, n3_lt, n3_le, n3_eq, n3_eqn, n3_neq, n3_and, n3_or, n3_shl, n3_i, n3_cl, ↓hbd_0, ↓hbd_1, ↓hbd_2, hk_ob_0, hk_rd_0, hk_rd_1, hk_rd_2, hk_al_0, hk_al_1, h3r_0, h3r_1, hk_wi_0, hk_wj_0, h3w_0, h3w_1, h3v_0, hk_kI, hk_kJ, hk_kA, hk_kB, A_eq, A_ne, A_row, B_eq, B_ne, B_row, I_eq, I_ne, J_eq, J_ne, Option.bind_some, Option.some.injEq, if_true, if_false, eq_self, true_or, or_true, true_and, and_true, false_or, or_false, not_true_eq_false, not_false_eq_true, Classical.not_not, nar_b0, nar_b1, rz_0, rz_1, rz_i, ite01, Nat.add_zero, Nat.zero_add, Nat.one_mul, mul12, reduceIte, ra_z0, Nat.reduceEqDiff, Nat.reduceLT, Nat.reduceLeDiff, Nat.reduceAdd, Nat.reduceMul, Nat.reduceSub, Nat.reduceDiv, Nat.reduceMod, Bool.false_eq_true, false_and, and_false, reduceCtorEq, r_isText N (hk_wI κ 69 0 (n3 0)) (n := nT) h3 (by omega), hvt, r_isBook N (hk_wI κ 69 0 (n3 0)) (n := n) h1 h2, hvb]
  rcases ho with ho | ho
  · subst ho
    refine ⟨k1, ?_, s1'⟩
    simp (maxSteps := 400000) (disch := omega) only [n3_l, n3_add, n3_mul, n3_sub, n3_subn, n3_lt, n3_le, n3_eq, n3_eqn, n3_neq, n3_and, n3_or, n3_shl, n3_i, n3_cl, ↓hbd_0, ↓hbd_1, ↓hbd_2, hk_ob_0, hk_rd_0, hk_rd_1, hk_rd_2, hk_al_0, hk_al_1, h3r_0, h3r_1, hk_wi_0, hk_wj_0, h3w_0, h3w_1, h3v_0, hk_kI, hk_kJ, hk_kA, hk_kB, A_eq, A_ne, A_row, B_eq, B_ne, B_row, I_eq, I_ne, J_eq, J_ne, Option.bind_some, Option.some.injEq, if_true, if_false, eq_self, true_or, or_true, true_and, and_true, false_or, or_false, not_true_eq_false, not_false_eq_true, Classical.not_not, nar_b0, nar_b1, rz_0, rz_1, rz_i, ite01, Nat.add_zero, Nat.zero_add, Nat.one_mul, mul12, reduceIte, ra_z0, Nat.reduceEqDiff, Nat.reduceLT, Nat.reduceLeDiff, Nat.reduceAdd, Nat.reduceMul, Nat.reduceSub, Nat.reduceDiv, Nat.reduceMod, Bool.false_eq_true, false_and, and_false, reduceCtorEq, nX12_ours_36, e1]
  · obtain ⟨c, hcn, rfl⟩ := n3_ex (x := o) (n := n) (vIn_iff.mp ho).1 (by have := (vIn_iff.mp ho).2; omega)
    have hne : ¬ n3 c = -n3 1 := fun z => (n3_eqn (by omega) (by omega) (by omega)).mp z
    have e2' : hk_A k1 71 = hk_A κ 71 := by rw [s1.1 71 (by decide)]; rfl
    obtain ⟨k2, e2, s2⟩ := r_oursOf N k1 (t := t) (b := c) (τ := T t) (by omega) (by omega) hN (by rw [e2']; exact hr) hτ (by rw [e2']; exact h6 c hcn)
    rw [e2'] at e2
    have l2 := oursN_le (T t 3 (fx (hk_A κ 71) c))
    refine ⟨k2, ?_, s1'.trans (s2.weak (by decide) (by decide))⟩
    simp (maxSteps := 400000) (disch := omega) only [n3_l, n3_add, n3_mul, n3_sub, n3_subn, n3_lt, n3_le, n3_eq, n3_eqn, n3_neq, n3_and, n3_or, n3_shl, n3_i, n3_cl, ↓hbd_0, ↓hbd_1, ↓hbd_2, hk_ob_0, hk_rd_0, hk_rd_1, hk_rd_2, hk_al_0, hk_al_1, h3r_0, h3r_1, hk_wi_0, hk_wj_0, h3w_0, h3w_1, h3v_0, hk_kI, hk_kJ, hk_kA, hk_kB, A_eq, A_ne, A_row, B_eq, B_ne, B_row, I_eq, I_ne, J_eq, J_ne, Option.bind_some, Option.some.injEq, if_true, if_false, eq_self, true_or, or_true, true_and, and_true, false_or, or_false, not_true_eq_false, not_false_eq_true, Classical.not_not, nar_b0, nar_b1, rz_0, rz_1, rz_i, ite01, Nat.add_zero, Nat.zero_add, Nat.one_mul, mul12, reduceIte, ra_z0, Nat.reduceEqDiff, Nat.reduceLT, Nat.reduceLeDiff, Nat.reduceAdd, Nat.reduceMul, Nat.reduceSub, Nat.reduceDiv, Nat.reduceMod, Bool.false_eq_true, false_and, and_false, reduceCtorEq, hne, ho, nX12_ours_36, nX12_ours_80, e1, e2, n3_toInt, Int.toNat_natCast, oursA]
    by_cases z : oursN (T t 3 (fx (hk_A κ 71) b)) + oursN (T t 3 (fx (hk_A κ 71) c)) = 0
    · simp (maxSteps := 400000) (disch := omega) only [n3_l, n3_add, n3_mul, n3_sub, n3_subn, n3_lt, n3_le, n3_eq, n3_eqn, n3_neq, n3_and, n3_or, n3_shl, n3_i, n3_cl, ↓hbd_0, ↓hbd_1, ↓hbd_2, hk_ob_0, hk_rd_0, hk_rd_1, hk_rd_2, hk_al_0, hk_al_1, h3r_0, h3r_1, hk_wi_0, hk_wj_0, h3w_0, h3w_1, h3v_0, hk_kI, hk_kJ, hk_kA, hk_kB, A_eq, A_ne, A_row, B_eq, B_ne, B_row, I_eq, I_ne, J_eq, J_ne, Option.bind_some, Option.some.injEq, if_true, if_false, eq_self, true_or, or_true, true_and, and_true, false_or, or_false, not_true_eq_false, not_false_eq_true, Classical.not_not, nar_b0, nar_b1, rz_0, rz_1, rz_i, ite01, Nat.add_zero, Nat.zero_add, Nat.one_mul, mul12, reduceIte, ra_z0, Nat.reduceEqDiff, Nat.reduceLT, Nat.reduceLeDiff, Nat.reduceAdd, Nat.reduceMul, Nat.reduceSub, Nat.reduceDiv, Nat.reduceMod, Bool.false_eq_true, false_and, and_false, reduceCtorEq, z]
    · simp (maxSteps := 400000) (disch := omega) only [n3_l, n3_add, n3_mul, n3_sub, n3_subn, n3_lt, n3_le, n3_eq, n3_eqn, n3_neq, n3_and, n3_or, n3_shl, n3_i, n3_cl, ↓hbd_0, ↓hbd_1, ↓hbd_2, hk_ob_0, hk_rd_0, hk_rd_1, hk_rd_2, hk_al_0, hk_al_1, h3r_0, h3r_1, hk_wi_0, hk_wj_0, h3w_0, h3w_1, h3v_0, hk_kI, hk_kJ, hk_kA, hk_kB, A_eq, A_ne, A_row, B_eq, B_ne, B_row, I_eq, I_ne, J_eq, J_ne, Option.bind_some, Option.some.injEq, if_true, if_false, eq_self, true_or, or_true, true_and, and_true, false_or, or_false, not_true_eq_false, not_false_eq_true, Classical.not_not, nar_b0, nar_b1, rz_0, rz_1, rz_i, ite01, Nat.add_zero, Nat.zero_add, Nat.one_mul, mul12, reduceIte, ra_z0, Nat.reduceEqDiff, Nat.reduceLT, Nat.reduceLeDiff, Nat.reduceAdd, Nat.reduceMul, Nat.reduceSub, Nat.reduceDiv, Nat.reduceMod, Bool.false_eq_true, false_and, and_false, reduceCtorEq, z, n3_div, Nat.mul_comm 100]
theorem c_untrue {n nT t : Nat} {T : Nat → tauT} {w i : Int32} (h : cH κ n nT T) (ht : t < nT) (hw : vIn 0 1 w = true) (hN : 100000 < N) :
    ∃ κ', fX11_untrue N 0 (n3 t) w i (hp κ) = some (pick w (fo (stI i (fun b => ¬ T t 4 (fx (hk_A κ 2) b) = none) n3) 0 n (n3 0, -n3 1)), hp κ') ∧ same [22] [] κ κ' := by
  obtain ⟨h1, h2, h3, h4, h5, h6, h7, h8⟩ := h
  obtain ⟨q, hq, hc, hτ⟩ := h5 t ht
  have hs := c_hasScheme N κ (n3 t) h3 h4 (fun t ht => by obtain ⟨q, a, -⟩ := h5 t ht; exact ⟨q, a⟩)
  have hvt : vIn 0 (nT - 1) (n3 t) = true := by rw [vIn_iff, n3_toInt (by omega)]; omega
  have hw' := vIn_iff.mp hw
  have m2 : (-2000000000 : Int32) = -n3 2000000000 := rfl
  have w01 : w = n3 0 ∨ w = n3 1 := by
    by_cases c : w.toInt = 0
    · left; rw [i_eq, n3_toInt (by omega)]; omega
    · right; rw [i_eq, n3_toInt (by omega)]; omega
  unfold fX11_untrue nX11_untrue_0 nX11_untrue_20
  simp (maxSteps := 400000) (disch := omega) only [n3_l, n3_add, n3_mul, n3_sub, n3_subn, n3_lt, n3_le, n3_eq, n3_eqn, n3_neq, n3_and, n3_or, n3_shl, n3_i, n3_cl, ↓hbd_0, ↓hbd_1, ↓hbd_2, hk_ob_0, hk_rd_0, hk_rd_1, hk_rd_2, hk_al_0, hk_al_1, h3r_0, h3r_1, hk_wi_0, hk_wj_0, h3w_0, h3w_1, h3v_0, hk_kI, hk_kJ, hk_kA, hk_kB, A_eq, A_ne, A_row, B_eq, B_ne, B_row, I_eq, I_ne, J_eq, J_ne, Option.bind_some, Option.some.injEq, if_true, if_false, eq_self, true_or, or_true, true_and, and_true, false_or, or_false, not_true_eq_false, not_false_eq_true, Classical.not_not, nar_b0, nar_b1, rz_0, rz_1, rz_i, ite01, Nat.add_zero, Nat.zero_add, Nat.one_mul, mul12, reduceIte, ra_z0, Nat.reduceEqDiff, Nat.reduceLT, Nat.reduceLeDiff, Nat.reduceAdd, Nat.reduceMul, Nat.reduceSub, Nat.reduceDiv, Nat.reduceMod, Bool.false_eq_true, false_and, and_false, reduceCtorEq, hs, hvt, lt3, le3]
  rw [if_neg (by omega), if_pos (by omega)]
  simp (maxSteps := 400000) (disch := omega) only [n3_l, n3_add, n3_mul, n3_sub, n3_subn, n3_lt, n3_le, n3_eq, n3_eqn, n3_neq, n3_and, n3_or, n3_shl, n3_i, n3_cl, ↓hbd_0, ↓hbd_1, ↓hbd_2, hk_ob_0, hk_rd_0, hk_rd_1, hk_rd_2, hk_al_0, hk_al_1, h3r_0, h3r_1, hk_wi_0, hk_wj_0, h3w_0, h3w_1, h3v_0, hk_kI, hk_kJ, hk_kA, hk_kB, A_eq, A_ne, A_row, B_eq, B_ne, B_row, I_eq, I_ne, J_eq, J_ne, Option.bind_some, Option.some.injEq, if_true, if_false, eq_self, true_or, or_true, true_and, and_true, false_or, or_false, not_true_eq_false, not_false_eq_true, Classical.not_not, nar_b0, nar_b1, rz_0, rz_1, rz_i, ite01, Nat.add_zero, Nat.zero_add, Nat.one_mul, mul12, reduceIte, ra_z0, Nat.reduceEqDiff, Nat.reduceLT, Nat.reduceLeDiff, Nat.reduceAdd, Nat.reduceMul, Nat.reduceSub, Nat.reduceDiv, Nat.reduceMod, Bool.false_eq_true, false_and, and_false, reduceCtorEq, hq]
  -- told of a book
  have told : ∀ (r : hk_T) (b : Nat), b < n → same [22] [] κ r → ∃ r', fX0_told N 21 q (n3 4) 2 (n3 (12 * b)) (hp r) = some (tellI (T t 4 (fx (hk_A κ 2) b)), hp r') ∧ same [22] [] κ r' := by
    intro r b hb hs'
    obtain ⟨cc, ch, cb, q1, q2, q3, q4, -, con⟩ := hc
    have e2 : hk_A r 2 = hk_A κ 2 := hs'.1 2 (by decide)
    have eD : hk_D r = hk_D κ := hs'.2.2.2.2.2.1
    obtain ⟨k1, e1, s1⟩ := con N r b 4 hN (by omega) (by omega) (by rw [e2]; exact h6 b hb) (by rw [eD]) (by rw [eD]) (by rw [eD]) (by rw [eD])
    rw [e2] at e1
    exact ⟨k1, e1, hs'.trans s1⟩
  -- the class stops at the i-th
  have key : ∀ d b k m r, b + d = n → d < m → k + d < 100000 → same [22] [] κ r → ∃ r', nX11_untrue_39 N m 0 w i q (n3 k) (n3 b) (hp r) = some (if w = n3 1 ∧ (fo (stI i (fun b => ¬ T t 4 (fx (hk_A κ 2) b) = none) n3) b d (n3 k, -n3 1)).2 ≠ -n3 1 then (fo (stI i (fun b => ¬ T t 4 (fx (hk_A κ 2) b) = none) n3) b d (n3 k, -n3 1)).2 else if w = n3 0 then (fo (stI i (fun b => ¬ T t 4 (fx (hk_A κ 2) b) = none) n3) b d (n3 k, -n3 1)).1 else -n3 1, hp r') ∧ same [22] [] κ r' := by
    intro d
    induction d with
    | zero =>
      intro b k m r hb hm hk hr
      obtain ⟨m, rfl⟩ : ∃ j, m = j + 1 := ⟨m - 1, by omega⟩
      have : b = n := by omega
      subst this
      refine ⟨r, ?_, hr⟩
      rw [nX11_untrue_39]
      simp (maxSteps := 400000) (disch := omega) only [n3_l, n3_add, n3_mul, n3_sub, n3_subn, n3_lt, n3_le, n3_eq, n3_eqn, n3_neq, n3_and, n3_or, n3_shl, n3_i, n3_cl, ↓hbd_0, ↓hbd_1, ↓hbd_2, hk_ob_0, hk_rd_0, hk_rd_1, hk_rd_2, hk_al_0, hk_al_1, h3r_0, h3r_1, hk_wi_0, hk_wj_0, h3w_0, h3w_1, h3v_0, hk_kI, hk_kJ, hk_kA, hk_kB, A_eq, A_ne, A_row, B_eq, B_ne, B_row, I_eq, I_ne, J_eq, J_ne, Option.bind_some, Option.some.injEq, if_true, if_false, eq_self, true_or, or_true, true_and, and_true, false_or, or_false, not_true_eq_false, not_false_eq_true, Classical.not_not, nar_b0, nar_b1, rz_0, rz_1, rz_i, ite01, Nat.add_zero, Nat.zero_add, Nat.one_mul, mul12, reduceIte, ra_z0, Nat.reduceEqDiff, Nat.reduceLT, Nat.reduceLeDiff, Nat.reduceAdd, Nat.reduceMul, Nat.reduceSub, Nat.reduceDiv, Nat.reduceMod, Bool.false_eq_true, false_and, and_false, reduceCtorEq, hr.2.2.1 1 13 (by decide), h1, Nat.lt_irrefl, nX11_untrue_112]
      show _ = some (if w = n3 1 ∧ -n3 1 ≠ -n3 1 then _ else _, _)
      simp only [ne_eq, not_true_eq_false, and_false, if_false]
      split <;> rfl
    | succ d ih =>
      intro b k m r hb hm hk hr
      obtain ⟨m, rfl⟩ : ∃ j, m = j + 1 := ⟨m - 1, by omega⟩
      obtain ⟨r1, e1, s1⟩ := told r b (by omega) hr
      have hbn : b < n := by omega
      have eF : fo (stI i (fun b => ¬ T t 4 (fx (hk_A κ 2) b) = none) n3) b (d + 1) (n3 k, -n3 1) = fo (stI i (fun b => ¬ T t 4 (fx (hk_A κ 2) b) = none) n3) (b + 1) d (stI i (fun b => ¬ T t 4 (fx (hk_A κ 2) b) = none) n3 b (n3 k, -n3 1)) := rfl
      rw [eF]
      cases hv : T t 4 (fx (hk_A κ 2) b) with
      | none =>
        have e0 : stI i (fun b => ¬ T t 4 (fx (hk_A κ 2) b) = none) n3 b (n3 k, -n3 1) = (n3 k, -n3 1) := by unfold stI; rw [if_neg (fun z => z hv)]
        rw [e0]
        obtain ⟨r2, e2, s2⟩ := ih (b + 1) k m r1 (by omega) (by omega) (by omega) s1
        refine ⟨r2, ?_, s2⟩
        rw [hv] at e1
        have et : tellI none = -n3 2000000000 := rfl
        rw [nX11_untrue_39]
        simp (maxSteps := 400000) (disch := omega) only [n3_l, n3_add, n3_mul, n3_sub, n3_subn, n3_lt, n3_le, n3_eq, n3_eqn, n3_neq, n3_and, n3_or, n3_shl, n3_i, n3_cl, ↓hbd_0, ↓hbd_1, ↓hbd_2, hk_ob_0, hk_rd_0, hk_rd_1, hk_rd_2, hk_al_0, hk_al_1, h3r_0, h3r_1, hk_wi_0, hk_wj_0, h3w_0, h3w_1, h3v_0, hk_kI, hk_kJ, hk_kA, hk_kB, A_eq, A_ne, A_row, B_eq, B_ne, B_row, I_eq, I_ne, J_eq, J_ne, Option.bind_some, Option.some.injEq, if_true, if_false, eq_self, true_or, or_true, true_and, and_true, false_or, or_false, not_true_eq_false, not_false_eq_true, Classical.not_not, nar_b0, nar_b1, rz_0, rz_1, rz_i, ite01, Nat.add_zero, Nat.zero_add, Nat.one_mul, mul12, reduceIte, ra_z0, Nat.reduceEqDiff, Nat.reduceLT, Nat.reduceLeDiff, Nat.reduceAdd, Nat.reduceMul, Nat.reduceSub, Nat.reduceDiv, Nat.reduceMod, Bool.false_eq_true, false_and, and_false, reduceCtorEq, hr.2.2.1 1 13 (by decide), h1, hbn, e1, et, m2, nX11_untrue_96]
        exact e2
      | some v =>
        obtain ⟨g1, g2⟩ := hτ _ _ v hv
        have et : tellI (some v) = Int32.ofInt v := rfl
        have ne := ofInt_ne g1 g2
        have e0 : stI i (fun b => ¬ T t 4 (fx (hk_A κ 2) b) = none) n3 b (n3 k, -n3 1) = (n3 (k + 1), if n3 k = i then n3 b else -n3 1) := by
          unfold stI; rw [if_pos (show ¬ T t 4 (fx (hk_A κ 2) b) = none by rw [hv]; simp)]; dsimp only; rw [n3_add]
        rw [e0]
        rw [hv] at e1
        by_cases ki : n3 k = i
        · rw [if_pos ki]
          have hk' : i.toInt = k := by rw [← ki, n3_toInt (by omega)]
          obtain ⟨k', a1, a2, a3⟩ := stI_keep (i := i) (P := fun b => ¬ T t 4 (fx (hk_A κ 2) b) = none) (val := n3) d (b + 1) (k + 1) (n3 b) (by omega) (by omega)
          have nb : n3 b ≠ -n3 1 := fun z => (n3_eqn (by omega) (by omega) (by omega)).mp z
          rcases w01 with w0 | w1
          · -- the count alone
            obtain ⟨r2, e2, s2⟩ := ih (b + 1) (k + 1) m r1 (by omega) (by omega) (by omega) s1
            refine ⟨r2, ?_, s2⟩
            have cnt2 : ∀ (d b : Nat) (p x y : Int32), (fo (stI i (fun b => ¬ T t 4 (fx (hk_A κ 2) b) = none) n3) b d (p, x)).1 = (fo (stI i (fun b => ¬ T t 4 (fx (hk_A κ 2) b) = none) n3) b d (p, y)).1 := by
              intro d
              induction d with
              | zero => intro b p x y; rfl
              | succ d ih =>
                intro b p x y
                show (fo (stI i _ n3) (b + 1) d (stI i _ n3 b (p, x))).1 = (fo (stI i _ n3) (b + 1) d (stI i _ n3 b (p, y))).1
                unfold stI
                by_cases hP : ¬ T t 4 (fx (hk_A κ 2) b) = none
                · rw [if_pos hP, if_pos hP]; exact ih _ _ _ _
                · rw [if_neg hP, if_neg hP]; exact ih _ _ _ _
            have w1' : ¬ n3 0 = n3 1 := by decide
            rw [nX11_untrue_39]
            subst w0
            simp (maxSteps := 400000) (disch := omega) only [n3_l, n3_add, n3_mul, n3_sub, n3_subn, n3_lt, n3_le, n3_eq, n3_eqn, n3_neq, n3_and, n3_or, n3_shl, n3_i, n3_cl, ↓hbd_0, ↓hbd_1, ↓hbd_2, hk_ob_0, hk_rd_0, hk_rd_1, hk_rd_2, hk_al_0, hk_al_1, h3r_0, h3r_1, hk_wi_0, hk_wj_0, h3w_0, h3w_1, h3v_0, hk_kI, hk_kJ, hk_kA, hk_kB, A_eq, A_ne, A_row, B_eq, B_ne, B_row, I_eq, I_ne, J_eq, J_ne, Option.bind_some, Option.some.injEq, if_true, if_false, eq_self, true_or, or_true, true_and, and_true, false_or, or_false, not_true_eq_false, not_false_eq_true, Classical.not_not, nar_b0, nar_b1, rz_0, rz_1, rz_i, ite01, Nat.add_zero, Nat.zero_add, Nat.one_mul, mul12, reduceIte, ra_z0, Nat.reduceEqDiff, Nat.reduceLT, Nat.reduceLeDiff, Nat.reduceAdd, Nat.reduceMul, Nat.reduceSub, Nat.reduceDiv, Nat.reduceMod, Bool.false_eq_true, false_and, and_false, reduceCtorEq, hr.2.2.1 1 13 (by decide), h1, hbn, e1, et, ne, m2, nX11_untrue_93, nX11_untrue_96]
            rw [cnt2 d (b + 1) (n3 (k + 1)) (n3 b) (-n3 1)]
            simp (maxSteps := 400000) (disch := omega) only [n3_l, n3_add, n3_mul, n3_sub, n3_subn, n3_lt, n3_le, n3_eq, n3_eqn, n3_neq, n3_and, n3_or, n3_shl, n3_i, n3_cl, ↓hbd_0, ↓hbd_1, ↓hbd_2, hk_ob_0, hk_rd_0, hk_rd_1, hk_rd_2, hk_al_0, hk_al_1, h3r_0, h3r_1, hk_wi_0, hk_wj_0, h3w_0, h3w_1, h3v_0, hk_kI, hk_kJ, hk_kA, hk_kB, A_eq, A_ne, A_row, B_eq, B_ne, B_row, I_eq, I_ne, J_eq, J_ne, Option.bind_some, Option.some.injEq, if_true, if_false, eq_self, true_or, or_true, true_and, and_true, false_or, or_false, not_true_eq_false, not_false_eq_true, Classical.not_not, nar_b0, nar_b1, rz_0, rz_1, rz_i, ite01, Nat.add_zero, Nat.zero_add, Nat.one_mul, mul12, reduceIte, ra_z0, Nat.reduceEqDiff, Nat.reduceLT, Nat.reduceLeDiff, Nat.reduceAdd, Nat.reduceMul, Nat.reduceSub, Nat.reduceDiv, Nat.reduceMod, Bool.false_eq_true, false_and, and_false, reduceCtorEq] at e2
            exact e2
          · subst w1
            refine ⟨r1, ?_, s1⟩
            rw [nX11_untrue_39, a3]
            simp (maxSteps := 400000) (disch := omega) only [n3_l, n3_add, n3_mul, n3_sub, n3_subn, n3_lt, n3_le, n3_eq, n3_eqn, n3_neq, n3_and, n3_or, n3_shl, n3_i, n3_cl, ↓hbd_0, ↓hbd_1, ↓hbd_2, hk_ob_0, hk_rd_0, hk_rd_1, hk_rd_2, hk_al_0, hk_al_1, h3r_0, h3r_1, hk_wi_0, hk_wj_0, h3w_0, h3w_1, h3v_0, hk_kI, hk_kJ, hk_kA, hk_kB, A_eq, A_ne, A_row, B_eq, B_ne, B_row, I_eq, I_ne, J_eq, J_ne, Option.bind_some, Option.some.injEq, if_true, if_false, eq_self, true_or, or_true, true_and, and_true, false_or, or_false, not_true_eq_false, not_false_eq_true, Classical.not_not, nar_b0, nar_b1, rz_0, rz_1, rz_i, ite01, Nat.add_zero, Nat.zero_add, Nat.one_mul, mul12, reduceIte, ra_z0, Nat.reduceEqDiff, Nat.reduceLT, Nat.reduceLeDiff, Nat.reduceAdd, Nat.reduceMul, Nat.reduceSub, Nat.reduceDiv, Nat.reduceMod, Bool.false_eq_true, false_and, and_false, reduceCtorEq, hr.2.2.1 1 13 (by decide), h1, hbn, e1, et, ne, m2, ki, nb, ne_eq]
        · rw [if_neg ki]
          obtain ⟨r2, e2, s2⟩ := ih (b + 1) (k + 1) m r1 (by omega) (by omega) (by omega) s1
          refine ⟨r2, ?_, s2⟩
          rw [nX11_untrue_39]
          rcases w01 with w0 | w1
          · subst w0
            simp (maxSteps := 400000) (disch := omega) only [n3_l, n3_add, n3_mul, n3_sub, n3_subn, n3_lt, n3_le, n3_eq, n3_eqn, n3_neq, n3_and, n3_or, n3_shl, n3_i, n3_cl, ↓hbd_0, ↓hbd_1, ↓hbd_2, hk_ob_0, hk_rd_0, hk_rd_1, hk_rd_2, hk_al_0, hk_al_1, h3r_0, h3r_1, hk_wi_0, hk_wj_0, h3w_0, h3w_1, h3v_0, hk_kI, hk_kJ, hk_kA, hk_kB, A_eq, A_ne, A_row, B_eq, B_ne, B_row, I_eq, I_ne, J_eq, J_ne, Option.bind_some, Option.some.injEq, if_true, if_false, eq_self, true_or, or_true, true_and, and_true, false_or, or_false, not_true_eq_false, not_false_eq_true, Classical.not_not, nar_b0, nar_b1, rz_0, rz_1, rz_i, ite01, Nat.add_zero, Nat.zero_add, Nat.one_mul, mul12, reduceIte, ra_z0, Nat.reduceEqDiff, Nat.reduceLT, Nat.reduceLeDiff, Nat.reduceAdd, Nat.reduceMul, Nat.reduceSub, Nat.reduceDiv, Nat.reduceMod, Bool.false_eq_true, false_and, and_false, reduceCtorEq, hr.2.2.1 1 13 (by decide), h1, hbn, e1, et, ne, m2, nX11_untrue_93, nX11_untrue_96]
            simp (maxSteps := 400000) (disch := omega) only [n3_l, n3_add, n3_mul, n3_sub, n3_subn, n3_lt, n3_le, n3_eq, n3_eqn, n3_neq, n3_and, n3_or, n3_shl, n3_i, n3_cl, ↓hbd_0, ↓hbd_1, ↓hbd_2, hk_ob_0, hk_rd_0, hk_rd_1, hk_rd_2, hk_al_0, hk_al_1, h3r_0, h3r_1, hk_wi_0, hk_wj_0, h3w_0, h3w_1, h3v_0, hk_kI, hk_kJ, hk_kA, hk_kB, A_eq, A_ne, A_row, B_eq, B_ne, B_row, I_eq, I_ne, J_eq, J_ne, Option.bind_some, Option.some.injEq, if_true, if_false, eq_self, true_or, or_true, true_and, and_true, false_or, or_false, not_true_eq_false, not_false_eq_true, Classical.not_not, nar_b0, nar_b1, rz_0, rz_1, rz_i, ite01, Nat.add_zero, Nat.zero_add, Nat.one_mul, mul12, reduceIte, ra_z0, Nat.reduceEqDiff, Nat.reduceLT, Nat.reduceLeDiff, Nat.reduceAdd, Nat.reduceMul, Nat.reduceSub, Nat.reduceDiv, Nat.reduceMod, Bool.false_eq_true, false_and, and_false, reduceCtorEq] at e2
            exact e2
          · subst w1
            simp (maxSteps := 400000) (disch := omega) only [n3_l, n3_add, n3_mul, n3_sub, n3_subn, n3_lt, n3_le, n3_eq, n3_eqn, n3_neq, n3_and, n3_or, n3_shl, n3_i, n3_cl, ↓hbd_0, ↓hbd_1, ↓hbd_2, hk_ob_0, hk_rd_0, hk_rd_1, hk_rd_2, hk_al_0, hk_al_1, h3r_0, h3r_1, hk_wi_0, hk_wj_0, h3w_0, h3w_1, h3v_0, hk_kI, hk_kJ, hk_kA, hk_kB, A_eq, A_ne, A_row, B_eq, B_ne, B_row, I_eq, I_ne, J_eq, J_ne, Option.bind_some, Option.some.injEq, if_true, if_false, eq_self, true_or, or_true, true_and, and_true, false_or, or_false, not_true_eq_false, not_false_eq_true, Classical.not_not, nar_b0, nar_b1, rz_0, rz_1, rz_i, ite01, Nat.add_zero, Nat.zero_add, Nat.one_mul, mul12, reduceIte, ra_z0, Nat.reduceEqDiff, Nat.reduceLT, Nat.reduceLeDiff, Nat.reduceAdd, Nat.reduceMul, Nat.reduceSub, Nat.reduceDiv, Nat.reduceMod, Bool.false_eq_true, false_and, and_false, reduceCtorEq, hr.2.2.1 1 13 (by decide), h1, hbn, e1, et, ne, m2, ki, nX11_untrue_93, nX11_untrue_96]
            simp (maxSteps := 400000) (disch := omega) only [n3_l, n3_add, n3_mul, n3_sub, n3_subn, n3_lt, n3_le, n3_eq, n3_eqn, n3_neq, n3_and, n3_or, n3_shl, n3_i, n3_cl, ↓hbd_0, ↓hbd_1, ↓hbd_2, hk_ob_0, hk_rd_0, hk_rd_1, hk_rd_2, hk_al_0, hk_al_1, h3r_0, h3r_1, hk_wi_0, hk_wj_0, h3w_0, h3w_1, h3v_0, hk_kI, hk_kJ, hk_kA, hk_kB, A_eq, A_ne, A_row, B_eq, B_ne, B_row, I_eq, I_ne, J_eq, J_ne, Option.bind_some, Option.some.injEq, if_true, if_false, eq_self, true_or, or_true, true_and, and_true, false_or, or_false, not_true_eq_false, not_false_eq_true, Classical.not_not, nar_b0, nar_b1, rz_0, rz_1, rz_i, ite01, Nat.add_zero, Nat.zero_add, Nat.one_mul, mul12, reduceIte, ra_z0, Nat.reduceEqDiff, Nat.reduceLT, Nat.reduceLeDiff, Nat.reduceAdd, Nat.reduceMul, Nat.reduceSub, Nat.reduceDiv, Nat.reduceMod, Bool.false_eq_true, false_and, and_false, reduceCtorEq] at e2
            exact e2
  obtain ⟨r', e, s⟩ := key n 0 0 N κ (by omega) (by omega) (by omega) (same.refl _ _ _)
  refine ⟨r', ?_, s⟩
  rw [e]
  congr 2
  unfold pick
  rcases w01 with w0 | w1
  · subst w0
    have w1' : ¬ n3 0 = n3 1 := by decide
    rw [if_neg (fun z => w1' z.1), if_pos rfl, if_pos rfl]
  · subst w1
    have w0' : ¬ n3 1 = n3 0 := by decide
    rw [if_neg w0', if_neg w0']
    by_cases c : (fo (stI i (fun b => ¬ T t 4 (fx (hk_A κ 2) b) = none) n3) 0 n (n3 0, -n3 1)).2 = -n3 1
    · rw [if_neg (fun z => z.2 c), c]
    · rw [if_pos ⟨rfl, c⟩]
theorem r_untrue {n nT u t : Nat} {T : Nat → tauT} {w i : Int32} (h : rH κ n nT u T) (ht : t < nT) (hw : vIn 0 1 w = true) (hN : 100000 < N) :
    ∃ κ', fX12_untrue N 69 (n3 t) w i (hp κ) = some (pick w (fo (stI i (fun b => ¬ T t 4 (fx (hk_A κ 71) b) = none) n3) 0 n (n3 0, -n3 1)), hp κ') ∧ same [82, 83] [(69, 0), (69, 27), (69, 30), (69, 33)] κ κ' := by
  obtain ⟨h1, h2, h3, h4, h5, h6, h7, h8⟩ := h
  obtain ⟨hr, hτ⟩ := h5 t ht
  have hvt : vIn 0 (nT - 1) (n3 t) = true := by rw [vIn_iff, n3_toInt (by omega)]; omega
  unfold fX12_untrue nX12_untrue_0
  simp (maxSteps := 400000) (disch := omega) only [n3_l, n3_add, n3_mul, n3_sub, n3_subn, n3_lt, n3_le, n3_eq, n3_eqn, n3_neq, n3_and, n3_or, n3_shl, n3_i, n3_cl, ↓hbd_0, ↓hbd_1, ↓hbd_2, hk_ob_0, hk_rd_0, hk_rd_1, hk_rd_2, hk_al_0, hk_al_1, h3r_0, h3r_1, hk_wi_0, hk_wj_0, h3w_0, h3w_1, h3v_0, hk_kI, hk_kJ, hk_kA, hk_kB, A_eq, A_ne, A_row, B_eq, B_ne, B_row, I_eq, I_ne, J_eq, J_ne, Option.bind_some, Option.some.injEq, if_true, if_false, eq_self, true_or, or_true, true_and, and_true, false_or, or_false, not_true_eq_false, not_false_eq_true, Classical.not_not, nar_b0, nar_b1, rz_0, rz_1, rz_i, ite01, Nat.add_zero, Nat.zero_add, Nat.one_mul, mul12, reduceIte, ra_z0, Nat.reduceEqDiff, Nat.reduceLT, Nat.reduceLeDiff, Nat.reduceAdd, Nat.reduceMul, Nat.reduceSub, Nat.reduceDiv, Nat.reduceMod, Bool.false_eq_true, false_and, and_false, reduceCtorEq, r_isText N (hk_wI κ 69 0 (n3 0)) (n := nT) h3 (by omega), hvt, r_in32, j_l, hw]
  obtain ⟨m', ⟨s', x⟩, e, i1, i2⟩ := lpx (fun m b (s : hk_T × (Int32 × Int32)) => nX12_untrue_34 N m 69 (n3 t) w i s.2.1 s.2.2 (n3 b) (hp s.1)) n (fun b r => same [82, 83] [(69, 0), (69, 27), (69, 30), (69, 33)] κ r.1 ∧ r.2 = fo (stI i (fun b => ¬ T t 4 (fx (hk_A κ 71) b) = none) n3) 0 b (n3 0, -n3 1)) (by
    rintro m b ⟨r, x⟩ hb ⟨i1, i2⟩
    dsimp only at i1 i2 ⊢
    subst i2
    have e71 : hk_A r 71 = hk_A κ 71 := i1.1 71 (by decide)
    obtain ⟨k1, e1, s1, v1, -⟩ := hr N r t b 4 hN (by omega) (by omega) (by omega) (by rw [e71]; exact h6 b hb) (fun _ _ => by rw [e71])
    rw [e71] at v1
    rw [fo_last, Nat.zero_add]
    generalize fo (stI i (fun b => ¬ T t 4 (fx (hk_A κ 71) b) = none) n3) 0 b (n3 0, -n3 1) = y
    refine ⟨(k1, stI i (fun b => ¬ T t 4 (fx (hk_A κ 71) b) = none) n3 b y), ?_, i1.trans (s1.weak (by decide) (by decide)), rfl⟩
    rw [nX12_untrue_34]
    unfold stI
    simp (maxSteps := 400000) (disch := omega) only [n3_l, n3_add, n3_mul, n3_sub, n3_subn, n3_lt, n3_le, n3_eq, n3_eqn, n3_neq, n3_and, n3_or, n3_shl, n3_i, n3_cl, ↓hbd_0, ↓hbd_1, ↓hbd_2, hk_ob_0, hk_rd_0, hk_rd_1, hk_rd_2, hk_al_0, hk_al_1, h3r_0, h3r_1, hk_wi_0, hk_wj_0, h3w_0, h3w_1, h3v_0, hk_kI, hk_kJ, hk_kA, hk_kB, A_eq, A_ne, A_row, B_eq, B_ne, B_row, I_eq, I_ne, J_eq, J_ne, Option.bind_some, Option.some.injEq, if_true, if_false, eq_self, true_or, or_true, true_and, and_true, false_or, or_false, not_true_eq_false, not_false_eq_true, Classical.not_not, nar_b0, nar_b1, rz_0, rz_1, rz_i, ite01, Nat.add_zero, Nat.zero_add, Nat.one_mul, mul12, reduceIte, ra_z0, Nat.reduceEqDiff, Nat.reduceLT, Nat.reduceLeDiff, Nat.reduceAdd, Nat.reduceMul, Nat.reduceSub, Nat.reduceDiv, Nat.reduceMod, Bool.false_eq_true, false_and, and_false, reduceCtorEq, e71, h1, hb, e1, v1, nX12_untrue_75, nX12_untrue_80]
    by_cases hv : T t 4 (fx (hk_A κ 71) b) = none
    · simp (maxSteps := 400000) (disch := omega) only [n3_l, n3_add, n3_mul, n3_sub, n3_subn, n3_lt, n3_le, n3_eq, n3_eqn, n3_neq, n3_and, n3_or, n3_shl, n3_i, n3_cl, ↓hbd_0, ↓hbd_1, ↓hbd_2, hk_ob_0, hk_rd_0, hk_rd_1, hk_rd_2, hk_al_0, hk_al_1, h3r_0, h3r_1, hk_wi_0, hk_wj_0, h3w_0, h3w_1, h3v_0, hk_kI, hk_kJ, hk_kA, hk_kB, A_eq, A_ne, A_row, B_eq, B_ne, B_row, I_eq, I_ne, J_eq, J_ne, Option.bind_some, Option.some.injEq, if_true, if_false, eq_self, true_or, or_true, true_and, and_true, false_or, or_false, not_true_eq_false, not_false_eq_true, Classical.not_not, nar_b0, nar_b1, rz_0, rz_1, rz_i, ite01, Nat.add_zero, Nat.zero_add, Nat.one_mul, mul12, reduceIte, ra_z0, Nat.reduceEqDiff, Nat.reduceLT, Nat.reduceLeDiff, Nat.reduceAdd, Nat.reduceMul, Nat.reduceSub, Nat.reduceDiv, Nat.reduceMod, Bool.false_eq_true, false_and, and_false, reduceCtorEq, hv]
    · simp (maxSteps := 400000) (disch := omega) only [n3_l, n3_add, n3_mul, n3_sub, n3_subn, n3_lt, n3_le, n3_eq, n3_eqn, n3_neq, n3_and, n3_or, n3_shl, n3_i, n3_cl, ↓hbd_0, ↓hbd_1, ↓hbd_2, hk_ob_0, hk_rd_0, hk_rd_1, hk_rd_2, hk_al_0, hk_al_1, h3r_0, h3r_1, hk_wi_0, hk_wj_0, h3w_0, h3w_1, h3v_0, hk_kI, hk_kJ, hk_kA, hk_kB, A_eq, A_ne, A_row, B_eq, B_ne, B_row, I_eq, I_ne, J_eq, J_ne, Option.bind_some, Option.some.injEq, if_true, if_false, eq_self, true_or, or_true, true_and, and_true, false_or, or_false, not_true_eq_false, not_false_eq_true, Classical.not_not, nar_b0, nar_b1, rz_0, rz_1, rz_i, ite01, Nat.add_zero, Nat.zero_add, Nat.one_mul, mul12, reduceIte, ra_z0, Nat.reduceEqDiff, Nat.reduceLT, Nat.reduceLeDiff, Nat.reduceAdd, Nat.reduceMul, Nat.reduceSub, Nat.reduceDiv, Nat.reduceMod, Bool.false_eq_true, false_and, and_false, reduceCtorEq, hv]
      split <;> rfl) n 0 N (hk_wI κ 69 0 (n3 0), (n3 0, -n3 1)) (by omega) (by omega) ⟨(same.refl _ _ κ).wI (by decide), rfl⟩
  dsimp only at i1 i2
  subst i2
  refine ⟨s', ?_, i1⟩
  rw [e, nX12_untrue_34]
  simp (maxSteps := 400000) (disch := omega) only [n3_l, n3_add, n3_mul, n3_sub, n3_subn, n3_lt, n3_le, n3_eq, n3_eqn, n3_neq, n3_and, n3_or, n3_shl, n3_i, n3_cl, ↓hbd_0, ↓hbd_1, ↓hbd_2, hk_ob_0, hk_rd_0, hk_rd_1, hk_rd_2, hk_al_0, hk_al_1, h3r_0, h3r_1, hk_wi_0, hk_wj_0, h3w_0, h3w_1, h3v_0, hk_kI, hk_kJ, hk_kA, hk_kB, A_eq, A_ne, A_row, B_eq, B_ne, B_row, I_eq, I_ne, J_eq, J_ne, Option.bind_some, Option.some.injEq, if_true, if_false, eq_self, true_or, or_true, true_and, and_true, false_or, or_false, not_true_eq_false, not_false_eq_true, Classical.not_not, nar_b0, nar_b1, rz_0, rz_1, rz_i, ite01, Nat.add_zero, Nat.zero_add, Nat.one_mul, mul12, reduceIte, ra_z0, Nat.reduceEqDiff, Nat.reduceLT, Nat.reduceLeDiff, Nat.reduceAdd, Nat.reduceMul, Nat.reduceSub, Nat.reduceDiv, Nat.reduceMod, Bool.false_eq_true, false_and, and_false, reduceCtorEq, i1.1 71 (by decide), h1, Nat.lt_irrefl, nX12_untrue_97, pick]
  split <;> rfl
end
