/-! more questions without a trace -/
section
variable (N : Nat) {L c : Nat} {xs : Nat → Int32} {κ : hk_T}
theorem c_grew_x {y z s : Int32} (hx' : hk_x κ = ra_ex0 L xs) (h : ¬ (vIn 0 199 y = true ∧ vIn 1 200 z = true ∧ (s = -n3 1 ∨ vIn 0 7 s = true))) : fX11_grew N 0 y z s (hp κ) = some (-n3 1, hp κ) := by
  by_cases h1 : vIn 0 199 y = true
  · by_cases h2 : vIn 1 200 z = true
    · have h3 : ¬ s = -n3 1 := fun q => h ⟨h1, h2, Or.inl q⟩
      have h4 : ¬ vIn 0 7 s = true := fun q => h ⟨h1, h2, Or.inr q⟩
      rw [vIn_iff] at h2
      simp (maxSteps := 400000) (disch := omega) only [n3_l, n3_add, n3_mul, n3_sub, n3_subn, n3_lt, n3_le, n3_eq, n3_eqn, n3_neq, n3_and, n3_or, n3_shl, n3_i, n3_cl, ↓hbd_0, ↓hbd_1, ↓hbd_2, hk_ob_0, hk_rd_0, hk_rd_1, hk_rd_2, hk_al_0, hk_al_1, h3r_0, h3r_1, hk_wi_0, hk_wj_0, h3w_0, h3w_1, h3v_0, hk_kI, hk_kJ, hk_kA, hk_kB, A_eq, A_ne, A_row, B_eq, B_ne, B_row, I_eq, I_ne, J_eq, J_ne, Option.bind_some, Option.some.injEq, if_true, if_false, eq_self, true_or, or_true, true_and, and_true, false_or, or_false, not_true_eq_false, not_false_eq_true, Classical.not_not, nar_b0, nar_b1, rz_0, rz_1, rz_i, ite01, Nat.add_zero, Nat.zero_add, Nat.one_mul, mul12, reduceIte, ra_z0, Nat.reduceEqDiff, Nat.reduceLT, Nat.reduceLeDiff, Nat.reduceAdd, Nat.reduceMul, Nat.reduceSub, Nat.reduceDiv, Nat.reduceMod, Bool.false_eq_true, false_and, and_false, reduceCtorEq, fX11_grew, nX11_grew_34, nX11_grew_115, nX11_grew_91, nX11_grew_86, nX11_grew_36, nX11_grew_0, c_fitn hx', h1, lt3, le3, h3, h4]
      (repeat' split) <;> first | rfl | (exfalso; omega)
    · rw [vIn_iff] at h2
      simp (maxSteps := 400000) (disch := omega) only [n3_l, n3_add, n3_mul, n3_sub, n3_subn, n3_lt, n3_le, n3_eq, n3_eqn, n3_neq, n3_and, n3_or, n3_shl, n3_i, n3_cl, ↓hbd_0, ↓hbd_1, ↓hbd_2, hk_ob_0, hk_rd_0, hk_rd_1, hk_rd_2, hk_al_0, hk_al_1, h3r_0, h3r_1, hk_wi_0, hk_wj_0, h3w_0, h3w_1, h3v_0, hk_kI, hk_kJ, hk_kA, hk_kB, A_eq, A_ne, A_row, B_eq, B_ne, B_row, I_eq, I_ne, J_eq, J_ne, Option.bind_some, Option.some.injEq, if_true, if_false, eq_self, true_or, or_true, true_and, and_true, false_or, or_false, not_true_eq_false, not_false_eq_true, Classical.not_not, nar_b0, nar_b1, rz_0, rz_1, rz_i, ite01, Nat.add_zero, Nat.zero_add, Nat.one_mul, mul12, reduceIte, ra_z0, Nat.reduceEqDiff, Nat.reduceLT, Nat.reduceLeDiff, Nat.reduceAdd, Nat.reduceMul, Nat.reduceSub, Nat.reduceDiv, Nat.reduceMod, Bool.false_eq_true, false_and, and_false, reduceCtorEq, fX11_grew, nX11_grew_34, nX11_grew_115, nX11_grew_91, nX11_grew_86, nX11_grew_36, nX11_grew_0, c_fitn hx', h1, lt3, le3]
      (repeat' split) <;> first | rfl | (exfalso; omega)
  · simp (maxSteps := 400000) (disch := omega) only [n3_l, n3_add, n3_mul, n3_sub, n3_subn, n3_lt, n3_le, n3_eq, n3_eqn, n3_neq, n3_and, n3_or, n3_shl, n3_i, n3_cl, ↓hbd_0, ↓hbd_1, ↓hbd_2, hk_ob_0, hk_rd_0, hk_rd_1, hk_rd_2, hk_al_0, hk_al_1, h3r_0, h3r_1, hk_wi_0, hk_wj_0, h3w_0, h3w_1, h3v_0, hk_kI, hk_kJ, hk_kA, hk_kB, A_eq, A_ne, A_row, B_eq, B_ne, B_row, I_eq, I_ne, J_eq, J_ne, Option.bind_some, Option.some.injEq, if_true, if_false, eq_self, true_or, or_true, true_and, and_true, false_or, or_false, not_true_eq_false, not_false_eq_true, Classical.not_not, nar_b0, nar_b1, rz_0, rz_1, rz_i, ite01, Nat.add_zero, Nat.zero_add, Nat.one_mul, mul12, reduceIte, ra_z0, Nat.reduceEqDiff, Nat.reduceLT, Nat.reduceLeDiff, Nat.reduceAdd, Nat.reduceMul, Nat.reduceSub, Nat.reduceDiv, Nat.reduceMod, Bool.false_eq_true, false_and, and_false, reduceCtorEq, fX11_grew, nX11_grew_34, nX11_grew_115, nX11_grew_91, nX11_grew_86, nX11_grew_36, nX11_grew_0, c_fitn hx', h1]
theorem r_grew_x {y z s : Int32} (h : ¬ (vIn 0 199 y = true ∧ vIn 1 200 z = true ∧ vIn (-1) 7 s = true)) : fX12_grew N 69 y z s (hp κ) = some (-n3 1, hp (hk_wI κ 69 0 (n3 0))) := by
  by_cases h1 : vIn 0 199 y = true
  · by_cases h2 : vIn 1 200 z = true
    · have h3 : ¬ vIn (-1) 7 s = true := fun q => h ⟨h1, h2, q⟩
      simp (maxSteps := 400000) (disch := omega) only [n3_l, n3_add, n3_mul, n3_sub, n3_subn, n3_lt, n3_le, n3_eq, n3_eqn, n3_neq, n3_and, n3_or, n3_shl, n3_i, n3_cl, ↓hbd_0, ↓hbd_1, ↓hbd_2, hk_ob_0, hk_rd_0, hk_rd_1, hk_rd_2, hk_al_0, hk_al_1, h3r_0, h3r_1, hk_wi_0, hk_wj_0, h3w_0, h3w_1, h3v_0, hk_kI, hk_kJ, hk_kA, hk_kB, A_eq, A_ne, A_row, B_eq, B_ne, B_row, I_eq, I_ne, J_eq, J_ne, Option.bind_some, Option.some.injEq, if_true, if_false, eq_self, true_or, or_true, true_and, and_true, false_or, or_false, not_true_eq_false, not_false_eq_true, Classical.not_not, nar_b0, nar_b1, rz_0, rz_1, rz_i, ite01, Nat.add_zero, Nat.zero_add, Nat.one_mul, mul12, reduceIte, ra_z0, Nat.reduceEqDiff, Nat.reduceLT, Nat.reduceLeDiff, Nat.reduceAdd, Nat.reduceMul, Nat.reduceSub, Nat.reduceDiv, Nat.reduceMod, Bool.false_eq_true, false_and, and_false, reduceCtorEq, fX12_grew, nX12_grew_43, nX12_grew_120, nX12_grew_115, nX12_grew_119, nX12_grew_0, r_in32, j_l, h1, h2, h3]
    · simp (maxSteps := 400000) (disch := omega) only [n3_l, n3_add, n3_mul, n3_sub, n3_subn, n3_lt, n3_le, n3_eq, n3_eqn, n3_neq, n3_and, n3_or, n3_shl, n3_i, n3_cl, ↓hbd_0, ↓hbd_1, ↓hbd_2, hk_ob_0, hk_rd_0, hk_rd_1, hk_rd_2, hk_al_0, hk_al_1, h3r_0, h3r_1, hk_wi_0, hk_wj_0, h3w_0, h3w_1, h3v_0, hk_kI, hk_kJ, hk_kA, hk_kB, A_eq, A_ne, A_row, B_eq, B_ne, B_row, I_eq, I_ne, J_eq, J_ne, Option.bind_some, Option.some.injEq, if_true, if_false, eq_self, true_or, or_true, true_and, and_true, false_or, or_false, not_true_eq_false, not_false_eq_true, Classical.not_not, nar_b0, nar_b1, rz_0, rz_1, rz_i, ite01, Nat.add_zero, Nat.zero_add, Nat.one_mul, mul12, reduceIte, ra_z0, Nat.reduceEqDiff, Nat.reduceLT, Nat.reduceLeDiff, Nat.reduceAdd, Nat.reduceMul, Nat.reduceSub, Nat.reduceDiv, Nat.reduceMod, Bool.false_eq_true, false_and, and_false, reduceCtorEq, fX12_grew, nX12_grew_43, nX12_grew_120, nX12_grew_115, nX12_grew_119, nX12_grew_0, r_in32, j_l, h1, h2]
  · simp (maxSteps := 400000) (disch := omega) only [n3_l, n3_add, n3_mul, n3_sub, n3_subn, n3_lt, n3_le, n3_eq, n3_eqn, n3_neq, n3_and, n3_or, n3_shl, n3_i, n3_cl, ↓hbd_0, ↓hbd_1, ↓hbd_2, hk_ob_0, hk_rd_0, hk_rd_1, hk_rd_2, hk_al_0, hk_al_1, h3r_0, h3r_1, hk_wi_0, hk_wj_0, h3w_0, h3w_1, h3v_0, hk_kI, hk_kJ, hk_kA, hk_kB, A_eq, A_ne, A_row, B_eq, B_ne, B_row, I_eq, I_ne, J_eq, J_ne, Option.bind_some, Option.some.injEq, if_true, if_false, eq_self, true_or, or_true, true_and, and_true, false_or, or_false, not_true_eq_false, not_false_eq_true, Classical.not_not, nar_b0, nar_b1, rz_0, rz_1, rz_i, ite01, Nat.add_zero, Nat.zero_add, Nat.one_mul, mul12, reduceIte, ra_z0, Nat.reduceEqDiff, Nat.reduceLT, Nat.reduceLeDiff, Nat.reduceAdd, Nat.reduceMul, Nat.reduceSub, Nat.reduceDiv, Nat.reduceMod, Bool.false_eq_true, false_and, and_false, reduceCtorEq, fX12_grew, nX12_grew_43, nX12_grew_120, nX12_grew_115, nX12_grew_119, nX12_grew_0, r_in32, j_l, h1]
theorem vIn_sub {s : Int32} : vIn (-1) 7 s = true ↔ s = -n3 1 ∨ vIn 0 7 s = true := by
  rw [vIn_iff, vIn_iff, i_eq]
  have e : (-n3 1).toInt = -1 := by decide
  omega
theorem k_grew (h : Inv L xs c κ) (hN : 1000 < N) (y z s : Int32) : callOk L xs c κ (fX11_grew N 0 y z s) (fX12_grew N 69 y z s) := by
  have e := h
  obtain ⟨n, nT, nL, nS, T, h1, h2, h3, h4, h5, h8, h9, h10, h11, h12⟩ := e
  have hF : hrF (hk_A κ 2) (hk_A κ 71) n := h3.2.2.1
  by_cases v : vIn 0 199 y = true ∧ vIn 1 200 z = true ∧ vIn (-1) 7 s = true
  · obtain ⟨v1, v2, v3⟩ := v
    obtain ⟨y, y1, y2, rfl⟩ := vK (lo := 0) (hi := 199) v1
    obtain ⟨z, z1, z2, rfl⟩ := vK (lo := 1) (hi := 200) v2
    refine callOk.ask h (c_grew N κ h1 h3.1.1.1 h3.1.1.2.1 y2 z1 z2 (vIn_sub.mp v3) hN) (r_grew N κ h3.1.1.2.2 h3.1.1.2.1 y2 z1 z2 v3 hN) ?_
    congr 1
    exact cnt_congr n (fun b hb => by rw [hF.1 (12 * b + 10) (by omega), hF.1 (12 * b + 2) (by omega)])
  · exact callOk.ask h (c_grew_x N h1 (fun q => v ⟨q.1, q.2.1, vIn_sub.mpr q.2.2⟩)) (r_grew_x N v) rfl
theorem k_bound (h : Inv L xs c κ) (b : Int32) : callOk L xs c κ (fX11_bound N 0 b) (fX12_bound N 69 b) := by
  have e := h
  obtain ⟨n, nT, nL, nS, T, h1, h2, h3, h4, h5, h8, h9, h10, h11, h12⟩ := e
  have hF : hrF (hk_A κ 2) (hk_A κ 71) n := h3.2.2.1
  have hB : hrB (hk_A κ 9) (hk_A κ 10) (hk_A κ 71) := h3.2.2.2.2.2.2.2
  have n40 := h3.1.1.2.1
  have cb := c_hasBook N κ h3.1.1.1 n40 b
  have rb := r_isBook N (hk_wI κ 69 0 (n3 0)) (n := n) h3.1.1.2.2 n40 b
  by_cases v : vIn 0 (n - 1) b = true
  · obtain ⟨k, kn, rfl⟩ := vB v
    rw [if_pos v] at cb rb
    obtain ⟨s, s1, s2, s3⟩ := vK (lo := 0) (hi := 9) (hF.2.2 k kn).2.2.2.2.2.2.1
    have hs := h_sideOfYears N κ (b := k) (s := s) (by omega) s3 (by omega)
    have m7 : hk_A κ 71 (12 * k + 7) = n3 s := by rw [hF.1 _ (by omega)]; exact s3
    have hr := r_boundOf N (hk_wI κ 69 0 (n3 0)) (b := k) (s := s) (by omega) m7 (by omega)
    have m2 : hk_A κ 71 (12 * k + 2) = hk_A κ 2 (12 * k + 2) := hF.1 _ (by omega)
    obtain ⟨b1, b2⟩ := hB s (by omega)
    refine callOk.ask h (v := if hk_A κ 2 (12 * k + 2) < hk_A κ 9 s then -n3 1 else if hk_A κ 2 (12 * k + 2) ≤ hk_A κ 10 s then n3 0 else n3 1) (v' := if hk_A κ 71 (12 * k + 2) < hk_A κ 71 (735 + 2 * s) then -n3 1 else if hk_A κ 71 (12 * k + 2) ≤ hk_A κ 71 (735 + 2 * s + 1) then n3 0 else n3 1) ?_ ?_ (by rw [m2, b1, b2])
    · simp (maxSteps := 400000) (disch := omega) only [n3_l, n3_add, n3_mul, n3_sub, n3_subn, n3_lt, n3_le, n3_eq, n3_eqn, n3_neq, n3_and, n3_or, n3_shl, n3_i, n3_cl, ↓hbd_0, ↓hbd_1, ↓hbd_2, hk_ob_0, hk_rd_0, hk_rd_1, hk_rd_2, hk_al_0, hk_al_1, h3r_0, h3r_1, hk_wi_0, hk_wj_0, h3w_0, h3w_1, h3v_0, hk_kI, hk_kJ, hk_kA, hk_kB, A_eq, A_ne, A_row, B_eq, B_ne, B_row, I_eq, I_ne, J_eq, J_ne, Option.bind_some, Option.some.injEq, if_true, if_false, eq_self, true_or, or_true, true_and, and_true, false_or, or_false, not_true_eq_false, not_false_eq_true, Classical.not_not, nar_b0, nar_b1, rz_0, rz_1, rz_i, ite01, Nat.add_zero, Nat.zero_add, Nat.one_mul, mul12, reduceIte, ra_z0, Nat.reduceEqDiff, Nat.reduceLT, Nat.reduceLeDiff, Nat.reduceAdd, Nat.reduceMul, Nat.reduceSub, Nat.reduceDiv, Nat.reduceMod, Bool.false_eq_true, false_and, and_false, reduceCtorEq, fX11_bound, nX11_bound_25, nX11_bound_0, cb, hs]
    · simp (maxSteps := 400000) (disch := omega) only [n3_l, n3_add, n3_mul, n3_sub, n3_subn, n3_lt, n3_le, n3_eq, n3_eqn, n3_neq, n3_and, n3_or, n3_shl, n3_i, n3_cl, ↓hbd_0, ↓hbd_1, ↓hbd_2, hk_ob_0, hk_rd_0, hk_rd_1, hk_rd_2, hk_al_0, hk_al_1, h3r_0, h3r_1, hk_wi_0, hk_wj_0, h3w_0, h3w_1, h3v_0, hk_kI, hk_kJ, hk_kA, hk_kB, A_eq, A_ne, A_row, B_eq, B_ne, B_row, I_eq, I_ne, J_eq, J_ne, Option.bind_some, Option.some.injEq, if_true, if_false, eq_self, true_or, or_true, true_and, and_true, false_or, or_false, not_true_eq_false, not_false_eq_true, Classical.not_not, nar_b0, nar_b1, rz_0, rz_1, rz_i, ite01, Nat.add_zero, Nat.zero_add, Nat.one_mul, mul12, reduceIte, ra_z0, Nat.reduceEqDiff, Nat.reduceLT, Nat.reduceLeDiff, Nat.reduceAdd, Nat.reduceMul, Nat.reduceSub, Nat.reduceDiv, Nat.reduceMod, Bool.false_eq_true, false_and, and_false, reduceCtorEq, fX12_bound, nX12_bound_24, nX12_bound_0, rb, hr]
  · rw [if_neg v] at cb rb
    refine callOk.ask h (v := -n3 1000) (v' := -n3 1000) ?_ ?_ rfl
    · simp (maxSteps := 400000) (disch := omega) only [n3_l, n3_add, n3_mul, n3_sub, n3_subn, n3_lt, n3_le, n3_eq, n3_eqn, n3_neq, n3_and, n3_or, n3_shl, n3_i, n3_cl, ↓hbd_0, ↓hbd_1, ↓hbd_2, hk_ob_0, hk_rd_0, hk_rd_1, hk_rd_2, hk_al_0, hk_al_1, h3r_0, h3r_1, hk_wi_0, hk_wj_0, h3w_0, h3w_1, h3v_0, hk_kI, hk_kJ, hk_kA, hk_kB, A_eq, A_ne, A_row, B_eq, B_ne, B_row, I_eq, I_ne, J_eq, J_ne, Option.bind_some, Option.some.injEq, if_true, if_false, eq_self, true_or, or_true, true_and, and_true, false_or, or_false, not_true_eq_false, not_false_eq_true, Classical.not_not, nar_b0, nar_b1, rz_0, rz_1, rz_i, ite01, Nat.add_zero, Nat.zero_add, Nat.one_mul, mul12, reduceIte, ra_z0, Nat.reduceEqDiff, Nat.reduceLT, Nat.reduceLeDiff, Nat.reduceAdd, Nat.reduceMul, Nat.reduceSub, Nat.reduceDiv, Nat.reduceMod, Bool.false_eq_true, false_and, and_false, reduceCtorEq, fX11_bound, nX11_bound_25, nX11_bound_0, cb]
    · simp (maxSteps := 400000) (disch := omega) only [n3_l, n3_add, n3_mul, n3_sub, n3_subn, n3_lt, n3_le, n3_eq, n3_eqn, n3_neq, n3_and, n3_or, n3_shl, n3_i, n3_cl, ↓hbd_0, ↓hbd_1, ↓hbd_2, hk_ob_0, hk_rd_0, hk_rd_1, hk_rd_2, hk_al_0, hk_al_1, h3r_0, h3r_1, hk_wi_0, hk_wj_0, h3w_0, h3w_1, h3v_0, hk_kI, hk_kJ, hk_kA, hk_kB, A_eq, A_ne, A_row, B_eq, B_ne, B_row, I_eq, I_ne, J_eq, J_ne, Option.bind_some, Option.some.injEq, if_true, if_false, eq_self, true_or, or_true, true_and, and_true, false_or, or_false, not_true_eq_false, not_false_eq_true, Classical.not_not, nar_b0, nar_b1, rz_0, rz_1, rz_i, ite01, Nat.add_zero, Nat.zero_add, Nat.one_mul, mul12, reduceIte, ra_z0, Nat.reduceEqDiff, Nat.reduceLT, Nat.reduceLeDiff, Nat.reduceAdd, Nat.reduceMul, Nat.reduceSub, Nat.reduceDiv, Nat.reduceMod, Bool.false_eq_true, false_and, and_false, reduceCtorEq, fX12_bound, nX12_bound_24, nX12_bound_0, rb]
theorem ag_eq {F G LI M : Nat → Int32} {n nL l b : Nat} (hF : hrF F M n) (hL : hrL G LI M nL) (hl : l < nL) (hb : b < n) : sp_agree M (rG M) l b = sp_agree F G l b := by
  obtain ⟨a1, a2, a3, a4, a5, a6, -⟩ := hL.1 l hl
  obtain ⟨g1, g2, g3, g4, g5⟩ := rG_at M l
  unfold sp_agree sp_ag3 sp_ag2 sp_ag1 sp_ag0
  rw [g1, g2, g3, g4, g5, a1, a2, a3, a4, a5, hF.1 (12 * b) (by omega), hF.1 (12 * b + 1) (by omega), hF.1 (12 * b + 3) (by omega), hF.1 (12 * b + 9) (by omega), hF.1 (12 * b + 10) (by omega)]
theorem k_agree (h : Inv L xs c κ) (l b : Int32) : callOk L xs c κ (fX11_agree N 0 l b) (fX12_agree N 69 l b) := by
  have e := h
  obtain ⟨n, nT, nL, nS, T, h1, h2, h3, h4, h5, h8, h9, h10, h11, h12⟩ := e
  have hF : hrF (hk_A κ 2) (hk_A κ 71) n := h3.2.2.1
  have hL : hrL (hk_A κ 7) (hk_A κ 8) (hk_A κ 71) nL := h3.2.2.2.2.2.1
  have n40 := h3.1.1.2.1
  have n12 := h3.1.2.2.1.2.1
  have cl := c_hasLine N κ h3.1.2.2.1.1 (by omega) l
  have rl := r_isLine N (hk_wI κ 69 0 (n3 0)) (n := nL) h3.1.2.2.1.2.2 (by omega) l
  have cb := c_hasBook N κ h3.1.1.1 n40 b
  have rb := r_isBook N (hk_wI κ 69 0 (n3 0)) (n := n) h3.1.1.2.2 n40 b
  by_cases v : vIn 0 (nL - 1) l = true
  · rw [if_pos v] at cl rl
    by_cases w : vIn 0 (n - 1) b = true
    · rw [if_pos w] at cb rb
      obtain ⟨l, ll, rfl⟩ := vB v
      obtain ⟨b, bb, rfl⟩ := vB w
      have ha := h_agreement N κ (l := l) (b := b) (by omega) (by omega)
      obtain ⟨a1, a2, a3, a4, a5, a6, a7, a8⟩ := hL.1 l ll
      have ok : vIn 1 30 (hk_A κ 7 (12 * l + 3)) = true := by
        unfold okLine at a7
        exact (decide_eq_true_iff.mp a7).2.2.1
      obtain ⟨p, p1, p2, p3⟩ := vK (lo := 1) (hi := 30) ok
      obtain ⟨q, q1, q2, q3⟩ := vK (lo := 1) (hi := 30) (hF.2.2 b bb).2.2.1
      have hr := r_agreeOf N (hk_wI κ 69 0 (n3 0)) (l := l) (b := b) (p := p) (q := q) (by omega) (by omega) (show hk_A κ 71 (650 + 6 * l + 2) = n3 p by rw [a3]; exact p3) (show hk_A κ 71 (12 * b + 3) = n3 q by rw [hF.1 _ (by omega)]; exact q3) (by omega) (by omega)
      refine callOk.ask h (v := sp_agree (hk_A κ 2) (hk_A κ 7) l b) (v' := sp_agree (hk_A κ 71) (rG (hk_A κ 71)) l b) ?_ ?_ (ag_eq hF hL ll bb).symm
      · simp (maxSteps := 400000) (disch := omega) only [n3_l, n3_add, n3_mul, n3_sub, n3_subn, n3_lt, n3_le, n3_eq, n3_eqn, n3_neq, n3_and, n3_or, n3_shl, n3_i, n3_cl, ↓hbd_0, ↓hbd_1, ↓hbd_2, hk_ob_0, hk_rd_0, hk_rd_1, hk_rd_2, hk_al_0, hk_al_1, h3r_0, h3r_1, hk_wi_0, hk_wj_0, h3w_0, h3w_1, h3v_0, hk_kI, hk_kJ, hk_kA, hk_kB, A_eq, A_ne, A_row, B_eq, B_ne, B_row, I_eq, I_ne, J_eq, J_ne, Option.bind_some, Option.some.injEq, if_true, if_false, eq_self, true_or, or_true, true_and, and_true, false_or, or_false, not_true_eq_false, not_false_eq_true, Classical.not_not, nar_b0, nar_b1, rz_0, rz_1, rz_i, ite01, Nat.add_zero, Nat.zero_add, Nat.one_mul, mul12, reduceIte, ra_z0, Nat.reduceEqDiff, Nat.reduceLT, Nat.reduceLeDiff, Nat.reduceAdd, Nat.reduceMul, Nat.reduceSub, Nat.reduceDiv, Nat.reduceMod, Bool.false_eq_true, false_and, and_false, reduceCtorEq, fX11_agree, nX11_agree_22, nX11_agree_0, cl, cb, ha]
      · simp (maxSteps := 400000) (disch := omega) only [n3_l, n3_add, n3_mul, n3_sub, n3_subn, n3_lt, n3_le, n3_eq, n3_eqn, n3_neq, n3_and, n3_or, n3_shl, n3_i, n3_cl, ↓hbd_0, ↓hbd_1, ↓hbd_2, hk_ob_0, hk_rd_0, hk_rd_1, hk_rd_2, hk_al_0, hk_al_1, h3r_0, h3r_1, hk_wi_0, hk_wj_0, h3w_0, h3w_1, h3v_0, hk_kI, hk_kJ, hk_kA, hk_kB, A_eq, A_ne, A_row, B_eq, B_ne, B_row, I_eq, I_ne, J_eq, J_ne, Option.bind_some, Option.some.injEq, if_true, if_false, eq_self, true_or, or_true, true_and, and_true, false_or, or_false, not_true_eq_false, not_false_eq_true, Classical.not_not, nar_b0, nar_b1, rz_0, rz_1, rz_i, ite01, Nat.add_zero, Nat.zero_add, Nat.one_mul, mul12, reduceIte, ra_z0, Nat.reduceEqDiff, Nat.reduceLT, Nat.reduceLeDiff, Nat.reduceAdd, Nat.reduceMul, Nat.reduceSub, Nat.reduceDiv, Nat.reduceMod, Bool.false_eq_true, false_and, and_false, reduceCtorEq, fX12_agree, nX12_agree_33, nX12_agree_30, nX12_agree_0, rl, rb, hr]
    · rw [if_neg w] at cb rb
      refine callOk.ask h (v := -n3 1000) (v' := -n3 1000) ?_ ?_ rfl
      · simp (maxSteps := 400000) (disch := omega) only [n3_l, n3_add, n3_mul, n3_sub, n3_subn, n3_lt, n3_le, n3_eq, n3_eqn, n3_neq, n3_and, n3_or, n3_shl, n3_i, n3_cl, ↓hbd_0, ↓hbd_1, ↓hbd_2, hk_ob_0, hk_rd_0, hk_rd_1, hk_rd_2, hk_al_0, hk_al_1, h3r_0, h3r_1, hk_wi_0, hk_wj_0, h3w_0, h3w_1, h3v_0, hk_kI, hk_kJ, hk_kA, hk_kB, A_eq, A_ne, A_row, B_eq, B_ne, B_row, I_eq, I_ne, J_eq, J_ne, Option.bind_some, Option.some.injEq, if_true, if_false, eq_self, true_or, or_true, true_and, and_true, false_or, or_false, not_true_eq_false, not_false_eq_true, Classical.not_not, nar_b0, nar_b1, rz_0, rz_1, rz_i, ite01, Nat.add_zero, Nat.zero_add, Nat.one_mul, mul12, reduceIte, ra_z0, Nat.reduceEqDiff, Nat.reduceLT, Nat.reduceLeDiff, Nat.reduceAdd, Nat.reduceMul, Nat.reduceSub, Nat.reduceDiv, Nat.reduceMod, Bool.false_eq_true, false_and, and_false, reduceCtorEq, fX11_agree, nX11_agree_22, nX11_agree_0, cl, cb]
      · simp (maxSteps := 400000) (disch := omega) only [n3_l, n3_add, n3_mul, n3_sub, n3_subn, n3_lt, n3_le, n3_eq, n3_eqn, n3_neq, n3_and, n3_or, n3_shl, n3_i, n3_cl, ↓hbd_0, ↓hbd_1, ↓hbd_2, hk_ob_0, hk_rd_0, hk_rd_1, hk_rd_2, hk_al_0, hk_al_1, h3r_0, h3r_1, hk_wi_0, hk_wj_0, h3w_0, h3w_1, h3v_0, hk_kI, hk_kJ, hk_kA, hk_kB, A_eq, A_ne, A_row, B_eq, B_ne, B_row, I_eq, I_ne, J_eq, J_ne, Option.bind_some, Option.some.injEq, if_true, if_false, eq_self, true_or, or_true, true_and, and_true, false_or, or_false, not_true_eq_false, not_false_eq_true, Classical.not_not, nar_b0, nar_b1, rz_0, rz_1, rz_i, ite01, Nat.add_zero, Nat.zero_add, Nat.one_mul, mul12, reduceIte, ra_z0, Nat.reduceEqDiff, Nat.reduceLT, Nat.reduceLeDiff, Nat.reduceAdd, Nat.reduceMul, Nat.reduceSub, Nat.reduceDiv, Nat.reduceMod, Bool.false_eq_true, false_and, and_false, reduceCtorEq, fX12_agree, nX12_agree_33, nX12_agree_30, nX12_agree_0, rl, rb]
  · rw [if_neg v] at cl rl
    refine callOk.ask h (v := -n3 1000) (v' := -n3 1000) ?_ ?_ rfl
    · simp (maxSteps := 400000) (disch := omega) only [n3_l, n3_add, n3_mul, n3_sub, n3_subn, n3_lt, n3_le, n3_eq, n3_eqn, n3_neq, n3_and, n3_or, n3_shl, n3_i, n3_cl, ↓hbd_0, ↓hbd_1, ↓hbd_2, hk_ob_0, hk_rd_0, hk_rd_1, hk_rd_2, hk_al_0, hk_al_1, h3r_0, h3r_1, hk_wi_0, hk_wj_0, h3w_0, h3w_1, h3v_0, hk_kI, hk_kJ, hk_kA, hk_kB, A_eq, A_ne, A_row, B_eq, B_ne, B_row, I_eq, I_ne, J_eq, J_ne, Option.bind_some, Option.some.injEq, if_true, if_false, eq_self, true_or, or_true, true_and, and_true, false_or, or_false, not_true_eq_false, not_false_eq_true, Classical.not_not, nar_b0, nar_b1, rz_0, rz_1, rz_i, ite01, Nat.add_zero, Nat.zero_add, Nat.one_mul, mul12, reduceIte, ra_z0, Nat.reduceEqDiff, Nat.reduceLT, Nat.reduceLeDiff, Nat.reduceAdd, Nat.reduceMul, Nat.reduceSub, Nat.reduceDiv, Nat.reduceMod, Bool.false_eq_true, false_and, and_false, reduceCtorEq, fX11_agree, nX11_agree_22, nX11_agree_0, cl]
    · simp (maxSteps := 400000) (disch := omega) only [n3_l, n3_add, n3_mul, n3_sub, n3_subn, n3_lt, n3_le, n3_eq, n3_eqn, n3_neq, n3_and, n3_or, n3_shl, n3_i, n3_cl, ↓hbd_0, ↓hbd_1, ↓hbd_2, hk_ob_0, hk_rd_0, hk_rd_1, hk_rd_2, hk_al_0, hk_al_1, h3r_0, h3r_1, hk_wi_0, hk_wj_0, h3w_0, h3w_1, h3v_0, hk_kI, hk_kJ, hk_kA, hk_kB, A_eq, A_ne, A_row, B_eq, B_ne, B_row, I_eq, I_ne, J_eq, J_ne, Option.bind_some, Option.some.injEq, if_true, if_false, eq_self, true_or, or_true, true_and, and_true, false_or, or_false, not_true_eq_false, not_false_eq_true, Classical.not_not, nar_b0, nar_b1, rz_0, rz_1, rz_i, ite01, Nat.add_zero, Nat.zero_add, Nat.one_mul, mul12, reduceIte, ra_z0, Nat.reduceEqDiff, Nat.reduceLT, Nat.reduceLeDiff, Nat.reduceAdd, Nat.reduceMul, Nat.reduceSub, Nat.reduceDiv, Nat.reduceMod, Bool.false_eq_true, false_and, and_false, reduceCtorEq, fX12_agree, nX12_agree_33, nX12_agree_30, nX12_agree_0, rl]
theorem c_wanting_x {l w i : Int32} (h : ¬ (vIn 0 8 l = true ∧ vIn 0 2 w = true)) : fX11_wanting N 0 l w i (hp κ) = some (-n3 1, hp κ) := by
  rw [vIn_iff, vIn_iff] at h
  simp (maxSteps := 400000) (disch := omega) only [n3_l, n3_add, n3_mul, n3_sub, n3_subn, n3_lt, n3_le, n3_eq, n3_eqn, n3_neq, n3_and, n3_or, n3_shl, n3_i, n3_cl, ↓hbd_0, ↓hbd_1, ↓hbd_2, hk_ob_0, hk_rd_0, hk_rd_1, hk_rd_2, hk_al_0, hk_al_1, h3r_0, h3r_1, hk_wi_0, hk_wj_0, h3w_0, h3w_1, h3v_0, hk_kI, hk_kJ, hk_kA, hk_kB, A_eq, A_ne, A_row, B_eq, B_ne, B_row, I_eq, I_ne, J_eq, J_ne, Option.bind_some, Option.some.injEq, if_true, if_false, eq_self, true_or, or_true, true_and, and_true, false_or, or_false, not_true_eq_false, not_false_eq_true, Classical.not_not, nar_b0, nar_b1, rz_0, rz_1, rz_i, ite01, Nat.add_zero, Nat.zero_add, Nat.one_mul, mul12, reduceIte, ra_z0, Nat.reduceEqDiff, Nat.reduceLT, Nat.reduceLeDiff, Nat.reduceAdd, Nat.reduceMul, Nat.reduceSub, Nat.reduceDiv, Nat.reduceMod, Bool.false_eq_true, false_and, and_false, reduceCtorEq, fX11_wanting, nX11_wanting_0, nX11_wanting_19, lt3, le3]
  (repeat' split) <;> first | rfl | (exfalso; omega)
theorem r_wanting_x {l w i : Int32} (h : ¬ (vIn 0 8 l = true ∧ vIn 0 2 w = true)) : fX12_wanting N 69 l w i (hp κ) = some (-n3 1, hp (hk_wI κ 69 0 (n3 0))) := by
  by_cases h1 : vIn 0 8 l = true
  · have h2 : ¬ vIn 0 2 w = true := fun z => h ⟨h1, z⟩
    simp (maxSteps := 400000) (disch := omega) only [n3_l, n3_add, n3_mul, n3_sub, n3_subn, n3_lt, n3_le, n3_eq, n3_eqn, n3_neq, n3_and, n3_or, n3_shl, n3_i, n3_cl, ↓hbd_0, ↓hbd_1, ↓hbd_2, hk_ob_0, hk_rd_0, hk_rd_1, hk_rd_2, hk_al_0, hk_al_1, h3r_0, h3r_1, hk_wi_0, hk_wj_0, h3w_0, h3w_1, h3v_0, hk_kI, hk_kJ, hk_kA, hk_kB, A_eq, A_ne, A_row, B_eq, B_ne, B_row, I_eq, I_ne, J_eq, J_ne, Option.bind_some, Option.some.injEq, if_true, if_false, eq_self, true_or, or_true, true_and, and_true, false_or, or_false, not_true_eq_false, not_false_eq_true, Classical.not_not, nar_b0, nar_b1, rz_0, rz_1, rz_i, ite01, Nat.add_zero, Nat.zero_add, Nat.one_mul, mul12, reduceIte, ra_z0, Nat.reduceEqDiff, Nat.reduceLT, Nat.reduceLeDiff, Nat.reduceAdd, Nat.reduceMul, Nat.reduceSub, Nat.reduceDiv, Nat.reduceMod, Bool.false_eq_true, false_and, and_false, reduceCtorEq, fX12_wanting, nX12_wanting_0, nX12_wanting_29, r_in32, j_l, h1, h2]
  · simp (maxSteps := 400000) (disch := omega) only [n3_l, n3_add, n3_mul, n3_sub, n3_subn, n3_lt, n3_le, n3_eq, n3_eqn, n3_neq, n3_and, n3_or, n3_shl, n3_i, n3_cl, ↓hbd_0, ↓hbd_1, ↓hbd_2, hk_ob_0, hk_rd_0, hk_rd_1, hk_rd_2, hk_al_0, hk_al_1, h3r_0, h3r_1, hk_wi_0, hk_wj_0, h3w_0, h3w_1, h3v_0, hk_kI, hk_kJ, hk_kA, hk_kB, A_eq, A_ne, A_row, B_eq, B_ne, B_row, I_eq, I_ne, J_eq, J_ne, Option.bind_some, Option.some.injEq, if_true, if_false, eq_self, true_or, or_true, true_and, and_true, false_or, or_false, not_true_eq_false, not_false_eq_true, Classical.not_not, nar_b0, nar_b1, rz_0, rz_1, rz_i, ite01, Nat.add_zero, Nat.zero_add, Nat.one_mul, mul12, reduceIte, ra_z0, Nat.reduceEqDiff, Nat.reduceLT, Nat.reduceLeDiff, Nat.reduceAdd, Nat.reduceMul, Nat.reduceSub, Nat.reduceDiv, Nat.reduceMod, Bool.false_eq_true, false_and, and_false, reduceCtorEq, fX12_wanting, nX12_wanting_0, nX12_wanting_29, r_in32, j_l, h1]
theorem k_wanting (h : Inv L xs c κ) (hN : 1000 < N) (l w i : Int32) : callOk L xs c κ (fX11_wanting N 0 l w i) (fX12_wanting N 69 l w i) := by
  have e := h
  obtain ⟨n, nT, nL, nS, T, h1, h2, h3, h4, h5, h8, h9, h10, h11, h12⟩ := e
  have hF : hrF (hk_A κ 2) (hk_A κ 71) n := h3.2.2.1
  by_cases v : vIn 0 8 l = true ∧ vIn 0 2 w = true
  · have l0 := vIn_iff.mp v.1
    have F1 : ∀ b, b < n → hk_A κ 2 (12 * b) = l → ∃ y, hk_A κ 2 (12 * b + 1) = n3 y ∧ 1 ≤ y ∧ y ≤ 99 := by
      intro b hb e
      have m := (hF.2.2 b hb).1
      unfold markV at m
      rcases decide_eq_true_iff.mp m with z | z
      · exfalso
        rw [e] at z
        rw [z.1] at l0
        have : (-n3 1).toInt = -1 := by decide
        omega
      · obtain ⟨y, y1, y2, y3⟩ := vK (lo := 1) (hi := 99) z.2
        exact ⟨y, y3, y1, y2⟩
    obtain ⟨g, g1, g2, g3⟩ := greatest_ex (hk_A κ 2) l n F1
    have gm : sp_greatest (hk_A κ 71) l n = n3 g := by
      rw [← g2]
      unfold sp_greatest
      exact fo_congr _ _ _ (fun b s _ hb => by rw [hF.1 (12 * b) (by omega), hF.1 (12 * b + 1) (by omega)])
    refine callOk.ask h (c_wanting N κ h3.1.1.1 h3.1.1.2.1 hN F1 g2 g1) (r_wanting N κ h3.1.1.2.2 h3.1.1.2.1 hN gm g1) ?_
    rw [if_pos v, if_pos v]
    by_cases w2 : w = n3 2
    · rw [if_pos w2, if_pos w2, books_cnt, books_cnt]
      congr 1
      exact cnt_congr n (fun b hb => by rw [hF.1 (12 * b) (by omega)])
    · rw [if_neg w2, if_neg w2, ← want_last g3]
      congr 1
      refine fo_congr _ _ _ (fun x s _ _ => ?_)
      have iff : (¬ ∃ b, b < n ∧ hk_A κ 2 (12 * b) = l ∧ hk_A κ 2 (12 * b + 1) = n3 x) ↔ (¬ ∃ b, b < n ∧ hk_A κ 71 (12 * b) = l ∧ hk_A κ 71 (12 * b + 1) = n3 x) := by
        constructor
        · rintro z ⟨b, b1, b2, b3⟩
          exact z ⟨b, b1, by rw [← hF.1 (12 * b) (by omega)]; exact b2, by rw [← hF.1 (12 * b + 1) (by omega)]; exact b3⟩
        · rintro z ⟨b, b1, b2, b3⟩
          exact z ⟨b, b1, by rw [hF.1 (12 * b) (by omega)]; exact b2, by rw [hF.1 (12 * b + 1) (by omega)]; exact b3⟩
      unfold stI
      by_cases q : ¬ ∃ b, b < n ∧ hk_A κ 2 (12 * b) = l ∧ hk_A κ 2 (12 * b + 1) = n3 x
      · rw [if_pos q, if_pos (iff.mp q)]
      · rw [if_neg q, if_neg (fun z => q (iff.mpr z))]
  · exact callOk.ask h (c_wanting_x N v) (r_wanting_x N v) rfl
end
