/-! goOn: the reference, whole -/
section
variable (N : Nat) (κ : hk_T)
theorem r_go114 {B : Nat → Nat} {n j : Nat} (hT : rTape κ B n) (jn : j ≤ n) (q9 : hk_I κ 69 9 = n3 j) (q10 : hk_I κ 69 10 = n3 j) (q12 : hk_J κ 12 = j3 0) (hN : 1000 < N) : ∃ κ', nX12_goOn_114 N 69 69 (n3 (tkK B n j)) (hp κ) = some (hp κ') ∧ same [] [(69, 10), (69, 11)] κ κ' ∧ rTok κ' B n j := by
  obtain ⟨n4, h8, hB⟩ := hT
  have hT : rTape κ B n := ⟨n4, h8, hB⟩
  obtain ⟨κ1, hκ1⟩ : ∃ κ1, κ1 = hk_wI κ 69 11 (n3 (tkK B n j)) := ⟨_, rfl⟩
  have s1 : same [] [(69, 11)] κ κ1 := by rw [hκ1]; exact (same.refl _ _ _).wI (by decide)
  have v11 : hk_I κ1 69 11 = n3 (tkK B n j) := by rw [hκ1, I_eq]
  have v9 : hk_I κ1 69 9 = n3 j := by rw [s1.2.2.1 69 9 (by decide)]; exact q9
  have v10 : hk_I κ1 69 10 = n3 j := by rw [s1.2.2.1 69 10 (by decide)]; exact q10
  have v12 : hk_J κ1 12 = j3 0 := by rw [hκ1]; exact q12
  have hT1 : rTape κ1 B n := hT.same s1 (by decide) (by decide)
  have w : ra_fW (hp κ) 12 69 11 (.int (n3 (tkK B n j))) = some (hp κ1) := by rw [hκ1]; simp (maxSteps := 400000) (disch := omega) only [n3_l, n3_add, n3_mul, n3_sub, n3_subn, n3_lt, n3_le, n3_eq, n3_eqn, n3_neq, n3_and, n3_or, n3_shl, n3_i, n3_cl, ↓hbd_0, ↓hbd_1, ↓hbd_2, hk_ob_0, hk_rd_0, hk_rd_1, hk_rd_2, hk_al_0, hk_al_1, h3r_0, h3r_1, hk_wi_0, hk_wj_0, h3w_0, h3w_1, h3v_0, hk_kI, hk_kJ, hk_kA, hk_kB, A_eq, A_ne, A_row, B_eq, B_ne, B_row, I_eq, I_ne, J_eq, J_ne, Option.bind_some, Option.some.injEq, if_true, if_false, eq_self, true_or, or_true, true_and, and_true, false_or, or_false, not_true_eq_false, not_false_eq_true, Classical.not_not, nar_b0, nar_b1, rz_0, rz_1, rz_i, ite01, Nat.add_zero, Nat.zero_add, Nat.one_mul, mul12, reduceIte, ra_z0, Nat.reduceEqDiff, Nat.reduceLT, Nat.reduceLeDiff, Nat.reduceAdd, Nat.reduceMul, Nat.reduceSub, Nat.reduceDiv, Nat.reduceMod, Bool.false_eq_true, false_and, and_false, reduceCtorEq]
  by_cases c : j < n
  · have cn : ¬ n ≤ j := by omega
    by_cases cl : isL (B j)
    · have kk : tkK B n j = 1 := by unfold tkK; rw [if_neg cn, if_pos cl]
      have ke : tkE B n j = scn (fun i => isL (B i)) n j := by unfold tkE; rw [if_neg cn, if_pos cl]
      have kr : tkR B n j = wrR B j (tkE B n j) := by unfold tkR; rw [if_pos kk]
      rw [kk] at v11 w ⊢
      obtain ⟨κ', e, s2, u1, u2⟩ := r_goW N κ1 hT1 jn v9 v10 v11 v12 hN
      refine ⟨κ', ?_, (s1.weak (by decide) (by decide)).trans (s2.weak (by decide) (by decide)), jn, by rw [s2.2.2.1 69 9 (by decide)]; exact v9, by rw [ke]; exact u1, by rw [s2.2.2.1 69 11 (by decide), kk]; exact v11, by rw [kr, ke]; exact u2⟩
      unfold nX12_goOn_114
      simp (maxSteps := 400000) (disch := omega) only [n3_l, n3_add, n3_mul, n3_sub, n3_subn, n3_lt, n3_le, n3_eq, n3_eqn, n3_neq, n3_and, n3_or, n3_shl, n3_i, n3_cl, ↓hbd_0, ↓hbd_1, ↓hbd_2, hk_ob_0, hk_rd_0, hk_rd_1, hk_rd_2, hk_al_0, hk_al_1, h3r_0, h3r_1, hk_wi_0, hk_wj_0, h3w_0, h3w_1, h3v_0, hk_kI, hk_kJ, hk_kA, hk_kB, A_eq, A_ne, A_row, B_eq, B_ne, B_row, I_eq, I_ne, J_eq, J_ne, Option.bind_some, Option.some.injEq, if_true, if_false, eq_self, true_or, or_true, true_and, and_true, false_or, or_false, not_true_eq_false, not_false_eq_true, Classical.not_not, nar_b0, nar_b1, rz_0, rz_1, rz_i, ite01, Nat.add_zero, Nat.zero_add, Nat.one_mul, mul12, reduceIte, ra_z0, Nat.reduceEqDiff, Nat.reduceLT, Nat.reduceLeDiff, Nat.reduceAdd, Nat.reduceMul, Nat.reduceSub, Nat.reduceDiv, Nat.reduceMod, Bool.false_eq_true, false_and, and_false, reduceCtorEq, w, v11, e]
    · by_cases cd : isD (B j)
      · have kk : tkK B n j = 2 := by unfold tkK; rw [if_neg cn, if_neg cl, if_pos cd]
        have ke : tkE B n j = scn (fun i => isD (B i)) n j := by unfold tkE; rw [if_neg cn, if_neg cl, if_pos cd]
        have kr : tkR B n j = j3 (numR B j (tkE B n j)) := by unfold tkR; rw [if_neg (by omega), if_pos kk]
        rw [kk] at v11 w ⊢
        obtain ⟨κ', e, s2, u1, u2⟩ := r_goD N κ1 hT1 jn v10 v11 v12 hN
        refine ⟨κ', ?_, (s1.weak (by decide) (by decide)).trans (s2.weak (by decide) (by decide)), jn, by rw [s2.2.2.1 69 9 (by decide)]; exact v9, by rw [ke]; exact u1, by rw [s2.2.2.1 69 11 (by decide), kk]; exact v11, by rw [kr, ke]; exact u2⟩
        unfold nX12_goOn_114
        simp (maxSteps := 400000) (disch := omega) only [n3_l, n3_add, n3_mul, n3_sub, n3_subn, n3_lt, n3_le, n3_eq, n3_eqn, n3_neq, n3_and, n3_or, n3_shl, n3_i, n3_cl, ↓hbd_0, ↓hbd_1, ↓hbd_2, hk_ob_0, hk_rd_0, hk_rd_1, hk_rd_2, hk_al_0, hk_al_1, h3r_0, h3r_1, hk_wi_0, hk_wj_0, h3w_0, h3w_1, h3v_0, hk_kI, hk_kJ, hk_kA, hk_kB, A_eq, A_ne, A_row, B_eq, B_ne, B_row, I_eq, I_ne, J_eq, J_ne, Option.bind_some, Option.some.injEq, if_true, if_false, eq_self, true_or, or_true, true_and, and_true, false_or, or_false, not_true_eq_false, not_false_eq_true, Classical.not_not, nar_b0, nar_b1, rz_0, rz_1, rz_i, ite01, Nat.add_zero, Nat.zero_add, Nat.one_mul, mul12, reduceIte, ra_z0, Nat.reduceEqDiff, Nat.reduceLT, Nat.reduceLeDiff, Nat.reduceAdd, Nat.reduceMul, Nat.reduceSub, Nat.reduceDiv, Nat.reduceMod, Bool.false_eq_true, false_and, and_false, reduceCtorEq, w, v11, e]
      · have kk : tkK B n j = 3 := by unfold tkK; rw [if_neg cn, if_neg cl, if_neg cd]
        have ke : tkE B n j = j + 1 := by unfold tkE; rw [if_neg cn, if_neg cl, if_neg cd]
        have kr : tkR B n j = j3 (B j) := by unfold tkR; rw [if_neg (by omega), if_neg (by omega), if_pos kk]
        rw [kk] at v11 w ⊢
        obtain ⟨b1, b2⟩ := hT1.2.2 j c
        obtain ⟨κ2, hκ2⟩ : ∃ κ2, κ2 = hk_wI (hk_wJ κ1 12 (j3 (B j))) 69 10 (n3 (j + 1)) := ⟨_, rfl⟩
        have s2 : same [] [(69, 10)] κ1 κ2 := by rw [hκ2]; exact ((same.refl _ _ _).wJ).wI (by decide)
        have x10 : hk_I κ2 69 10 = n3 (j + 1) := by rw [hκ2, I_eq]
        have x11 : hk_I κ2 69 11 = n3 3 := by rw [s2.2.2.1 69 11 (by decide)]; exact v11
        have x12 : hk_J κ2 12 = j3 (B j) := by rw [hκ2]; exact J_eq
        refine ⟨κ2, ?_, (s1.weak (by decide) (by decide)).trans (s2.weak (by decide) (by decide)), jn, by rw [s2.2.2.1 69 9 (by decide)]; exact v9, by rw [ke]; exact x10, by rw [kk]; exact x11, by rw [kr]; exact x12⟩
        have st : nX12_goOn_149 N N 69 (hp κ2) = some (hp κ2) := by
          obtain ⟨N', hN'⟩ : ∃ N', N = N' + 1 := ⟨N - 1, by omega⟩
          have e : nX12_goOn_149 N N 69 (hp κ2) = nX12_goOn_149 N (N' + 1) 69 (hp κ2) := by rw [← hN']
          have e' : nX12_goOn_243 N N 69 (hp κ2) = nX12_goOn_243 N (N' + 1) 69 (hp κ2) := by rw [← hN']
          rw [e, nX12_goOn_149]
          simp (maxSteps := 400000) (disch := omega) only [n3_l, n3_add, n3_mul, n3_sub, n3_subn, n3_lt, n3_le, n3_eq, n3_eqn, n3_neq, n3_and, n3_or, n3_shl, n3_i, n3_cl, ↓hbd_0, ↓hbd_1, ↓hbd_2, hk_ob_0, hk_rd_0, hk_rd_1, hk_rd_2, hk_al_0, hk_al_1, h3r_0, h3r_1, hk_wi_0, hk_wj_0, h3w_0, h3w_1, h3v_0, hk_kI, hk_kJ, hk_kA, hk_kB, A_eq, A_ne, A_row, B_eq, B_ne, B_row, I_eq, I_ne, J_eq, J_ne, Option.bind_some, Option.some.injEq, if_true, if_false, eq_self, true_or, or_true, true_and, and_true, false_or, or_false, not_true_eq_false, not_false_eq_true, Classical.not_not, nar_b0, nar_b1, rz_0, rz_1, rz_i, ite01, Nat.add_zero, Nat.zero_add, Nat.one_mul, mul12, reduceIte, ra_z0, Nat.reduceEqDiff, Nat.reduceLT, Nat.reduceLeDiff, Nat.reduceAdd, Nat.reduceMul, Nat.reduceSub, Nat.reduceDiv, Nat.reduceMod, Bool.false_eq_true, false_and, and_false, reduceCtorEq, x11]
          rw [e', nX12_goOn_243]
          simp (maxSteps := 400000) (disch := omega) only [n3_l, n3_add, n3_mul, n3_sub, n3_subn, n3_lt, n3_le, n3_eq, n3_eqn, n3_neq, n3_and, n3_or, n3_shl, n3_i, n3_cl, ↓hbd_0, ↓hbd_1, ↓hbd_2, hk_ob_0, hk_rd_0, hk_rd_1, hk_rd_2, hk_al_0, hk_al_1, h3r_0, h3r_1, hk_wi_0, hk_wj_0, h3w_0, h3w_1, h3v_0, hk_kI, hk_kJ, hk_kA, hk_kB, A_eq, A_ne, A_row, B_eq, B_ne, B_row, I_eq, I_ne, J_eq, J_ne, Option.bind_some, Option.some.injEq, if_true, if_false, eq_self, true_or, or_true, true_and, and_true, false_or, or_false, not_true_eq_false, not_false_eq_true, Classical.not_not, nar_b0, nar_b1, rz_0, rz_1, rz_i, ite01, Nat.add_zero, Nat.zero_add, Nat.one_mul, mul12, reduceIte, ra_z0, Nat.reduceEqDiff, Nat.reduceLT, Nat.reduceLeDiff, Nat.reduceAdd, Nat.reduceMul, Nat.reduceSub, Nat.reduceDiv, Nat.reduceMod, Bool.false_eq_true, false_and, and_false, reduceCtorEq, x11, nX12_goOn_335]
        unfold nX12_goOn_114
        rw [hκ2] at st ⊢
        simp (maxSteps := 400000) (disch := omega) only [n3_l, n3_add, n3_mul, n3_sub, n3_subn, n3_lt, n3_le, n3_eq, n3_eqn, n3_neq, n3_and, n3_or, n3_shl, n3_i, n3_cl, j3_l, j3_add, j3_mul, j3_sub, j3_lt, j3_le, j3_eq, j3_n, lg3_le, lg3_lt, lg3_eq, r_in3, ↓hbd_0, ↓hbd_1, ↓hbd_2, hk_ob_0, hk_rd_0, hk_rd_1, hk_rd_2, hk_al_0, hk_al_1, h3r_0, h3r_1, hk_wi_0, hk_wj_0, h3w_0, h3w_1, h3v_0, hk_kI, hk_kJ, hk_kA, hk_kB, A_eq, A_ne, A_row, B_eq, B_ne, B_row, I_eq, I_ne, J_eq, J_ne, Option.bind_some, Option.some.injEq, if_true, if_false, eq_self, true_or, or_true, true_and, and_true, false_or, or_false, not_true_eq_false, not_false_eq_true, Classical.not_not, nar_b0, nar_b1, rz_0, rz_1, rz_i, ite01, Nat.add_zero, Nat.zero_add, Nat.one_mul, mul12, reduceIte, ra_z0, Nat.reduceEqDiff, Nat.reduceLT, Nat.reduceLeDiff, Nat.reduceAdd, Nat.reduceMul, Nat.reduceSub, Nat.reduceDiv, Nat.reduceMod, Bool.false_eq_true, false_and, and_false, reduceCtorEq, w, v11, v9, b1, v10, st]
  · have cn : n ≤ j := by omega
    have kk : tkK B n j = 0 := by unfold tkK; rw [if_pos cn]
    have ke : tkE B n j = j := by unfold tkE; rw [if_pos cn]
    have kr : tkR B n j = j3 0 := by unfold tkR; rw [if_neg (by omega), if_neg (by omega), if_neg (by omega)]
    rw [kk] at v11 w ⊢
    refine ⟨κ1, ?_, s1.weak (by decide) (by decide), jn, v9, by rw [ke]; exact v10, by rw [kk]; exact v11, by rw [kr]; exact v12⟩
    have st : nX12_goOn_149 N N 69 (hp κ1) = some (hp κ1) := by
      obtain ⟨N', hN'⟩ : ∃ N', N = N' + 1 := ⟨N - 1, by omega⟩
      have e : nX12_goOn_149 N N 69 (hp κ1) = nX12_goOn_149 N (N' + 1) 69 (hp κ1) := by rw [← hN']
      have e' : nX12_goOn_243 N N 69 (hp κ1) = nX12_goOn_243 N (N' + 1) 69 (hp κ1) := by rw [← hN']
      rw [e, nX12_goOn_149]
      simp (maxSteps := 400000) (disch := omega) only [n3_l, n3_add, n3_mul, n3_sub, n3_subn, n3_lt, n3_le, n3_eq, n3_eqn, n3_neq, n3_and, n3_or, n3_shl, n3_i, n3_cl, ↓hbd_0, ↓hbd_1, ↓hbd_2, hk_ob_0, hk_rd_0, hk_rd_1, hk_rd_2, hk_al_0, hk_al_1, h3r_0, h3r_1, hk_wi_0, hk_wj_0, h3w_0, h3w_1, h3v_0, hk_kI, hk_kJ, hk_kA, hk_kB, A_eq, A_ne, A_row, B_eq, B_ne, B_row, I_eq, I_ne, J_eq, J_ne, Option.bind_some, Option.some.injEq, if_true, if_false, eq_self, true_or, or_true, true_and, and_true, false_or, or_false, not_true_eq_false, not_false_eq_true, Classical.not_not, nar_b0, nar_b1, rz_0, rz_1, rz_i, ite01, Nat.add_zero, Nat.zero_add, Nat.one_mul, mul12, reduceIte, ra_z0, Nat.reduceEqDiff, Nat.reduceLT, Nat.reduceLeDiff, Nat.reduceAdd, Nat.reduceMul, Nat.reduceSub, Nat.reduceDiv, Nat.reduceMod, Bool.false_eq_true, false_and, and_false, reduceCtorEq, v11]
      rw [e', nX12_goOn_243]
      simp (maxSteps := 400000) (disch := omega) only [n3_l, n3_add, n3_mul, n3_sub, n3_subn, n3_lt, n3_le, n3_eq, n3_eqn, n3_neq, n3_and, n3_or, n3_shl, n3_i, n3_cl, ↓hbd_0, ↓hbd_1, ↓hbd_2, hk_ob_0, hk_rd_0, hk_rd_1, hk_rd_2, hk_al_0, hk_al_1, h3r_0, h3r_1, hk_wi_0, hk_wj_0, h3w_0, h3w_1, h3v_0, hk_kI, hk_kJ, hk_kA, hk_kB, A_eq, A_ne, A_row, B_eq, B_ne, B_row, I_eq, I_ne, J_eq, J_ne, Option.bind_some, Option.some.injEq, if_true, if_false, eq_self, true_or, or_true, true_and, and_true, false_or, or_false, not_true_eq_false, not_false_eq_true, Classical.not_not, nar_b0, nar_b1, rz_0, rz_1, rz_i, ite01, Nat.add_zero, Nat.zero_add, Nat.one_mul, mul12, reduceIte, ra_z0, Nat.reduceEqDiff, Nat.reduceLT, Nat.reduceLeDiff, Nat.reduceAdd, Nat.reduceMul, Nat.reduceSub, Nat.reduceDiv, Nat.reduceMod, Bool.false_eq_true, false_and, and_false, reduceCtorEq, v11, nX12_goOn_335]
    unfold nX12_goOn_114
    simp (maxSteps := 400000) (disch := omega) only [n3_l, n3_add, n3_mul, n3_sub, n3_subn, n3_lt, n3_le, n3_eq, n3_eqn, n3_neq, n3_and, n3_or, n3_shl, n3_i, n3_cl, ↓hbd_0, ↓hbd_1, ↓hbd_2, hk_ob_0, hk_rd_0, hk_rd_1, hk_rd_2, hk_al_0, hk_al_1, h3r_0, h3r_1, hk_wi_0, hk_wj_0, h3w_0, h3w_1, h3v_0, hk_kI, hk_kJ, hk_kA, hk_kB, A_eq, A_ne, A_row, B_eq, B_ne, B_row, I_eq, I_ne, J_eq, J_ne, Option.bind_some, Option.some.injEq, if_true, if_false, eq_self, true_or, or_true, true_and, and_true, false_or, or_false, not_true_eq_false, not_false_eq_true, Classical.not_not, nar_b0, nar_b1, rz_0, rz_1, rz_i, ite01, Nat.add_zero, Nat.zero_add, Nat.one_mul, mul12, reduceIte, ra_z0, Nat.reduceEqDiff, Nat.reduceLT, Nat.reduceLeDiff, Nat.reduceAdd, Nat.reduceMul, Nat.reduceSub, Nat.reduceDiv, Nat.reduceMod, Bool.false_eq_true, false_and, and_false, reduceCtorEq, w, v11, st]
theorem r_go46 {B : Nat → Nat} {n j : Nat} (hT : rTape κ B n) (jn : j ≤ n) (q9 : hk_I κ 69 9 = n3 j) (hN : 1000 < N) : ∃ κ', nX12_goOn_46 N 69 (hp κ) = some (hp κ') ∧ same [] [(69, 10), (69, 11)] κ κ' ∧ rTok κ' B n j := by
  have a1 : ra_fW (hp κ) 12 69 10 (.int (n3 j)) = some (hp (hk_wI κ 69 10 (n3 j))) := by simp (maxSteps := 400000) (disch := omega) only [n3_l, n3_add, n3_mul, n3_sub, n3_subn, n3_lt, n3_le, n3_eq, n3_eqn, n3_neq, n3_and, n3_or, n3_shl, n3_i, n3_cl, ↓hbd_0, ↓hbd_1, ↓hbd_2, hk_ob_0, hk_rd_0, hk_rd_1, hk_rd_2, hk_al_0, hk_al_1, h3r_0, h3r_1, hk_wi_0, hk_wj_0, h3w_0, h3w_1, h3v_0, hk_kI, hk_kJ, hk_kA, hk_kB, A_eq, A_ne, A_row, B_eq, B_ne, B_row, I_eq, I_ne, J_eq, J_ne, Option.bind_some, Option.some.injEq, if_true, if_false, eq_self, true_or, or_true, true_and, and_true, false_or, or_false, not_true_eq_false, not_false_eq_true, Classical.not_not, nar_b0, nar_b1, rz_0, rz_1, rz_i, ite01, Nat.add_zero, Nat.zero_add, Nat.one_mul, mul12, reduceIte, ra_z0, Nat.reduceEqDiff, Nat.reduceLT, Nat.reduceLeDiff, Nat.reduceAdd, Nat.reduceMul, Nat.reduceSub, Nat.reduceDiv, Nat.reduceMod, Bool.false_eq_true, false_and, and_false, reduceCtorEq]
  obtain ⟨κa, ha⟩ : ∃ κa, κa = hk_wI κ 69 10 (n3 j) := ⟨_, rfl⟩
  rw [← ha] at a1
  have e0 : (0 : Int64) = j3 0 := rfl
  have a2 : ra_fW (hp κa) 12 69 12 (.long (0 : Int64)) = some (hp (hk_wJ κa 12 (j3 0))) := by simp (maxSteps := 400000) (disch := omega) only [n3_l, n3_add, n3_mul, n3_sub, n3_subn, n3_lt, n3_le, n3_eq, n3_eqn, n3_neq, n3_and, n3_or, n3_shl, n3_i, n3_cl, j3_l, j3_add, j3_mul, j3_sub, j3_lt, j3_le, j3_eq, j3_n, lg3_le, lg3_lt, lg3_eq, r_in3, ↓hbd_0, ↓hbd_1, ↓hbd_2, hk_ob_0, hk_rd_0, hk_rd_1, hk_rd_2, hk_al_0, hk_al_1, h3r_0, h3r_1, hk_wi_0, hk_wj_0, h3w_0, h3w_1, h3v_0, hk_kI, hk_kJ, hk_kA, hk_kB, A_eq, A_ne, A_row, B_eq, B_ne, B_row, I_eq, I_ne, J_eq, J_ne, Option.bind_some, Option.some.injEq, if_true, if_false, eq_self, true_or, or_true, true_and, and_true, false_or, or_false, not_true_eq_false, not_false_eq_true, Classical.not_not, nar_b0, nar_b1, rz_0, rz_1, rz_i, ite01, Nat.add_zero, Nat.zero_add, Nat.one_mul, mul12, reduceIte, ra_z0, Nat.reduceEqDiff, Nat.reduceLT, Nat.reduceLeDiff, Nat.reduceAdd, Nat.reduceMul, Nat.reduceSub, Nat.reduceDiv, Nat.reduceMod, Bool.false_eq_true, false_and, and_false, reduceCtorEq, e0]
  obtain ⟨κb, hb⟩ : ∃ κb, κb = hk_wJ κa 12 (j3 0) := ⟨_, rfl⟩
  rw [← hb] at a2
  have sb : same [] [(69, 10)] κ κb := by rw [hb, ha]; exact ((same.refl _ _ _).wI (by decide)).wJ
  have v9 : hk_I κb 69 9 = n3 j := by rw [sb.2.2.1 69 9 (by decide)]; exact q9
  have v10 : hk_I κb 69 10 = n3 j := by rw [hb]; show hk_I κa 69 10 = _; rw [ha, I_eq]
  have v12 : hk_J κb 12 = j3 0 := by rw [hb]; exact J_eq
  have hTb : rTape κb B n := hT.same sb (by decide) (by decide)
  obtain ⟨κ', e, s, t⟩ := r_go114 N κb hTb jn v9 v10 v12 hN
  refine ⟨κ', ?_, (sb.weak (by decide) (by decide)).trans s, t⟩
  obtain ⟨n4, h8, hB⟩ := hTb
  have a0 : ra_fI (hp κ) 12 69 9 = some (n3 j) := by simp (maxSteps := 400000) (disch := omega) only [n3_l, n3_add, n3_mul, n3_sub, n3_subn, n3_lt, n3_le, n3_eq, n3_eqn, n3_neq, n3_and, n3_or, n3_shl, n3_i, n3_cl, ↓hbd_0, ↓hbd_1, ↓hbd_2, hk_ob_0, hk_rd_0, hk_rd_1, hk_rd_2, hk_al_0, hk_al_1, h3r_0, h3r_1, hk_wi_0, hk_wj_0, h3w_0, h3w_1, h3v_0, hk_kI, hk_kJ, hk_kA, hk_kB, A_eq, A_ne, A_row, B_eq, B_ne, B_row, I_eq, I_ne, J_eq, J_ne, Option.bind_some, Option.some.injEq, if_true, if_false, eq_self, true_or, or_true, true_and, and_true, false_or, or_false, not_true_eq_false, not_false_eq_true, Classical.not_not, nar_b0, nar_b1, rz_0, rz_1, rz_i, ite01, Nat.add_zero, Nat.zero_add, Nat.one_mul, mul12, reduceIte, ra_z0, Nat.reduceEqDiff, Nat.reduceLT, Nat.reduceLeDiff, Nat.reduceAdd, Nat.reduceMul, Nat.reduceSub, Nat.reduceDiv, Nat.reduceMod, Bool.false_eq_true, false_and, and_false, reduceCtorEq, q9]
  unfold nX12_goOn_46
  simp only [a0, Option.bind_some, a1, a2]
  by_cases c : j < n
  · obtain ⟨b1, b2⟩ := hB j c
    have cn : ¬ n ≤ j := by omega
    have ne : ¬ j = n := by omega
    have il := r_isSmall N (h := hp κb) b2
    have id := r_isDigit N (h := hp κb) b2
    by_cases cl : isL (B j)
    · have kk : tkK B n j = 1 := by unfold tkK; rw [if_neg cn, if_pos cl]
      rw [kk] at e
      rw [if_pos cl] at il
      simp (maxSteps := 400000) (disch := omega) only [n3_l, n3_add, n3_mul, n3_sub, n3_subn, n3_lt, n3_le, n3_eq, n3_eqn, n3_neq, n3_and, n3_or, n3_shl, n3_i, n3_cl, ↓hbd_0, ↓hbd_1, ↓hbd_2, hk_ob_0, hk_rd_0, hk_rd_1, hk_rd_2, hk_al_0, hk_al_1, h3r_0, h3r_1, hk_wi_0, hk_wj_0, h3w_0, h3w_1, h3v_0, hk_kI, hk_kJ, hk_kA, hk_kB, A_eq, A_ne, A_row, B_eq, B_ne, B_row, I_eq, I_ne, J_eq, J_ne, Option.bind_some, Option.some.injEq, if_true, if_false, eq_self, true_or, or_true, true_and, and_true, false_or, or_false, not_true_eq_false, not_false_eq_true, Classical.not_not, nar_b0, nar_b1, rz_0, rz_1, rz_i, ite01, Nat.add_zero, Nat.zero_add, Nat.one_mul, mul12, reduceIte, ra_z0, Nat.reduceEqDiff, Nat.reduceLT, Nat.reduceLeDiff, Nat.reduceAdd, Nat.reduceMul, Nat.reduceSub, Nat.reduceDiv, Nat.reduceMod, Bool.false_eq_true, false_and, and_false, reduceCtorEq, v9, h8, ne, b1, il, e]
    · rw [if_neg cl] at il
      by_cases cd : isD (B j)
      · have kk : tkK B n j = 2 := by unfold tkK; rw [if_neg cn, if_neg cl, if_pos cd]
        rw [kk] at e
        rw [if_pos cd] at id
        simp (maxSteps := 400000) (disch := omega) only [n3_l, n3_add, n3_mul, n3_sub, n3_subn, n3_lt, n3_le, n3_eq, n3_eqn, n3_neq, n3_and, n3_or, n3_shl, n3_i, n3_cl, ↓hbd_0, ↓hbd_1, ↓hbd_2, hk_ob_0, hk_rd_0, hk_rd_1, hk_rd_2, hk_al_0, hk_al_1, h3r_0, h3r_1, hk_wi_0, hk_wj_0, h3w_0, h3w_1, h3v_0, hk_kI, hk_kJ, hk_kA, hk_kB, A_eq, A_ne, A_row, B_eq, B_ne, B_row, I_eq, I_ne, J_eq, J_ne, Option.bind_some, Option.some.injEq, if_true, if_false, eq_self, true_or, or_true, true_and, and_true, false_or, or_false, not_true_eq_false, not_false_eq_true, Classical.not_not, nar_b0, nar_b1, rz_0, rz_1, rz_i, ite01, Nat.add_zero, Nat.zero_add, Nat.one_mul, mul12, reduceIte, ra_z0, Nat.reduceEqDiff, Nat.reduceLT, Nat.reduceLeDiff, Nat.reduceAdd, Nat.reduceMul, Nat.reduceSub, Nat.reduceDiv, Nat.reduceMod, Bool.false_eq_true, false_and, and_false, reduceCtorEq, v9, h8, ne, b1, il, id, e]
      · have kk : tkK B n j = 3 := by unfold tkK; rw [if_neg cn, if_neg cl, if_neg cd]
        rw [kk] at e
        rw [if_neg cd] at id
        simp (maxSteps := 400000) (disch := omega) only [n3_l, n3_add, n3_mul, n3_sub, n3_subn, n3_lt, n3_le, n3_eq, n3_eqn, n3_neq, n3_and, n3_or, n3_shl, n3_i, n3_cl, ↓hbd_0, ↓hbd_1, ↓hbd_2, hk_ob_0, hk_rd_0, hk_rd_1, hk_rd_2, hk_al_0, hk_al_1, h3r_0, h3r_1, hk_wi_0, hk_wj_0, h3w_0, h3w_1, h3v_0, hk_kI, hk_kJ, hk_kA, hk_kB, A_eq, A_ne, A_row, B_eq, B_ne, B_row, I_eq, I_ne, J_eq, J_ne, Option.bind_some, Option.some.injEq, if_true, if_false, eq_self, true_or, or_true, true_and, and_true, false_or, or_false, not_true_eq_false, not_false_eq_true, Classical.not_not, nar_b0, nar_b1, rz_0, rz_1, rz_i, ite01, Nat.add_zero, Nat.zero_add, Nat.one_mul, mul12, reduceIte, ra_z0, Nat.reduceEqDiff, Nat.reduceLT, Nat.reduceLeDiff, Nat.reduceAdd, Nat.reduceMul, Nat.reduceSub, Nat.reduceDiv, Nat.reduceMod, Bool.false_eq_true, false_and, and_false, reduceCtorEq, v9, h8, ne, b1, il, id, e]
  · have je : j = n := by omega
    have kk : tkK B n j = 0 := by unfold tkK; rw [if_pos (by omega)]
    rw [kk] at e
    rw [← je] at h8
    simp (maxSteps := 400000) (disch := omega) only [n3_l, n3_add, n3_mul, n3_sub, n3_subn, n3_lt, n3_le, n3_eq, n3_eqn, n3_neq, n3_and, n3_or, n3_shl, n3_i, n3_cl, ↓hbd_0, ↓hbd_1, ↓hbd_2, hk_ob_0, hk_rd_0, hk_rd_1, hk_rd_2, hk_al_0, hk_al_1, h3r_0, h3r_1, hk_wi_0, hk_wj_0, h3w_0, h3w_1, h3v_0, hk_kI, hk_kJ, hk_kA, hk_kB, A_eq, A_ne, A_row, B_eq, B_ne, B_row, I_eq, I_ne, J_eq, J_ne, Option.bind_some, Option.some.injEq, if_true, if_false, eq_self, true_or, or_true, true_and, and_true, false_or, or_false, not_true_eq_false, not_false_eq_true, Classical.not_not, nar_b0, nar_b1, rz_0, rz_1, rz_i, ite01, Nat.add_zero, Nat.zero_add, Nat.one_mul, mul12, reduceIte, ra_z0, Nat.reduceEqDiff, Nat.reduceLT, Nat.reduceLeDiff, Nat.reduceAdd, Nat.reduceMul, Nat.reduceSub, Nat.reduceDiv, Nat.reduceMod, Bool.false_eq_true, false_and, and_false, reduceCtorEq, v9, h8, e]
theorem r_goOn {B : Nat → Nat} {n p : Nat} (hT : rTape κ B n) (hp' : p ≤ n) (h10 : hk_I κ 69 10 = n3 p) (hN : 1000 < N) : ∃ κ', fX12_goOn N 69 (hp κ) = some (hp κ') ∧ same [] [(69, 9), (69, 10), (69, 11)] κ κ' ∧ rTok κ' B n (tkS B n p) := by
  have hT' := hT
  obtain ⟨n4, h8, hB⟩ := hT
  obtain ⟨κ1, e1, i1, i2⟩ := lpw (fun m _ (s : hk_T) => nX12_goOn_8 N m 69 (hp s)) n (fun i => B i = 32) (fun _ s => nX12_goOn_46 N 69 (hp s)) (fun j s => same [] [(69, 9)] κ s ∧ hk_I s 69 9 = n3 j) (by
    rintro m j s hj hq ⟨i1, i2⟩
    have r1 : hk_I s 69 8 = n3 n := by rw [i1.2.2.1 69 8 (by decide)]; exact h8
    have rb : hk_A s 74 j = n3 (B j) := by rw [i1.1 74 (by decide)]; exact (hB j hj).1
    rw [hq] at rb
    refine ⟨hk_wI s 69 9 (n3 (j + 1)), ?_, i1.wI (by decide), I_eq⟩
    show nX12_goOn_8 N (m + 1) 69 (hp s) = _
    rw [nX12_goOn_8]
    simp (maxSteps := 400000) (disch := omega) only [n3_l, n3_add, n3_mul, n3_sub, n3_subn, n3_lt, n3_le, n3_eq, n3_eqn, n3_neq, n3_and, n3_or, n3_shl, n3_i, n3_cl, ↓hbd_0, ↓hbd_1, ↓hbd_2, hk_ob_0, hk_rd_0, hk_rd_1, hk_rd_2, hk_al_0, hk_al_1, h3r_0, h3r_1, hk_wi_0, hk_wj_0, h3w_0, h3w_1, h3v_0, hk_kI, hk_kJ, hk_kA, hk_kB, A_eq, A_ne, A_row, B_eq, B_ne, B_row, I_eq, I_ne, J_eq, J_ne, Option.bind_some, Option.some.injEq, if_true, if_false, eq_self, true_or, or_true, true_and, and_true, false_or, or_false, not_true_eq_false, not_false_eq_true, Classical.not_not, nar_b0, nar_b1, rz_0, rz_1, rz_i, ite01, Nat.add_zero, Nat.zero_add, Nat.one_mul, mul12, reduceIte, ra_z0, Nat.reduceEqDiff, Nat.reduceLT, Nat.reduceLeDiff, Nat.reduceAdd, Nat.reduceMul, Nat.reduceSub, Nat.reduceDiv, Nat.reduceMod, Bool.false_eq_true, false_and, and_false, reduceCtorEq, i2, r1, hj, rb]) (by
    rintro m j s hj hq ⟨i1, i2⟩
    have r1 : hk_I s 69 8 = n3 n := by rw [i1.2.2.1 69 8 (by decide)]; exact h8
    show nX12_goOn_8 N (m + 1) 69 (hp s) = _
    rw [nX12_goOn_8]
    by_cases c : j < n
    · obtain ⟨b1, b2⟩ := hB j c
      have rb : hk_A s 74 j = n3 (B j) := by rw [i1.1 74 (by decide)]; exact b1
      have c2 : ¬ B j = 32 := fun z => hq ⟨c, z⟩
      simp (maxSteps := 400000) (disch := omega) only [n3_l, n3_add, n3_mul, n3_sub, n3_subn, n3_lt, n3_le, n3_eq, n3_eqn, n3_neq, n3_and, n3_or, n3_shl, n3_i, n3_cl, ↓hbd_0, ↓hbd_1, ↓hbd_2, hk_ob_0, hk_rd_0, hk_rd_1, hk_rd_2, hk_al_0, hk_al_1, h3r_0, h3r_1, hk_wi_0, hk_wj_0, h3w_0, h3w_1, h3v_0, hk_kI, hk_kJ, hk_kA, hk_kB, A_eq, A_ne, A_row, B_eq, B_ne, B_row, I_eq, I_ne, J_eq, J_ne, Option.bind_some, Option.some.injEq, if_true, if_false, eq_self, true_or, or_true, true_and, and_true, false_or, or_false, not_true_eq_false, not_false_eq_true, Classical.not_not, nar_b0, nar_b1, rz_0, rz_1, rz_i, ite01, Nat.add_zero, Nat.zero_add, Nat.one_mul, mul12, reduceIte, ra_z0, Nat.reduceEqDiff, Nat.reduceLT, Nat.reduceLeDiff, Nat.reduceAdd, Nat.reduceMul, Nat.reduceSub, Nat.reduceDiv, Nat.reduceMod, Bool.false_eq_true, false_and, and_false, reduceCtorEq, i2, r1, c, rb, c2]
    · simp (maxSteps := 400000) (disch := omega) only [n3_l, n3_add, n3_mul, n3_sub, n3_subn, n3_lt, n3_le, n3_eq, n3_eqn, n3_neq, n3_and, n3_or, n3_shl, n3_i, n3_cl, ↓hbd_0, ↓hbd_1, ↓hbd_2, hk_ob_0, hk_rd_0, hk_rd_1, hk_rd_2, hk_al_0, hk_al_1, h3r_0, h3r_1, hk_wi_0, hk_wj_0, h3w_0, h3w_1, h3v_0, hk_kI, hk_kJ, hk_kA, hk_kB, A_eq, A_ne, A_row, B_eq, B_ne, B_row, I_eq, I_ne, J_eq, J_ne, Option.bind_some, Option.some.injEq, if_true, if_false, eq_self, true_or, or_true, true_and, and_true, false_or, or_false, not_true_eq_false, not_false_eq_true, Classical.not_not, nar_b0, nar_b1, rz_0, rz_1, rz_i, ite01, Nat.add_zero, Nat.zero_add, Nat.one_mul, mul12, reduceIte, ra_z0, Nat.reduceEqDiff, Nat.reduceLT, Nat.reduceLeDiff, Nat.reduceAdd, Nat.reduceMul, Nat.reduceSub, Nat.reduceDiv, Nat.reduceMod, Bool.false_eq_true, false_and, and_false, reduceCtorEq, i2, r1, c]) (n - p) p N (hk_wI κ 69 9 (n3 p)) (by omega) (by omega) ⟨(same.refl _ _ _).wI (by decide), I_eq⟩
  have e0 : nX12_goOn_8 N N 69 (hp (hk_wI κ 69 9 (n3 p))) = nX12_goOn_46 N 69 (hp κ1) := e1
  have i2' : hk_I κ1 69 9 = n3 (tkS B n p) := i2
  obtain ⟨κ', f1, f2, f3⟩ := r_go46 N κ1 (hT'.same i1 (by decide) (by decide)) (tkS_le hp').2 i2' hN
  refine ⟨κ', ?_, (i1.weak (by decide) (by decide)).trans (f2.weak (by decide) (by decide)), f3⟩
  unfold fX12_goOn nX12_goOn_0
  simp (maxSteps := 400000) (disch := omega) only [n3_l, n3_add, n3_mul, n3_sub, n3_subn, n3_lt, n3_le, n3_eq, n3_eqn, n3_neq, n3_and, n3_or, n3_shl, n3_i, n3_cl, ↓hbd_0, ↓hbd_1, ↓hbd_2, hk_ob_0, hk_rd_0, hk_rd_1, hk_rd_2, hk_al_0, hk_al_1, h3r_0, h3r_1, hk_wi_0, hk_wj_0, h3w_0, h3w_1, h3v_0, hk_kI, hk_kJ, hk_kA, hk_kB, A_eq, A_ne, A_row, B_eq, B_ne, B_row, I_eq, I_ne, J_eq, J_ne, Option.bind_some, Option.some.injEq, if_true, if_false, eq_self, true_or, or_true, true_and, and_true, false_or, or_false, not_true_eq_false, not_false_eq_true, Classical.not_not, nar_b0, nar_b1, rz_0, rz_1, rz_i, ite01, Nat.add_zero, Nat.zero_add, Nat.one_mul, mul12, reduceIte, ra_z0, Nat.reduceEqDiff, Nat.reduceLT, Nat.reduceLeDiff, Nat.reduceAdd, Nat.reduceMul, Nat.reduceSub, Nat.reduceDiv, Nat.reduceMod, Bool.false_eq_true, false_and, and_false, reduceCtorEq, h10]
  rw [e0, f1]
end
