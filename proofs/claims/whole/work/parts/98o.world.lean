/-! scatter, went -/
section
variable (N : Nat) {L c : Nat} {xs : Nat → Int32} {κ : hk_T}
theorem c_scatter_x {s b : Int32} (h : ¬ (vIn 0 1000000 s = true ∧ vIn 0 100 b = true)) : fX11_scatter N 0 s b (hp κ) = some (-n3 1, hp (cRef κ 1)) := by
  rw [vIn_iff, vIn_iff] at h
  simp (maxSteps := 400000) (disch := omega) only [n3_l, n3_add, n3_mul, n3_sub, n3_subn, n3_lt, n3_le, n3_eq, n3_eqn, n3_neq, n3_and, n3_or, n3_shl, n3_i, n3_cl, ↓hbd_0, ↓hbd_1, ↓hbd_2, hk_ob_0, hk_rd_0, hk_rd_1, hk_rd_2, hk_al_0, hk_al_1, h3r_0, h3r_1, hk_wi_0, hk_wj_0, h3w_0, h3w_1, h3v_0, hk_kI, hk_kJ, hk_kA, hk_kB, A_eq, A_ne, A_row, B_eq, B_ne, B_row, I_eq, I_ne, J_eq, J_ne, Option.bind_some, Option.some.injEq, if_true, if_false, eq_self, true_or, or_true, true_and, and_true, false_or, or_false, not_true_eq_false, not_false_eq_true, Classical.not_not, nar_b0, nar_b1, rz_0, rz_1, rz_i, ite01, Nat.add_zero, Nat.zero_add, Nat.one_mul, mul12, reduceIte, ra_z0, Nat.reduceEqDiff, Nat.reduceLT, Nat.reduceLeDiff, Nat.reduceAdd, Nat.reduceMul, Nat.reduceSub, Nat.reduceDiv, Nat.reduceMod, Bool.false_eq_true, false_and, and_false, reduceCtorEq, fX11_scatter, nX11_scatter_0, nX11_scatter_21, lt3, le3, c_ref, cRef]
  (repeat' split) <;> first | rfl | (exfalso; omega)
theorem r_scatter_x {s b : Int32} (h : ¬ (vIn 0 1000000 s = true ∧ vIn 0 100 b = true)) : fX12_scatter N 69 s b (hp κ) = some (-n3 1, hp (rRef κ 1)) := by
  have l6 : (1000000 : Int64).toInt = 1000000 := by decide
  have te := r_telln N (hk_wI κ 69 0 (n3 0)) 1 (by omega) (by omega)
  by_cases h1 : vIn 0 1000000 s = true
  · have h2 : ¬ vIn 0 100 b = true := fun z => h ⟨h1, z⟩
    simp (maxSteps := 400000) (disch := omega) only [n3_l, n3_add, n3_mul, n3_sub, n3_subn, n3_lt, n3_le, n3_eq, n3_eqn, n3_neq, n3_and, n3_or, n3_shl, n3_i, n3_cl, ↓hbd_0, ↓hbd_1, ↓hbd_2, hk_ob_0, hk_rd_0, hk_rd_1, hk_rd_2, hk_al_0, hk_al_1, h3r_0, h3r_1, hk_wi_0, hk_wj_0, h3w_0, h3w_1, h3v_0, hk_kI, hk_kJ, hk_kA, hk_kB, A_eq, A_ne, A_row, B_eq, B_ne, B_row, I_eq, I_ne, J_eq, J_ne, Option.bind_some, Option.some.injEq, if_true, if_false, eq_self, true_or, or_true, true_and, and_true, false_or, or_false, not_true_eq_false, not_false_eq_true, Classical.not_not, nar_b0, nar_b1, rz_0, rz_1, rz_i, ite01, Nat.add_zero, Nat.zero_add, Nat.one_mul, mul12, reduceIte, ra_z0, Nat.reduceEqDiff, Nat.reduceLT, Nat.reduceLeDiff, Nat.reduceAdd, Nat.reduceMul, Nat.reduceSub, Nat.reduceDiv, Nat.reduceMod, Bool.false_eq_true, false_and, and_false, reduceCtorEq, fX12_scatter, nX12_scatter_0, nX12_scatter_29, r_in32, j_l, l6, h1, h2, te, rRef]
  · simp (maxSteps := 400000) (disch := omega) only [n3_l, n3_add, n3_mul, n3_sub, n3_subn, n3_lt, n3_le, n3_eq, n3_eqn, n3_neq, n3_and, n3_or, n3_shl, n3_i, n3_cl, ↓hbd_0, ↓hbd_1, ↓hbd_2, hk_ob_0, hk_rd_0, hk_rd_1, hk_rd_2, hk_al_0, hk_al_1, h3r_0, h3r_1, hk_wi_0, hk_wj_0, h3w_0, h3w_1, h3v_0, hk_kI, hk_kJ, hk_kA, hk_kB, A_eq, A_ne, A_row, B_eq, B_ne, B_row, I_eq, I_ne, J_eq, J_ne, Option.bind_some, Option.some.injEq, if_true, if_false, eq_self, true_or, or_true, true_and, and_true, false_or, or_false, not_true_eq_false, not_false_eq_true, Classical.not_not, nar_b0, nar_b1, rz_0, rz_1, rz_i, ite01, Nat.add_zero, Nat.zero_add, Nat.one_mul, mul12, reduceIte, ra_z0, Nat.reduceEqDiff, Nat.reduceLT, Nat.reduceLeDiff, Nat.reduceAdd, Nat.reduceMul, Nat.reduceSub, Nat.reduceDiv, Nat.reduceMod, Bool.false_eq_true, false_and, and_false, reduceCtorEq, fX12_scatter, nX12_scatter_0, nX12_scatter_29, r_in32, j_l, l6, h1, te, rRef]
theorem k_scatter (h : Inv L xs c κ) (hN : 1000 < N) (s b : Int32) : callOk L xs c κ (fX11_scatter N 0 s b) (fX12_scatter N 69 s b) := by
  have h0 := h
  obtain ⟨n, nT, nL, nS, T, H⟩ := h0
  have H' := H
  obtain ⟨h1, h2, h3, h4, h5, h8, h9, h10, h11, h12⟩ := H'
  have k3 := h3.hk
  have k1 := k3.1
  have n40 := k1.1.2.1
  by_cases v : vIn 0 1000000 s = true ∧ vIn 0 100 b = true
  · obtain ⟨s, -, s1, rfl⟩ := vK (lo := 0) (hi := 1000000) v.1
    obtain ⟨b, -, b1, rfl⟩ := vK (lo := 0) (hi := 100) v.2
    obtain ⟨κa, ea, sa, i1, ra⟩ := c_spread N κ (s := s) (burn := b) (n := n) s1 b1 n40 hN
    obtain ⟨κ1, q1⟩ : ∃ κ1, κ1 = hk_wI κa 0 10 (n3 0) := ⟨_, rfl⟩
    have s1' : same [67] [(66, 1), (66, 2), (0, 10)] κ κ1 := by
      rw [q1]
      exact (sa.weak (by decide) (by decide)).wI (by decide)
    have c13 := k1.1.1
    have e1 : fX11_scatter N 0 (n3 s) (n3 b) (hp κ) = some (n3 (fo (wrS b) 0 n (s, 0, fun _ => -n3 1)).2.1, hp κ1) := by
      rw [q1]
      simp (maxSteps := 400000) (disch := omega) only [n3_l, n3_add, n3_mul, n3_sub, n3_subn, n3_lt, n3_le, n3_eq, n3_eqn, n3_neq, n3_and, n3_or, n3_shl, n3_i, n3_cl, ↓hbd_0, ↓hbd_1, ↓hbd_2, hk_ob_0, hk_rd_0, hk_rd_1, hk_rd_2, hk_al_0, hk_al_1, h3r_0, h3r_1, hk_wi_0, hk_wj_0, h3w_0, h3w_1, h3v_0, hk_kI, hk_kJ, hk_kA, hk_kB, A_eq, A_ne, A_row, B_eq, B_ne, B_row, I_eq, I_ne, J_eq, J_ne, Option.bind_some, Option.some.injEq, if_true, if_false, eq_self, true_or, or_true, true_and, and_true, false_or, or_false, not_true_eq_false, not_false_eq_true, Classical.not_not, nar_b0, nar_b1, rz_0, rz_1, rz_i, ite01, Nat.add_zero, Nat.zero_add, Nat.one_mul, mul12, reduceIte, ra_z0, Nat.reduceEqDiff, Nat.reduceLT, Nat.reduceLeDiff, Nat.reduceAdd, Nat.reduceMul, Nat.reduceSub, Nat.reduceDiv, Nat.reduceMod, Bool.false_eq_true, false_and, and_false, reduceCtorEq, fX11_scatter, nX11_scatter_0, s1, b1, c13, ea, c_acc, Nat.not_lt_zero]
    obtain ⟨κb, qb⟩ : ∃ κb, κb = hk_wI (hk_wJ (hk_wI κ1 69 0 (n3 0)) 55 (j3 s)) 69 56 (n3 n) := ⟨_, rfl⟩
    have sb0 : same [] [(69, 0), (69, 56)] κ1 κb := by
      rw [qb]
      exact ((((same.refl _ _ _).wI (by decide)).wJ)).wI (by decide)
    have m480 : hk_A κ1 71 480 = n3 n := by rw [s1'.1 71 (by decide)]; exact k1.1.2.2
    obtain ⟨κ2, e2, sb, g1, rb⟩ := r_scatterL N κb (s := s) (burn := b) (n := n) s1 b1 n40 hN (by rw [qb, I_eq]) (by rw [qb]; rfl)
    have l6 : (1000000 : Int64).toInt = 1000000 := by decide
    have e2' : fX12_scatter N 69 (n3 s) (n3 b) (hp κ1) = some (n3 (fo (wrS b) 0 n (s, 0, fun _ => -n3 1)).2.1, hp κ2) := by
      rw [← e2, qb]
      simp (maxSteps := 400000) (disch := omega) only [n3_l, n3_add, n3_mul, n3_sub, n3_subn, n3_lt, n3_le, n3_eq, n3_eqn, n3_neq, n3_and, n3_or, n3_shl, n3_i, n3_cl, j3_l, j3_add, j3_mul, j3_sub, j3_lt, j3_le, j3_eq, j3_n, lg3_le, lg3_lt, lg3_eq, r_in3, ↓hbd_0, ↓hbd_1, ↓hbd_2, hk_ob_0, hk_rd_0, hk_rd_1, hk_rd_2, hk_al_0, hk_al_1, h3r_0, h3r_1, hk_wi_0, hk_wj_0, h3w_0, h3w_1, h3v_0, hk_kI, hk_kJ, hk_kA, hk_kB, A_eq, A_ne, A_row, B_eq, B_ne, B_row, I_eq, I_ne, J_eq, J_ne, Option.bind_some, Option.some.injEq, if_true, if_false, eq_self, true_or, or_true, true_and, and_true, false_or, or_false, not_true_eq_false, not_false_eq_true, Classical.not_not, nar_b0, nar_b1, rz_0, rz_1, rz_i, ite01, Nat.add_zero, Nat.zero_add, Nat.one_mul, mul12, reduceIte, ra_z0, Nat.reduceEqDiff, Nat.reduceLT, Nat.reduceLeDiff, Nat.reduceAdd, Nat.reduceMul, Nat.reduceSub, Nat.reduceDiv, Nat.reduceMod, Bool.false_eq_true, false_and, and_false, reduceCtorEq, fX12_scatter, nX12_scatter_0, r_in32, j_l, l6, v.1, v.2, m480]
      rw [if_neg (by omega), if_neg (by omega)]
    have s2 : same [67, 100] [(66, 1), (66, 2), (0, 10), (69, 0), (69, 1), (69, 56)] κ κ2 := (s1'.weak (by decide) (by decide)).trans ((sb0.weak (by decide) (by decide)).trans (sb.weak (by decide) (by decide)))
    have w67 : ∀ i, i < 40 → hk_A κ2 67 i = (fo (wrS b) 0 n (s, 0, fun _ => -n3 1)).2.2 i := fun i hi => by
      rw [sb.1 67 (by decide), sb0.1 67 (by decide), q1, A_wI]
      exact ra i hi
    refine ⟨_, κ1, κ2, e1, e2', s1'.2.2.2.2.2.2.2.2, InvC.inv (n := n) (nT := nT) (nL := nL) (nS := nS) (T := T) ⟨s2.xx h1, s2.ro h2, s2.hr (by decide) (by decide) h3, s2.ttq k1.2.1.2.1 (fun x _ _ => by rw [s2.1 71 (by decide)]) h4, s2.im (by decide) (by decide) h5, s2.sa (by decide) (by decide) ?_ g1 h8, s2.ta (by decide) (by decide) h9, Or.inr ⟨n, n40, ?_, ?_, fun i hi => ?_, fun i g1 g2 => ?_⟩, s2.rf (by decide) (by decide) h11, s2.ca (by decide) (by decide) h12⟩⟩
    · rw [sb.2.2.1 0 10 (by decide), sb0.2.2.1 0 10 (by decide), q1, I_eq]
    · rw [sb.2.2.1 66 1 (by decide), sb0.2.2.1 66 1 (by decide), q1, I_ne (by decide)]
      exact i1
    · rw [sb.2.2.1 69 56 (by decide), qb, I_eq]
    · rw [w67 i (by omega), rb i hi]
    · rw [w67 i g2]
      exact wr_hi b n s i g1
  · exact callOk.ref h (c_scatter_x N v) (r_scatter_x N v)
theorem k_went (h : Inv L xs c κ) (b : Int32) : callOk L xs c κ (fX11_went N 0 b) (fX12_went N 69 b) := by
  have h0 := h
  obtain ⟨n, nT, nL, nS, T, H⟩ := h0
  have H' := H
  obtain ⟨h1, h2, h3, h4, h5, h8, h9, h10, h11, h12⟩ := H'
  have cw : ∀ k, k < 40 → fX11_went N 0 (n3 k) (hp κ) = some (hk_A κ 67 k, hp κ) := fun k hk => by
    simp (maxSteps := 400000) (disch := omega) only [n3_l, n3_add, n3_mul, n3_sub, n3_subn, n3_lt, n3_le, n3_eq, n3_eqn, n3_neq, n3_and, n3_or, n3_shl, n3_i, n3_cl, ↓hbd_0, ↓hbd_1, ↓hbd_2, hk_ob_0, hk_rd_0, hk_rd_1, hk_rd_2, hk_al_0, hk_al_1, h3r_0, h3r_1, hk_wi_0, hk_wj_0, h3w_0, h3w_1, h3v_0, hk_kI, hk_kJ, hk_kA, hk_kB, A_eq, A_ne, A_row, B_eq, B_ne, B_row, I_eq, I_ne, J_eq, J_ne, Option.bind_some, Option.some.injEq, if_true, if_false, eq_self, true_or, or_true, true_and, and_true, false_or, or_false, not_true_eq_false, not_false_eq_true, Classical.not_not, nar_b0, nar_b1, rz_0, rz_1, rz_i, ite01, Nat.add_zero, Nat.zero_add, Nat.one_mul, mul12, reduceIte, ra_z0, Nat.reduceEqDiff, Nat.reduceLT, Nat.reduceLeDiff, Nat.reduceAdd, Nat.reduceMul, Nat.reduceSub, Nat.reduceDiv, Nat.reduceMod, Bool.false_eq_true, false_and, and_false, reduceCtorEq, fX11_went, nX11_went_0, fX9_houseOf, nX9_houseOf_20, nX9_houseOf_19, nX9_houseOf_0, hk, Nat.not_lt_zero]
  have cx : ¬ vIn 0 39 b = true → fX11_went N 0 b (hp κ) = some (-n3 1, hp κ) := fun hv => by
    rw [vIn_iff] at hv
    simp (maxSteps := 400000) (disch := omega) only [n3_l, n3_add, n3_mul, n3_sub, n3_subn, n3_lt, n3_le, n3_eq, n3_eqn, n3_neq, n3_and, n3_or, n3_shl, n3_i, n3_cl, ↓hbd_0, ↓hbd_1, ↓hbd_2, hk_ob_0, hk_rd_0, hk_rd_1, hk_rd_2, hk_al_0, hk_al_1, h3r_0, h3r_1, hk_wi_0, hk_wj_0, h3w_0, h3w_1, h3v_0, hk_kI, hk_kJ, hk_kA, hk_kB, A_eq, A_ne, A_row, B_eq, B_ne, B_row, I_eq, I_ne, J_eq, J_ne, Option.bind_some, Option.some.injEq, if_true, if_false, eq_self, true_or, or_true, true_and, and_true, false_or, or_false, not_true_eq_false, not_false_eq_true, Classical.not_not, nar_b0, nar_b1, rz_0, rz_1, rz_i, ite01, Nat.add_zero, Nat.zero_add, Nat.one_mul, mul12, reduceIte, ra_z0, Nat.reduceEqDiff, Nat.reduceLT, Nat.reduceLeDiff, Nat.reduceAdd, Nat.reduceMul, Nat.reduceSub, Nat.reduceDiv, Nat.reduceMod, Bool.false_eq_true, false_and, and_false, reduceCtorEq, fX11_went, nX11_went_0, fX9_houseOf, nX9_houseOf_0, nX9_houseOf_19, nX9_houseOf_20, lt3]
    (repeat' split) <;> first | rfl | (exfalso; omega)
  have rw1 : ∀ (x : Int32) (d : Int), hk_I κ 69 56 = x → x.toInt = d → fX12_went N 69 b (hp κ) = (if vIn 0 (d - 1) b = true then ((ra_aI (hp (hk_wI κ 69 0 (n3 0))) 0 100 b).bind fun x5 => some (x5, hp (hk_wI κ 69 0 (n3 0)))) else some (-n3 1, hp (hk_wI κ 69 0 (n3 0)))) := fun x d hx hd => by
    have iv := r_in32 N b (0 : Int64) (x.toInt64 - 1) (hp (hk_wI κ 69 0 (n3 0)))
    rw [show (0 : Int64).toInt = 0 by decide, j_sub1, hd] at iv
    by_cases v : vIn 0 (d - 1) b = true
    · rw [if_pos v] at iv
      rw [if_pos v]
      have o : ∀ y, nX12_went_31 N y (hp (hk_wI κ 69 0 (n3 0))) = some (y, hp (hk_wI κ 69 0 (n3 0))) := fun y => rfl
      simp (maxSteps := 400000) (disch := omega) only [n3_l, n3_add, n3_mul, n3_sub, n3_subn, n3_lt, n3_le, n3_eq, n3_eqn, n3_neq, n3_and, n3_or, n3_shl, n3_i, n3_cl, ↓hbd_0, ↓hbd_1, ↓hbd_2, hk_ob_0, hk_rd_0, hk_rd_1, hk_rd_2, hk_al_0, hk_al_1, h3r_0, h3r_1, hk_wi_0, hk_wj_0, h3w_0, h3w_1, h3v_0, hk_kI, hk_kJ, hk_kA, hk_kB, A_eq, A_ne, A_row, B_eq, B_ne, B_row, I_eq, I_ne, J_eq, J_ne, Option.bind_some, Option.some.injEq, if_true, if_false, eq_self, true_or, or_true, true_and, and_true, false_or, or_false, not_true_eq_false, not_false_eq_true, Classical.not_not, nar_b0, nar_b1, rz_0, rz_1, rz_i, ite01, Nat.add_zero, Nat.zero_add, Nat.one_mul, mul12, reduceIte, ra_z0, Nat.reduceEqDiff, Nat.reduceLT, Nat.reduceLeDiff, Nat.reduceAdd, Nat.reduceMul, Nat.reduceSub, Nat.reduceDiv, Nat.reduceMod, Bool.false_eq_true, false_and, and_false, reduceCtorEq, fX12_went, nX12_went_0, hx, iv, o]
    · rw [if_neg v] at iv
      rw [if_neg v]
      simp (maxSteps := 400000) (disch := omega) only [n3_l, n3_add, n3_mul, n3_sub, n3_subn, n3_lt, n3_le, n3_eq, n3_eqn, n3_neq, n3_and, n3_or, n3_shl, n3_i, n3_cl, ↓hbd_0, ↓hbd_1, ↓hbd_2, hk_ob_0, hk_rd_0, hk_rd_1, hk_rd_2, hk_al_0, hk_al_1, h3r_0, h3r_1, hk_wi_0, hk_wj_0, h3w_0, h3w_1, h3v_0, hk_kI, hk_kJ, hk_kA, hk_kB, A_eq, A_ne, A_row, B_eq, B_ne, B_row, I_eq, I_ne, J_eq, J_ne, Option.bind_some, Option.some.injEq, if_true, if_false, eq_self, true_or, or_true, true_and, and_true, false_or, or_false, not_true_eq_false, not_false_eq_true, Classical.not_not, nar_b0, nar_b1, rz_0, rz_1, rz_i, ite01, Nat.add_zero, Nat.zero_add, Nat.one_mul, mul12, reduceIte, ra_z0, Nat.reduceEqDiff, Nat.reduceLT, Nat.reduceLeDiff, Nat.reduceAdd, Nat.reduceMul, Nat.reduceSub, Nat.reduceDiv, Nat.reduceMod, Bool.false_eq_true, false_and, and_false, reduceCtorEq, fX12_went, nX12_went_0, nX12_went_31, hx, iv]
  rcases h10 with ⟨a1, a2, a3⟩ | ⟨d, d4, a1, a2, a3, a4⟩
  · have r := rw1 _ (-1) a2 (by decide)
    rw [if_neg (fun z => by have := vIn_iff.mp z; omega)] at r
    by_cases v : vIn 0 39 b = true
    · obtain ⟨k, -, k2, rfl⟩ := vK (lo := 0) (hi := 39) v
      exact callOk.ask h (cw k (by omega)) r (a3 k (by omega))
    · exact callOk.ask h (cx v) r rfl
  · have r := rw1 _ d a2 (n3_toInt (by omega))
    by_cases v : vIn 0 (d - 1) b = true
    · obtain ⟨k, k1, rfl⟩ := vB v
      rw [if_pos v] at r
      have ra : ra_aI (hp (hk_wI κ 69 0 (n3 0))) 0 100 (n3 k) = some (hk_A κ 100 k) := by simp (maxSteps := 400000) (disch := omega) only [n3_l, n3_add, n3_mul, n3_sub, n3_subn, n3_lt, n3_le, n3_eq, n3_eqn, n3_neq, n3_and, n3_or, n3_shl, n3_i, n3_cl, ↓hbd_0, ↓hbd_1, ↓hbd_2, hk_ob_0, hk_rd_0, hk_rd_1, hk_rd_2, hk_al_0, hk_al_1, h3r_0, h3r_1, hk_wi_0, hk_wj_0, h3w_0, h3w_1, h3v_0, hk_kI, hk_kJ, hk_kA, hk_kB, A_eq, A_ne, A_row, B_eq, B_ne, B_row, I_eq, I_ne, J_eq, J_ne, Option.bind_some, Option.some.injEq, if_true, if_false, eq_self, true_or, or_true, true_and, and_true, false_or, or_false, not_true_eq_false, not_false_eq_true, Classical.not_not, nar_b0, nar_b1, rz_0, rz_1, rz_i, ite01, Nat.add_zero, Nat.zero_add, Nat.one_mul, mul12, reduceIte, ra_z0, Nat.reduceEqDiff, Nat.reduceLT, Nat.reduceLeDiff, Nat.reduceAdd, Nat.reduceMul, Nat.reduceSub, Nat.reduceDiv, Nat.reduceMod, Bool.false_eq_true, false_and, and_false, reduceCtorEq]
      rw [ra, Option.bind_some] at r
      exact callOk.ask h (cw k (by omega)) r (a3 k k1)
    · rw [if_neg v] at r
      by_cases v2 : vIn 0 39 b = true
      · obtain ⟨k, -, k2, rfl⟩ := vK (lo := 0) (hi := 39) v2
        have kd : d ≤ k := by
          by_cases q : k < d
          · exfalso
            exact v (vIn_iff.mpr (by rw [n3_toInt (by omega)]; omega))
          · omega
        exact callOk.ask h (cw k (by omega)) r (a4 k kd (by omega))
      · exact callOk.ask h (cx v2) r rfl
end
