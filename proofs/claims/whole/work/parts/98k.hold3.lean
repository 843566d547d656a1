/-! line, list, stack, binder -/
section
variable (N : Nat) {L c : Nat} {xs : Nat → Int32} {κ : hk_T}
theorem k_line (h : Inv L xs c κ) (w s t l m : Int32) : callOk L xs c κ (fX11_line N 0 w s t l m) (fX12_line N 69 w s t l m) := by
  have h0 := h
  obtain ⟨n, nT, nL, nS, T, H⟩ := h0
  have H' := H
  obtain ⟨h1, h2, h3, h4, h5, h8, h9, h10, h11, h12⟩ := H'
  have k3 := h3.hk
  have k1 := k3.1
  have n12 := k1.2.2.1.2.1
  have n40 := k1.1.2.1
  by_cases v : okLine w s t l m = true
  · by_cases f : nL = 12
    · have c15 : hk_I κ 1 15 = n3 12 := by rw [k1.2.2.1.1, f]
      have m482 : hk_A κ 71 482 = n3 12 := by rw [k1.2.2.1.2.2, f]
      exact callOk.ref h (c_line_y N κ h1 v c15) (r_line_y N _ v m482)
    · have e1 := c_line N κ (w := w) (s := s) (t := t) (l := l) (m := m) h1 v k1.2.2.1.1 (by omega)
      obtain ⟨κ1, q1⟩ : ∃ κ1, κ1 = hk_wI (hk_wI (hk_wA (hk_wA (hk_wA (hk_wA (hk_wA (hk_wI κ 1 15 (n3 (nL + 1))) 7 (12 * nL + 9) w) 7 (12 * nL + 10) s) 7 (12 * nL + 3) t) 7 (12 * nL) l) 7 (12 * nL + 1) m) 40 12 (n3 0)) 0 10 (n3 0) := ⟨_, rfl⟩
      rw [← q1] at e1
      have sa : same [7, 71] [(1, 15), (40, 12), (0, 10), (69, 0), (69, 1)] κ κ1 := by
        rw [q1]
        exact ((((((((same.refl _ _ _).wI (by decide)).wA (by decide)).wA (by decide)).wA (by decide)).wA (by decide)).wA (by decide)).wI (by decide)).wI (by decide)
      have m1 : hk_A κ1 71 = hk_A κ 71 := by rw [q1, A_wI, A_wI, A_row (by decide), A_row (by decide), A_row (by decide), A_row (by decide), A_row (by decide), A_wI]
      have e2 := r_line N κ1 (w := w) (s := s) (t := t) (l := l) (m := m) (n := nL) v (by rw [m1]; exact k1.2.2.1.2.2) (by omega)
      obtain ⟨κ2, q2⟩ : ∃ κ2, κ2 = hk_wI (hk_wA (hk_wA (hk_wA (hk_wA (hk_wA (hk_wA (hk_wA (hk_wI κ1 69 0 (n3 0)) 71 (650 + 6 * nL) w) 71 (650 + 6 * nL + 1) s) 71 (650 + 6 * nL + 2) t) 71 (650 + 6 * nL + 3) l) 71 (650 + 6 * nL + 4) m) 71 (650 + 6 * nL + 5) (n3 0)) 71 482 (n3 (nL + 1))) 69 1 (n3 0) := ⟨_, rfl⟩
      rw [← q2] at e2
      have sb : same [7, 71] [(1, 15), (40, 12), (0, 10), (69, 0), (69, 1)] κ κ2 := by
        rw [q2]
        exact (((((((((sa.wI (by decide)).wA (by decide)).wA (by decide)).wA (by decide)).wA (by decide)).wA (by decide)).wA (by decide)).wA (by decide))).wI (by decide)
      have m2 : ∀ y, hk_A κ2 71 y = if y = 482 then n3 (nL + 1) else if y = 650 + 6 * nL + 5 then n3 0 else if y = 650 + 6 * nL + 4 then m else if y = 650 + 6 * nL + 3 then l else if y = 650 + 6 * nL + 2 then t else if y = 650 + 6 * nL + 1 then s else if y = 650 + 6 * nL then w else hk_A κ 71 y := fun y => by rw [q2, A_wI, A_at, A_at, A_at, A_at, A_at, A_at, A_at, A_wI, m1]
      have d7 : ∀ y, hk_A κ2 7 y = if y = 12 * nL + 1 then m else if y = 12 * nL then l else if y = 12 * nL + 3 then t else if y = 12 * nL + 10 then s else if y = 12 * nL + 9 then w else hk_A κ 7 y := fun y => by rw [q2, A_wI, A_row (by decide), A_row (by decide), A_row (by decide), A_row (by decide), A_row (by decide), A_row (by decide), A_row (by decide), A_wI, q1, A_wI, A_wI, A_at, A_at, A_at, A_at, A_at, A_wI]
      have mo : ∀ y, y ≠ 482 → (y < 650 + 6 * nL ∨ 650 + 6 * nL + 5 < y) → hk_A κ2 71 y = hk_A κ 71 y := fun y hy hz => by rw [m2, if_neg hy, if_neg (by omega), if_neg (by omega), if_neg (by omega), if_neg (by omega), if_neg (by omega), if_neg (by omega)]
      have do7 : ∀ y, y < 12 * nL → hk_A κ2 7 y = hk_A κ 7 y := fun y hy => by rw [d7, if_neg (by omega), if_neg (by omega), if_neg (by omega), if_neg (by omega), if_neg (by omega)]
      have g0' : hk_I κ2 0 10 = n3 0 := by rw [q2, q1]; simp (maxSteps := 400000) (disch := omega) only [n3_l, n3_add, n3_mul, n3_sub, n3_subn, n3_lt, n3_le, n3_eq, n3_eqn, n3_neq, n3_and, n3_or, n3_shl, n3_i, n3_cl, ↓hbd_0, ↓hbd_1, ↓hbd_2, hk_ob_0, hk_rd_0, hk_rd_1, hk_rd_2, hk_al_0, hk_al_1, h3r_0, h3r_1, hk_wi_0, hk_wj_0, h3w_0, h3w_1, h3v_0, hk_kI, hk_kJ, hk_kA, hk_kB, A_eq, A_ne, A_row, B_eq, B_ne, B_row, I_eq, I_ne, J_eq, J_ne, Option.bind_some, Option.some.injEq, if_true, if_false, eq_self, true_or, or_true, true_and, and_true, false_or, or_false, not_true_eq_false, not_false_eq_true, Classical.not_not, nar_b0, nar_b1, rz_0, rz_1, rz_i, ite01, Nat.add_zero, Nat.zero_add, Nat.one_mul, mul12, reduceIte, ra_z0, Nat.reduceEqDiff, Nat.reduceLT, Nat.reduceLeDiff, Nat.reduceAdd, Nat.reduceMul, Nat.reduceSub, Nat.reduceDiv, Nat.reduceMod, Bool.false_eq_true, false_and, and_false, reduceCtorEq]
      have g1' : hk_I κ2 69 1 = n3 0 := by rw [q2]; simp (maxSteps := 400000) (disch := omega) only [n3_l, n3_add, n3_mul, n3_sub, n3_subn, n3_lt, n3_le, n3_eq, n3_eqn, n3_neq, n3_and, n3_or, n3_shl, n3_i, n3_cl, ↓hbd_0, ↓hbd_1, ↓hbd_2, hk_ob_0, hk_rd_0, hk_rd_1, hk_rd_2, hk_al_0, hk_al_1, h3r_0, h3r_1, hk_wi_0, hk_wj_0, h3w_0, h3w_1, h3v_0, hk_kI, hk_kJ, hk_kA, hk_kB, A_eq, A_ne, A_row, B_eq, B_ne, B_row, I_eq, I_ne, J_eq, J_ne, Option.bind_some, Option.some.injEq, if_true, if_false, eq_self, true_or, or_true, true_and, and_true, false_or, or_false, not_true_eq_false, not_false_eq_true, Classical.not_not, nar_b0, nar_b1, rz_0, rz_1, rz_i, ite01, Nat.add_zero, Nat.zero_add, Nat.one_mul, mul12, reduceIte, ra_z0, Nat.reduceEqDiff, Nat.reduceLT, Nat.reduceLeDiff, Nat.reduceAdd, Nat.reduceMul, Nat.reduceSub, Nat.reduceDiv, Nat.reduceMod, Bool.false_eq_true, false_and, and_false, reduceCtorEq]
      have f12 : hk_I κ2 40 12 = n3 0 := by rw [q2, q1]; simp (maxSteps := 400000) (disch := omega) only [n3_l, n3_add, n3_mul, n3_sub, n3_subn, n3_lt, n3_le, n3_eq, n3_eqn, n3_neq, n3_and, n3_or, n3_shl, n3_i, n3_cl, ↓hbd_0, ↓hbd_1, ↓hbd_2, hk_ob_0, hk_rd_0, hk_rd_1, hk_rd_2, hk_al_0, hk_al_1, h3r_0, h3r_1, hk_wi_0, hk_wj_0, h3w_0, h3w_1, h3v_0, hk_kI, hk_kJ, hk_kA, hk_kB, A_eq, A_ne, A_row, B_eq, B_ne, B_row, I_eq, I_ne, J_eq, J_ne, Option.bind_some, Option.some.injEq, if_true, if_false, eq_self, true_or, or_true, true_and, and_true, false_or, or_false, not_true_eq_false, not_false_eq_true, Classical.not_not, nar_b0, nar_b1, rz_0, rz_1, rz_i, ite01, Nat.add_zero, Nat.zero_add, Nat.one_mul, mul12, reduceIte, ra_z0, Nat.reduceEqDiff, Nat.reduceLT, Nat.reduceLeDiff, Nat.reduceAdd, Nat.reduceMul, Nat.reduceSub, Nat.reduceDiv, Nat.reduceMod, Bool.false_eq_true, false_and, and_false, reduceCtorEq]
      have i15 : hk_I κ2 1 15 = n3 (nL + 1) := by rw [q2, q1]; simp (maxSteps := 400000) (disch := omega) only [n3_l, n3_add, n3_mul, n3_sub, n3_subn, n3_lt, n3_le, n3_eq, n3_eqn, n3_neq, n3_and, n3_or, n3_shl, n3_i, n3_cl, ↓hbd_0, ↓hbd_1, ↓hbd_2, hk_ob_0, hk_rd_0, hk_rd_1, hk_rd_2, hk_al_0, hk_al_1, h3r_0, h3r_1, hk_wi_0, hk_wj_0, h3w_0, h3w_1, h3v_0, hk_kI, hk_kJ, hk_kA, hk_kB, A_eq, A_ne, A_row, B_eq, B_ne, B_row, I_eq, I_ne, J_eq, J_ne, Option.bind_some, Option.some.injEq, if_true, if_false, eq_self, true_or, or_true, true_and, and_true, false_or, or_false, not_true_eq_false, not_false_eq_true, Classical.not_not, nar_b0, nar_b1, rz_0, rz_1, rz_i, ite01, Nat.add_zero, Nat.zero_add, Nat.one_mul, mul12, reduceIte, ra_z0, Nat.reduceEqDiff, Nat.reduceLT, Nat.reduceLeDiff, Nat.reduceAdd, Nat.reduceMul, Nat.reduceSub, Nat.reduceDiv, Nat.reduceMod, Bool.false_eq_true, false_and, and_false, reduceCtorEq]
      have eI : ∀ j, j ≠ 15 → hk_I κ2 1 j = hk_I κ 1 j := fun j hj => sb.2.2.1 1 j (by simp; omega)
      refine ⟨n3 nL, κ1, κ2, e1, e2, sa.2.2.2.2.2.2.2.2, Inv.acc (nL' := nL + 1) H sb (by decide) (by decide) ⟨⟨?_, ?_, ⟨i15, by omega, by rw [m2, if_pos rfl]⟩, ?_⟩, k3.2.1.r (fun j _ _ => eI j (by omega)) (fun x _ _ => mo x (by omega) (by omega)), k3.2.2.1.r (sb.1 2 (by decide)) (fun x hx => mo x (by omega) (by omega)), k3.2.2.2.1.r (sb.1 3 (by decide)) (sb.1 4 (by decide)) (sb.1 5 (by decide)) (fun x _ _ => mo x (by omega) (by omega)), k3.2.2.2.2.1.r (sb.1 12 (by decide)) (sb.1 13 (by decide)) (sb.1 14 (by decide)) (fun x _ _ => mo x (by omega) (by omega)), ⟨fun y hy => ?_, fun y g1 g2 => ?_⟩, k3.2.2.2.2.2.2.1.r k3.1.2.2.2.2.1 (sb.1 11 (by decide)) (fun x _ _ => mo x (by omega) (by omega)), k3.2.2.2.2.2.2.2.r (sb.1 9 (by decide)) (sb.1 10 (by decide)) (fun x _ _ => mo x (by omega) (by omega))⟩ (sb.ttq k3.1.2.1.2.1 (fun x _ _ => mo x (by omega) (by omega)) h4) (sb.sa (by decide) (by decide) g0' g1' h8) ⟨sb.c1 (by decide) h12.1, sb.c2 (by decide) h12.2.1, sb.c3 (by decide) (by decide) h12.2.2.1, sb.c4 (by decide) (by decide) h12.2.2.2.1, Or.inl f12, sb.c6 (by decide) (by decide) h12.2.2.2.2.2⟩⟩
      · rw [eI 13 (by omega), mo 480 (by omega) (by omega)]; exact k1.1
      · rw [eI 14 (by omega), mo 481 (by omega) (by omega)]; exact k1.2.1
      · rw [eI 16 (by omega), mo 483 (by omega) (by omega)]; exact k1.2.2.2
      · rw [sb.1 8 (by decide)]
        by_cases e : y = nL
        · subst e
          have u0 : hk_A κ2 71 (650 + 6 * y) = w := by rw [m2, if_neg (by omega), if_neg (by omega), if_neg (by omega), if_neg (by omega), if_neg (by omega), if_neg (by omega), if_pos rfl]
          have u1 : hk_A κ2 71 (650 + 6 * y + 1) = s := by rw [m2, if_neg (by omega), if_neg (by omega), if_neg (by omega), if_neg (by omega), if_neg (by omega), if_pos rfl]
          have u2 : hk_A κ2 71 (650 + 6 * y + 2) = t := by rw [m2, if_neg (by omega), if_neg (by omega), if_neg (by omega), if_neg (by omega), if_pos rfl]
          have u3 : hk_A κ2 71 (650 + 6 * y + 3) = l := by rw [m2, if_neg (by omega), if_neg (by omega), if_neg (by omega), if_pos rfl]
          have u4 : hk_A κ2 71 (650 + 6 * y + 4) = m := by rw [m2, if_neg (by omega), if_neg (by omega), if_pos rfl]
          have u5 : hk_A κ2 71 (650 + 6 * y + 5) = n3 0 := by rw [m2, if_neg (by omega), if_pos rfl]
          have w9 : hk_A κ2 7 (12 * y + 9) = w := by rw [d7, if_neg (by omega), if_neg (by omega), if_neg (by omega), if_neg (by omega), if_pos rfl]
          have w10 : hk_A κ2 7 (12 * y + 10) = s := by rw [d7, if_neg (by omega), if_neg (by omega), if_neg (by omega), if_pos rfl]
          have w3 : hk_A κ2 7 (12 * y + 3) = t := by rw [d7, if_neg (by omega), if_neg (by omega), if_pos rfl]
          have w0 : hk_A κ2 7 (12 * y) = l := by rw [d7, if_neg (by omega), if_pos rfl]
          have w1 : hk_A κ2 7 (12 * y + 1) = m := by rw [d7, if_pos rfl]
          have z8 : hk_A κ 8 y = n3 0 := k3.2.2.2.2.2.1.2 y (by omega) (by omega)
          rw [u0, u1, u2, u3, u4, u5, w9, w10, w3, w0, w1, z8]
          exact ⟨rfl, rfl, rfl, rfl, rfl, rfl, v, by decide⟩
        · rw [mo _ (by omega) (by omega), mo _ (by omega) (by omega), mo _ (by omega) (by omega), mo _ (by omega) (by omega), mo _ (by omega) (by omega), mo _ (by omega) (by omega), do7 _ (by omega), do7 _ (by omega), do7 _ (by omega), do7 _ (by omega), do7 _ (by omega)]
          exact k3.2.2.2.2.2.1.1 y (by omega)
      · rw [sb.1 8 (by decide)]
        exact k3.2.2.2.2.2.1.2 y (by omega) g2
  · exact callOk.ref h (c_line_x N κ h1 v) (r_line_x N _ v)
theorem k_list (h : Inv L xs c κ) (l s : Int32) : callOk L xs c κ (fX11_list N 0 l s) (fX12_list N 69 l s) := by
  have h0 := h
  obtain ⟨n, nT, nL, nS, T, H⟩ := h0
  have H' := H
  obtain ⟨h1, h2, h3, h4, h5, h8, h9, h10, h11, h12⟩ := H'
  have k3 := h3.hk
  have k1 := k3.1
  have n12 := k1.2.2.1.2.1
  have n40 := k1.1.2.1
  by_cases v : vIn 0 3 s = true
  · by_cases f : vIn 0 (nL - 1) l = true
    · obtain ⟨l, ll, rfl⟩ := vB f
      have e1 := c_list N κ (l := l) (s := s) v k1.2.2.1.1 n12 ll
      obtain ⟨κ1, q1⟩ : ∃ κ1, κ1 = hk_wI (hk_wA κ 8 l s) 0 10 (n3 0) := ⟨_, rfl⟩
      rw [← q1] at e1
      have sa : same [8, 71] [(0, 10), (69, 0), (69, 1)] κ κ1 := by
        rw [q1]
        exact ((same.refl _ _ _).wA (by decide)).wI (by decide)
      have m1 : hk_A κ1 71 = hk_A κ 71 := by rw [q1, A_wI, A_row (by decide)]
      have e2 := r_list N κ1 (l := l) (s := s) (n := nL) v (by rw [m1]; exact k1.2.2.1.2.2) n12 ll
      obtain ⟨κ2, q2⟩ : ∃ κ2, κ2 = hk_wI (hk_wA (hk_wI κ1 69 0 (n3 0)) 71 (650 + 6 * l + 5) s) 69 1 (n3 0) := ⟨_, rfl⟩
      rw [← q2] at e2
      have sb : same [8, 71] [(0, 10), (69, 0), (69, 1)] κ κ2 := by
        rw [q2]
        exact ((sa.wI (by decide)).wA (by decide)).wI (by decide)
      have m2 : ∀ y, hk_A κ2 71 y = if y = 650 + 6 * l + 5 then s else hk_A κ 71 y := fun y => by rw [q2, A_wI, A_at, A_wI, m1]
      have d8 : ∀ y, hk_A κ2 8 y = if y = l then s else hk_A κ 8 y := fun y => by rw [q2, A_wI, A_row (by decide), A_wI, q1, A_wI, A_at]
      have mo : ∀ y, y ≠ 650 + 6 * l + 5 → hk_A κ2 71 y = hk_A κ 71 y := fun y hy => by rw [m2, if_neg hy]
      have g0' : hk_I κ2 0 10 = n3 0 := by rw [q2, q1]; simp (maxSteps := 400000) (disch := omega) only [n3_l, n3_add, n3_mul, n3_sub, n3_subn, n3_lt, n3_le, n3_eq, n3_eqn, n3_neq, n3_and, n3_or, n3_shl, n3_i, n3_cl, ↓hbd_0, ↓hbd_1, ↓hbd_2, hk_ob_0, hk_rd_0, hk_rd_1, hk_rd_2, hk_al_0, hk_al_1, h3r_0, h3r_1, hk_wi_0, hk_wj_0, h3w_0, h3w_1, h3v_0, hk_kI, hk_kJ, hk_kA, hk_kB, A_eq, A_ne, A_row, B_eq, B_ne, B_row, I_eq, I_ne, J_eq, J_ne, Option.bind_some, Option.some.injEq, if_true, if_false, eq_self, true_or, or_true, true_and, and_true, false_or, or_false, not_true_eq_false, not_false_eq_true, Classical.not_not, nar_b0, nar_b1, rz_0, rz_1, rz_i, ite01, Nat.add_zero, Nat.zero_add, Nat.one_mul, mul12, reduceIte, ra_z0, Nat.reduceEqDiff, Nat.reduceLT, Nat.reduceLeDiff, Nat.reduceAdd, Nat.reduceMul, Nat.reduceSub, Nat.reduceDiv, Nat.reduceMod, Bool.false_eq_true, false_and, and_false, reduceCtorEq]
      have g1' : hk_I κ2 69 1 = n3 0 := by rw [q2]; simp (maxSteps := 400000) (disch := omega) only [n3_l, n3_add, n3_mul, n3_sub, n3_subn, n3_lt, n3_le, n3_eq, n3_eqn, n3_neq, n3_and, n3_or, n3_shl, n3_i, n3_cl, ↓hbd_0, ↓hbd_1, ↓hbd_2, hk_ob_0, hk_rd_0, hk_rd_1, hk_rd_2, hk_al_0, hk_al_1, h3r_0, h3r_1, hk_wi_0, hk_wj_0, h3w_0, h3w_1, h3v_0, hk_kI, hk_kJ, hk_kA, hk_kB, A_eq, A_ne, A_row, B_eq, B_ne, B_row, I_eq, I_ne, J_eq, J_ne, Option.bind_some, Option.some.injEq, if_true, if_false, eq_self, true_or, or_true, true_and, and_true, false_or, or_false, not_true_eq_false, not_false_eq_true, Classical.not_not, nar_b0, nar_b1, rz_0, rz_1, rz_i, ite01, Nat.add_zero, Nat.zero_add, Nat.one_mul, mul12, reduceIte, ra_z0, Nat.reduceEqDiff, Nat.reduceLT, Nat.reduceLeDiff, Nat.reduceAdd, Nat.reduceMul, Nat.reduceSub, Nat.reduceDiv, Nat.reduceMod, Bool.false_eq_true, false_and, and_false, reduceCtorEq]
      have eI := sb.i1 (by decide)
      refine ⟨hk_A κ 8 l, κ1, κ2, e1, ?_, sa.2.2.2.2.2.2.2.2, Inv.acc H sb (by decide) (by decide) ⟨k3.1.r (fun j _ _ => eI j) (fun x _ _ => mo x (by omega)), k3.2.1.r (fun j _ _ => eI j) (fun x _ _ => mo x (by omega)), k3.2.2.1.r (sb.1 2 (by decide)) (fun x hx => mo x (by omega)), k3.2.2.2.1.r (sb.1 3 (by decide)) (sb.1 4 (by decide)) (sb.1 5 (by decide)) (fun x _ _ => mo x (by omega)), k3.2.2.2.2.1.r (sb.1 12 (by decide)) (sb.1 13 (by decide)) (sb.1 14 (by decide)) (fun x _ _ => mo x (by omega)), ⟨fun y hy => ?_, fun y g1 g2 => ?_⟩, k3.2.2.2.2.2.2.1.r k3.1.2.2.2.2.1 (sb.1 11 (by decide)) (fun x _ _ => mo x (by omega)), k3.2.2.2.2.2.2.2.r (sb.1 9 (by decide)) (sb.1 10 (by decide)) (fun x _ _ => mo x (by omega))⟩ (sb.ttq k3.1.2.1.2.1 (fun x _ _ => mo x (by omega)) h4) (sb.sa (by decide) (by decide) g0' g1' h8) (sb.ca (by decide) (by decide) h12)⟩
      · rw [e2, m1, (k3.2.2.2.2.2.1.1 l ll).2.2.2.2.2.1]
      · rw [sb.1 7 (by decide), mo (650 + 6 * y) (by omega), mo (650 + 6 * y + 1) (by omega), mo (650 + 6 * y + 2) (by omega), mo (650 + 6 * y + 3) (by omega), mo (650 + 6 * y + 4) (by omega), d8, m2]
        obtain ⟨b1, b2, b3, b4, b5, b6, b7, b8⟩ := k3.2.2.2.2.2.1.1 y hy
        by_cases e : y = l
        · rw [if_pos e, if_pos (by omega)]
          exact ⟨b1, b2, b3, b4, b5, rfl, b7, v⟩
        · rw [if_neg e, if_neg (by omega)]
          exact ⟨b1, b2, b3, b4, b5, b6, b7, b8⟩
      · rw [d8, if_neg (by omega)]
        exact k3.2.2.2.2.2.1.2 y g1 g2
    · exact callOk.ref h (c_list_y N κ v k1.2.2.1.1 n12 f) (r_list_y N _ v k1.2.2.1.2.2 n12 f)
  · exact callOk.ref h (c_list_x N κ v) (r_list_x N _ v)
theorem k_binder (h : Inv L xs c κ) (hN : 1000 < N) (s f t : Int32) : callOk L xs c κ (fX11_binder N 0 s f t) (fX12_binder N 69 s f t) := by
  have h0 := h
  obtain ⟨n, nT, nL, nS, T, H⟩ := h0
  have H' := H
  obtain ⟨h1, h2, h3, h4, h5, h8, h9, h10, h11, h12⟩ := H'
  have k3 := h3.hk
  have k1 := k3.1
  have n40 := k1.1.2.1
  have hF := k3.2.2.1
  by_cases v : vIn 0 9 s = true ∧ vIn 0 199 f = true ∧ vIn f.toInt 199 t = true
  · obtain ⟨v1, v2, v3⟩ := v
    obtain ⟨s, -, s1, rfl⟩ := vK (lo := 0) (hi := 9) v1
    have vf := vIn_iff.mp v2
    have vt := vIn_iff.mp v3
    have vt' : vIn 0 199 t = true := vIn_iff.mpr (by omega)
    have nlt : ¬ t < f := fun z => by have := i_lt.mp z; omega
    have st : ∀ b, b < n → hk_A κ 2 (12 * b + 7) = n3 (hk_A κ 2 (12 * b + 7)).toInt.toNat ∧ (hk_A κ 2 (12 * b + 7)).toInt.toNat < 10 := fun b hb => by
      obtain ⟨k, k1, k2, k3'⟩ := vK (lo := 0) (hi := 9) (hF.2.2 b hb).2.2.2.2.2.2.1
      have : (hk_A κ 2 (12 * b + 7)).toInt.toNat = k := by rw [k3', n3_toInt (by omega)]; omega
      rw [this]
      exact ⟨k3', by omega⟩
    have e1 := c_binder N κ (s := s) (f := f) (t := t) (st := fun b => (hk_A κ 2 (12 * b + 7)).toInt.toNat) h1 k1.1.1 n40 (by omega) v2 vt' nlt st hN
    obtain ⟨κ1, q1⟩ : ∃ κ1, κ1 = hk_wI (hk_wA (hk_wA κ 9 s f) 10 s t) 0 10 (n3 0) := ⟨_, rfl⟩
    rw [← q1] at e1
    have sa : same [9, 10, 71] [(0, 10), (69, 0), (69, 1)] κ κ1 := by
      rw [q1]
      exact (((same.refl _ _ _).wA (by decide)).wA (by decide)).wI (by decide)
    have m1 : hk_A κ1 71 = hk_A κ 71 := by rw [q1, A_wI, A_row (by decide), A_row (by decide)]
    have e2 := r_binder N κ1 (n := n) (s := s) (f := f) (t := t) (st := fun b => (hk_A κ 2 (12 * b + 7)).toInt.toNat) (by rw [m1]; exact k1.1.2.2) n40 (by omega) v2 v3 (fun b hb => by rw [m1, hF.1 (12 * b + 7) (by omega)]; exact st b hb) hN
    rw [m1] at e2
    obtain ⟨κ2, q2⟩ : ∃ κ2, κ2 = hk_wI (hk_wA (hk_wA (hk_wI κ1 69 0 (n3 0)) 71 (735 + 2 * s) f) 71 (735 + 2 * s + 1) t) 69 1 (n3 0) := ⟨_, rfl⟩
    rw [← q2] at e2
    have sb : same [9, 10, 71] [(0, 10), (69, 0), (69, 1)] κ κ2 := by
      rw [q2]
      exact (((sa.wI (by decide)).wA (by decide)).wA (by decide)).wI (by decide)
    have m2 : ∀ y, hk_A κ2 71 y = if y = 735 + 2 * s + 1 then t else if y = 735 + 2 * s then f else hk_A κ 71 y := fun y => by rw [q2, A_wI, A_at, A_at, A_wI, m1]
    have d9 : ∀ y, hk_A κ2 9 y = if y = s then f else hk_A κ 9 y := fun y => by rw [q2, A_wI, A_row (by decide), A_row (by decide), A_wI, q1, A_wI, A_row (by decide), A_at]
    have d10 : ∀ y, hk_A κ2 10 y = if y = s then t else hk_A κ 10 y := fun y => by rw [q2, A_wI, A_row (by decide), A_row (by decide), A_wI, q1, A_wI, A_at, A_row (by decide)]
    have mo : ∀ y, (y < 735 ∨ 755 ≤ y) → hk_A κ2 71 y = hk_A κ 71 y := fun y hy => by rw [m2, if_neg (by omega), if_neg (by omega)]
    have g0' : hk_I κ2 0 10 = n3 0 := by rw [q2, q1]; simp (maxSteps := 400000) (disch := omega) only [n3_l, n3_add, n3_mul, n3_sub, n3_subn, n3_lt, n3_le, n3_eq, n3_eqn, n3_neq, n3_and, n3_or, n3_shl, n3_i, n3_cl, ↓hbd_0, ↓hbd_1, ↓hbd_2, hk_ob_0, hk_rd_0, hk_rd_1, hk_rd_2, hk_al_0, hk_al_1, h3r_0, h3r_1, hk_wi_0, hk_wj_0, h3w_0, h3w_1, h3v_0, hk_kI, hk_kJ, hk_kA, hk_kB, A_eq, A_ne, A_row, B_eq, B_ne, B_row, I_eq, I_ne, J_eq, J_ne, Option.bind_some, Option.some.injEq, if_true, if_false, eq_self, true_or, or_true, true_and, and_true, false_or, or_false, not_true_eq_false, not_false_eq_true, Classical.not_not, nar_b0, nar_b1, rz_0, rz_1, rz_i, ite01, Nat.add_zero, Nat.zero_add, Nat.one_mul, mul12, reduceIte, ra_z0, Nat.reduceEqDiff, Nat.reduceLT, Nat.reduceLeDiff, Nat.reduceAdd, Nat.reduceMul, Nat.reduceSub, Nat.reduceDiv, Nat.reduceMod, Bool.false_eq_true, false_and, and_false, reduceCtorEq]
    have g1' : hk_I κ2 69 1 = n3 0 := by rw [q2]; simp (maxSteps := 400000) (disch := omega) only [n3_l, n3_add, n3_mul, n3_sub, n3_subn, n3_lt, n3_le, n3_eq, n3_eqn, n3_neq, n3_and, n3_or, n3_shl, n3_i, n3_cl, ↓hbd_0, ↓hbd_1, ↓hbd_2, hk_ob_0, hk_rd_0, hk_rd_1, hk_rd_2, hk_al_0, hk_al_1, h3r_0, h3r_1, hk_wi_0, hk_wj_0, h3w_0, h3w_1, h3v_0, hk_kI, hk_kJ, hk_kA, hk_kB, A_eq, A_ne, A_row, B_eq, B_ne, B_row, I_eq, I_ne, J_eq, J_ne, Option.bind_some, Option.some.injEq, if_true, if_false, eq_self, true_or, or_true, true_and, and_true, false_or, or_false, not_true_eq_false, not_false_eq_true, Classical.not_not, nar_b0, nar_b1, rz_0, rz_1, rz_i, ite01, Nat.add_zero, Nat.zero_add, Nat.one_mul, mul12, reduceIte, ra_z0, Nat.reduceEqDiff, Nat.reduceLT, Nat.reduceLeDiff, Nat.reduceAdd, Nat.reduceMul, Nat.reduceSub, Nat.reduceDiv, Nat.reduceMod, Bool.false_eq_true, false_and, and_false, reduceCtorEq]
    have eI := sb.i1 (by decide)
    have an : cnt (fun b => hk_A κ 2 (12 * b + 7) = n3 s ∧ (hk_A κ 2 (12 * b + 2) < f ∨ ¬ hk_A κ 2 (12 * b + 2) ≤ t)) n = cnt (fun b => hk_A κ 71 (12 * b + 7) = n3 s ∧ (hk_A κ 71 (12 * b + 2) < f ∨ ¬ hk_A κ 71 (12 * b + 2) ≤ t)) n := cnt_congr n (fun b hb => by rw [hF.1 (12 * b + 7) (by omega), hF.1 (12 * b + 2) (by omega)])
    rw [← an] at e2
    refine ⟨_, κ1, κ2, e1, e2, sa.2.2.2.2.2.2.2.2, Inv.acc H sb (by decide) (by decide) ⟨k3.1.r (fun j _ _ => eI j) (fun x _ _ => mo x (by omega)), k3.2.1.r (fun j _ _ => eI j) (fun x _ _ => mo x (by omega)), k3.2.2.1.r (sb.1 2 (by decide)) (fun x hx => mo x (by omega)), k3.2.2.2.1.r (sb.1 3 (by decide)) (sb.1 4 (by decide)) (sb.1 5 (by decide)) (fun x _ _ => mo x (by omega)), k3.2.2.2.2.1.r (sb.1 12 (by decide)) (sb.1 13 (by decide)) (sb.1 14 (by decide)) (fun x _ _ => mo x (by omega)), k3.2.2.2.2.2.1.r k3.1.2.2.1.2.1 (sb.1 7 (by decide)) (sb.1 8 (by decide)) (fun x _ _ => mo x (by omega)), k3.2.2.2.2.2.2.1.r k3.1.2.2.2.2.1 (sb.1 11 (by decide)) (fun x _ _ => mo x (by omega)), fun y hy => ?_⟩ (sb.ttq k3.1.2.1.2.1 (fun x _ _ => mo x (by omega)) h4) (sb.sa (by decide) (by decide) g0' g1' h8) (sb.ca (by decide) (by decide) h12)⟩
    by_cases e : y = s
    · have u1 : hk_A κ2 71 (735 + 2 * y) = f := by rw [m2, if_neg (by omega), if_pos (by omega)]
      have u2 : hk_A κ2 71 (735 + 2 * y + 1) = t := by rw [m2, if_pos (by omega)]
      rw [u1, u2, d9, if_pos e, d10, if_pos e]
      exact ⟨rfl, rfl⟩
    · have u1 : hk_A κ2 71 (735 + 2 * y) = hk_A κ 71 (735 + 2 * y) := by rw [m2, if_neg (by omega), if_neg (by omega)]
      have u2 : hk_A κ2 71 (735 + 2 * y + 1) = hk_A κ 71 (735 + 2 * y + 1) := by rw [m2, if_neg (by omega), if_neg (by omega)]
      rw [u1, u2, d9, if_neg e, d10, if_neg e]
      exact k3.2.2.2.2.2.2.2 y hy
  · exact callOk.ref h (c_binder_x N κ h1 v) (r_binder_x N _ v)
theorem k_stack (h : Inv L xs c κ) (hN : 1000 < N) (b : Int32) : callOk L xs c κ (fX11_stack N 0 b) (fX12_stack N 69 b) := by
  have h0 := h
  obtain ⟨n, nT, nL, nS, T, H⟩ := h0
  have H' := H
  obtain ⟨h1, h2, h3, h4, h5, h8, h9, h10, h11, h12⟩ := H'
  have k3 := h3.hk
  have k1 := k3.1
  have n40 := k1.1.2.1
  have n9 := k1.2.2.2.2.1
  by_cases f : vIn 0 (n - 1) b = true
  · obtain ⟨b, bb, rfl⟩ := vB f
    have zi : ∀ i, i < nS → (hk_A κ 71 (725 + i) = n3 b ↔ hk_A κ 11 i = n3 b) := fun i hi => by
      obtain ⟨z, z1, z2, z3'⟩ := k3.2.2.2.2.2.2.1.1 i hi
      rw [z2, z3']
    by_cases g : ∃ i, i < nS ∧ hk_A κ 11 i = n3 b
    · refine callOk.ref (k := 3) h (c_stack_y N κ k1.1.1 n40 bb k1.2.2.2.1 n9 hN g) ?_
      have r := r_stackL N (cRef κ 3) (n := n) (s := nS) (b := b) k1.1.2.2 n40 bb k1.2.2.2.2.2 n9 hN
      obtain ⟨i, i1, i2⟩ := g
      rw [if_pos ⟨i, i1, (zi i i1).mpr i2⟩] at r
      exact r
    · by_cases s9 : nS = 9
      · have g9 : ¬ ∃ i, i < 9 ∧ hk_A κ 11 i = n3 b := by rw [← s9]; exact g
        refine callOk.ref (k := 5) h (c_stack_z N κ k1.1.1 n40 bb (by rw [k1.2.2.2.1, s9]) hN g9) ?_
        have r := r_stackL N (cRef κ 5) (n := n) (s := nS) (b := b) k1.1.2.2 n40 bb k1.2.2.2.2.2 n9 hN
        rw [if_neg (fun z => by obtain ⟨i, i1, i2⟩ := z; exact g ⟨i, i1, (zi i i1).mp i2⟩), if_pos s9] at r
        exact r
      · have e1 := c_stack N κ (b := b) k1.1.1 n40 bb k1.2.2.2.1 (by omega) hN g
        obtain ⟨κ1, q1⟩ : ∃ κ1, κ1 = hk_wI (hk_wI (hk_wI (hk_wA κ 11 nS (n3 b)) 1 16 (n3 (nS + 1))) 61 4 (n3 0)) 0 10 (n3 0) := ⟨_, rfl⟩
        rw [← q1] at e1
        have sa : same [11, 71] [(1, 16), (61, 4), (0, 10), (69, 0), (69, 1)] κ κ1 := by
          rw [q1]
          exact ((((same.refl _ _ _).wA (by decide)).wI (by decide)).wI (by decide)).wI (by decide)
        have m1 : hk_A κ1 71 = hk_A κ 71 := by rw [q1, A_wI, A_wI, A_wI, A_row (by decide)]
        have e2 := r_stackL N κ1 (n := n) (s := nS) (b := b) (by rw [m1]; exact k1.1.2.2) n40 bb (by rw [m1]; exact k1.2.2.2.2.2) n9 hN
        rw [m1, if_neg (fun z => by obtain ⟨i, i1, i2⟩ := z; exact g ⟨i, i1, (zi i i1).mp i2⟩), if_neg s9] at e2
        obtain ⟨κ2, q2⟩ : ∃ κ2, κ2 = hk_wI (hk_wA (hk_wA (hk_wI κ1 69 0 (n3 0)) 71 (725 + nS) (n3 b)) 71 483 (n3 (nS + 1))) 69 1 (n3 0) := ⟨_, rfl⟩
        rw [← q2] at e2
        have sb : same [11, 71] [(1, 16), (61, 4), (0, 10), (69, 0), (69, 1)] κ κ2 := by
          rw [q2]
          exact (((sa.wI (by decide)).wA (by decide)).wA (by decide)).wI (by decide)
        have m2 : ∀ y, hk_A κ2 71 y = if y = 483 then n3 (nS + 1) else if y = 725 + nS then n3 b else hk_A κ 71 y := fun y => by rw [q2, A_wI, A_at, A_at, A_wI, m1]
        have d11 : ∀ y, hk_A κ2 11 y = if y = nS then n3 b else hk_A κ 11 y := fun y => by rw [q2, A_wI, A_row (by decide), A_row (by decide), A_wI, q1, A_wI, A_wI, A_wI, A_at]
        have mo : ∀ y, y ≠ 483 → y ≠ 725 + nS → hk_A κ2 71 y = hk_A κ 71 y := fun y hy hz => by rw [m2, if_neg hy, if_neg hz]
        have g0' : hk_I κ2 0 10 = n3 0 := by rw [q2, q1]; simp (maxSteps := 400000) (disch := omega) only [n3_l, n3_add, n3_mul, n3_sub, n3_subn, n3_lt, n3_le, n3_eq, n3_eqn, n3_neq, n3_and, n3_or, n3_shl, n3_i, n3_cl, ↓hbd_0, ↓hbd_1, ↓hbd_2, hk_ob_0, hk_rd_0, hk_rd_1, hk_rd_2, hk_al_0, hk_al_1, h3r_0, h3r_1, hk_wi_0, hk_wj_0, h3w_0, h3w_1, h3v_0, hk_kI, hk_kJ, hk_kA, hk_kB, A_eq, A_ne, A_row, B_eq, B_ne, B_row, I_eq, I_ne, J_eq, J_ne, Option.bind_some, Option.some.injEq, if_true, if_false, eq_self, true_or, or_true, true_and, and_true, false_or, or_false, not_true_eq_false, not_false_eq_true, Classical.not_not, nar_b0, nar_b1, rz_0, rz_1, rz_i, ite01, Nat.add_zero, Nat.zero_add, Nat.one_mul, mul12, reduceIte, ra_z0, Nat.reduceEqDiff, Nat.reduceLT, Nat.reduceLeDiff, Nat.reduceAdd, Nat.reduceMul, Nat.reduceSub, Nat.reduceDiv, Nat.reduceMod, Bool.false_eq_true, false_and, and_false, reduceCtorEq]
        have g1' : hk_I κ2 69 1 = n3 0 := by rw [q2]; simp (maxSteps := 400000) (disch := omega) only [n3_l, n3_add, n3_mul, n3_sub, n3_subn, n3_lt, n3_le, n3_eq, n3_eqn, n3_neq, n3_and, n3_or, n3_shl, n3_i, n3_cl, ↓hbd_0, ↓hbd_1, ↓hbd_2, hk_ob_0, hk_rd_0, hk_rd_1, hk_rd_2, hk_al_0, hk_al_1, h3r_0, h3r_1, hk_wi_0, hk_wj_0, h3w_0, h3w_1, h3v_0, hk_kI, hk_kJ, hk_kA, hk_kB, A_eq, A_ne, A_row, B_eq, B_ne, B_row, I_eq, I_ne, J_eq, J_ne, Option.bind_some, Option.some.injEq, if_true, if_false, eq_self, true_or, or_true, true_and, and_true, false_or, or_false, not_true_eq_false, not_false_eq_true, Classical.not_not, nar_b0, nar_b1, rz_0, rz_1, rz_i, ite01, Nat.add_zero, Nat.zero_add, Nat.one_mul, mul12, reduceIte, ra_z0, Nat.reduceEqDiff, Nat.reduceLT, Nat.reduceLeDiff, Nat.reduceAdd, Nat.reduceMul, Nat.reduceSub, Nat.reduceDiv, Nat.reduceMod, Bool.false_eq_true, false_and, and_false, reduceCtorEq]
        have f4 : hk_I κ2 61 4 = n3 0 := by rw [q2, q1]; simp (maxSteps := 400000) (disch := omega) only [n3_l, n3_add, n3_mul, n3_sub, n3_subn, n3_lt, n3_le, n3_eq, n3_eqn, n3_neq, n3_and, n3_or, n3_shl, n3_i, n3_cl, ↓hbd_0, ↓hbd_1, ↓hbd_2, hk_ob_0, hk_rd_0, hk_rd_1, hk_rd_2, hk_al_0, hk_al_1, h3r_0, h3r_1, hk_wi_0, hk_wj_0, h3w_0, h3w_1, h3v_0, hk_kI, hk_kJ, hk_kA, hk_kB, A_eq, A_ne, A_row, B_eq, B_ne, B_row, I_eq, I_ne, J_eq, J_ne, Option.bind_some, Option.some.injEq, if_true, if_false, eq_self, true_or, or_true, true_and, and_true, false_or, or_false, not_true_eq_false, not_false_eq_true, Classical.not_not, nar_b0, nar_b1, rz_0, rz_1, rz_i, ite01, Nat.add_zero, Nat.zero_add, Nat.one_mul, mul12, reduceIte, ra_z0, Nat.reduceEqDiff, Nat.reduceLT, Nat.reduceLeDiff, Nat.reduceAdd, Nat.reduceMul, Nat.reduceSub, Nat.reduceDiv, Nat.reduceMod, Bool.false_eq_true, false_and, and_false, reduceCtorEq]
        have i16 : hk_I κ2 1 16 = n3 (nS + 1) := by rw [q2, q1]; simp (maxSteps := 400000) (disch := omega) only [n3_l, n3_add, n3_mul, n3_sub, n3_subn, n3_lt, n3_le, n3_eq, n3_eqn, n3_neq, n3_and, n3_or, n3_shl, n3_i, n3_cl, ↓hbd_0, ↓hbd_1, ↓hbd_2, hk_ob_0, hk_rd_0, hk_rd_1, hk_rd_2, hk_al_0, hk_al_1, h3r_0, h3r_1, hk_wi_0, hk_wj_0, h3w_0, h3w_1, h3v_0, hk_kI, hk_kJ, hk_kA, hk_kB, A_eq, A_ne, A_row, B_eq, B_ne, B_row, I_eq, I_ne, J_eq, J_ne, Option.bind_some, Option.some.injEq, if_true, if_false, eq_self, true_or, or_true, true_and, and_true, false_or, or_false, not_true_eq_false, not_false_eq_true, Classical.not_not, nar_b0, nar_b1, rz_0, rz_1, rz_i, ite01, Nat.add_zero, Nat.zero_add, Nat.one_mul, mul12, reduceIte, ra_z0, Nat.reduceEqDiff, Nat.reduceLT, Nat.reduceLeDiff, Nat.reduceAdd, Nat.reduceMul, Nat.reduceSub, Nat.reduceDiv, Nat.reduceMod, Bool.false_eq_true, false_and, and_false, reduceCtorEq]
        have eI : ∀ j, j ≠ 16 → hk_I κ2 1 j = hk_I κ 1 j := fun j hj => sb.2.2.1 1 j (by simp; omega)
        refine ⟨n3 (nS + 1), κ1, κ2, e1, e2, sa.2.2.2.2.2.2.2.2, Inv.acc (nS' := nS + 1) H sb (by decide) (by decide) ⟨⟨?_, ?_, ?_, ⟨i16, by omega, by rw [m2, if_pos rfl]⟩⟩, k3.2.1.r (fun j _ _ => eI j (by omega)) (fun x _ _ => mo x (by omega) (by omega)), k3.2.2.1.r (sb.1 2 (by decide)) (fun x hx => mo x (by omega) (by omega)), k3.2.2.2.1.r (sb.1 3 (by decide)) (sb.1 4 (by decide)) (sb.1 5 (by decide)) (fun x _ _ => mo x (by omega) (by omega)), k3.2.2.2.2.1.r (sb.1 12 (by decide)) (sb.1 13 (by decide)) (sb.1 14 (by decide)) (fun x _ _ => mo x (by omega) (by omega)), k3.2.2.2.2.2.1.r k3.1.2.2.1.2.1 (sb.1 7 (by decide)) (sb.1 8 (by decide)) (fun x _ _ => mo x (by omega) (by omega)), ⟨fun i hi => ?_, fun i j hi hj => ?_⟩, k3.2.2.2.2.2.2.2.r (sb.1 9 (by decide)) (sb.1 10 (by decide)) (fun x _ _ => mo x (by omega) (by omega))⟩ (sb.ttq k3.1.2.1.2.1 (fun x _ _ => mo x (by omega) (by omega)) h4) (sb.sa (by decide) (by decide) g0' g1' h8) ⟨sb.c1 (by decide) h12.1, sb.c2 (by decide) h12.2.1, sb.c3 (by decide) (by decide) h12.2.2.1, sb.c4 (by decide) (by decide) h12.2.2.2.1, sb.c5 (by decide) (by decide) h12.2.2.2.2.1, Or.inl f4⟩⟩
        · rw [eI 13 (by omega), mo 480 (by omega) (by omega)]; exact k1.1
        · rw [eI 14 (by omega), mo 481 (by omega) (by omega)]; exact k1.2.1
        · rw [eI 15 (by omega), mo 482 (by omega) (by omega)]; exact k1.2.2.1
        · by_cases e : i = nS
          · refine ⟨b, bb, by rw [d11, if_pos e], by rw [m2, if_neg (by omega), if_pos (by omega)]⟩
          · rw [d11, if_neg e, mo _ (by omega) (by omega)]
            exact k3.2.2.2.2.2.2.1.1 i (by omega)
        · by_cases e : j = nS
          · rw [d11, if_neg (by omega), d11, if_pos e]
            exact fun z => g ⟨i, by omega, z⟩
          · rw [d11, if_neg (by omega), d11, if_neg e]
            exact k3.2.2.2.2.2.2.1.2 i j hi (by omega)
  · exact callOk.ref h (c_stack_x N κ k1.1.1 n40 f) (r_stack_x N _ k1.1.2.2 n40 f)
end
