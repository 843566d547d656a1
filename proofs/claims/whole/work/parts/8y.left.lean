/-! matched, left -/
def mdV (a : Nat → Nat → Int) (nB L b w : Nat) (v : Int32) : Prop := if w = 0 then v = liO a L nB b else (sureP a L nB b → v = n3 2) ∧ (¬ sureP a L nB b → v = n3 1)
theorem mdV_eq {a : Nat → Nat → Int} {nB L b w : Nat} {v v' : Int32} (h : mdV a nB L b w v) (g : mdV a nB L b w v') : v = v' := by
  unfold mdV at h g
  by_cases c : w = 0
  · rw [if_pos c] at h g; rw [h, g]
  · rw [if_neg c] at h g
    by_cases s : sureP a L nB b
    · rw [h.1 s, g.1 s]
    · rw [h.2 s, g.2 s]
def leV (a : Nat → Nat → Int) (nB L mk w : Nat) : Int32 := if w = 1 then n3 (mk + L) - n3 (pcw 13 (gvS a L nB nB)) else if pcw 13 (gvS a L nB nB) = 0 then -n3 1 else n3 (mk * L) / n3 (pcw 13 (gvS a L nB nB))
section
variable (N : Nat) (κ : hk_T)
theorem c_matched {a : Nat → Nat → Int} {nB L b w : Nat} {κ1 : hk_T} (hB : hk_I κ 1 13 = n3 nB) (h40 : nB ≤ 40) (hw : fX3_weighAll N 40 (hp κ) = some (hp κ1)) (ho : mOut κ1 a nB L) (hb : b < nB) (h : w ≤ 1) : ∃ v, fX11_matched N 0 (n3 b) (n3 w) (hp κ) = some (v, hp κ1) ∧ mdV a nB L b w v := by
  obtain ⟨o1, o2, o3, o4, o5⟩ := ho
  have hv : vIn 0 (nB - 1) (n3 b) = true := by rw [vIn_iff, n3_toInt (by omega)]; omega
  have l59 := o4 b hb
  obtain ⟨s1, s2⟩ := o5 b hb
  have c0 : ¬ w < 0 := by omega
  unfold mdV
  by_cases c : w = 0
  · subst c
    refine ⟨liO a L nB b, ?_, by rw [if_pos rfl]⟩
    simp (maxSteps := 400000) (disch := omega) only [n3_l, n3_add, n3_mul, n3_sub, n3_subn, n3_lt, n3_le, n3_eq, n3_eqn, n3_neq, n3_and, n3_or, n3_shl, n3_i, n3_cl, ↓hbd_0, ↓hbd_1, ↓hbd_2, hk_ob_0, hk_rd_0, hk_rd_1, hk_rd_2, hk_al_0, hk_al_1, h3r_0, h3r_1, hk_wi_0, hk_wj_0, h3w_0, h3w_1, h3v_0, hk_kI, hk_kJ, hk_kA, hk_kB, A_eq, A_ne, A_row, B_eq, B_ne, B_row, I_eq, I_ne, J_eq, J_ne, Option.bind_some, Option.some.injEq, if_true, if_false, eq_self, true_or, or_true, true_and, and_true, false_or, or_false, not_true_eq_false, not_false_eq_true, Classical.not_not, nar_b0, nar_b1, rz_0, rz_1, rz_i, ite01, Nat.add_zero, Nat.zero_add, Nat.one_mul, mul12, reduceIte, ra_z0, Nat.reduceEqDiff, Nat.reduceLT, Nat.reduceLeDiff, Nat.reduceAdd, Nat.reduceMul, Nat.reduceSub, Nat.reduceDiv, Nat.reduceMod, Bool.false_eq_true, false_and, and_false, reduceCtorEq, fX11_matched, nX11_matched_20, nX11_matched_60, nX11_matched_0, c_hasBook N κ hB h40, hv, hw, l59]
  · by_cases s : sureP a L nB b
    · refine ⟨n3 2, ?_, by rw [if_neg c]; exact ⟨fun _ => rfl, fun z => absurd s z⟩⟩
      simp (maxSteps := 400000) (disch := omega) only [n3_l, n3_add, n3_mul, n3_sub, n3_subn, n3_lt, n3_le, n3_eq, n3_eqn, n3_neq, n3_and, n3_or, n3_shl, n3_i, n3_cl, ↓hbd_0, ↓hbd_1, ↓hbd_2, hk_ob_0, hk_rd_0, hk_rd_1, hk_rd_2, hk_al_0, hk_al_1, h3r_0, h3r_1, hk_wi_0, hk_wj_0, h3w_0, h3w_1, h3v_0, hk_kI, hk_kJ, hk_kA, hk_kB, A_eq, A_ne, A_row, B_eq, B_ne, B_row, I_eq, I_ne, J_eq, J_ne, Option.bind_some, Option.some.injEq, if_true, if_false, eq_self, true_or, or_true, true_and, and_true, false_or, or_false, not_true_eq_false, not_false_eq_true, Classical.not_not, nar_b0, nar_b1, rz_0, rz_1, rz_i, ite01, Nat.add_zero, Nat.zero_add, Nat.one_mul, mul12, reduceIte, ra_z0, Nat.reduceEqDiff, Nat.reduceLT, Nat.reduceLeDiff, Nat.reduceAdd, Nat.reduceMul, Nat.reduceSub, Nat.reduceDiv, Nat.reduceMod, Bool.false_eq_true, false_and, and_false, reduceCtorEq, fX11_matched, nX11_matched_20, nX11_matched_60, nX11_matched_0, c_hasBook N κ hB h40, hv, hw, s1 s, c, c0, h]
    · refine ⟨n3 1, ?_, by rw [if_neg c]; exact ⟨fun z => absurd z s, fun _ => rfl⟩⟩
      simp (maxSteps := 400000) (disch := omega) only [n3_l, n3_add, n3_mul, n3_sub, n3_subn, n3_lt, n3_le, n3_eq, n3_eqn, n3_neq, n3_and, n3_or, n3_shl, n3_i, n3_cl, ↓hbd_0, ↓hbd_1, ↓hbd_2, hk_ob_0, hk_rd_0, hk_rd_1, hk_rd_2, hk_al_0, hk_al_1, h3r_0, h3r_1, hk_wi_0, hk_wj_0, h3w_0, h3w_1, h3v_0, hk_kI, hk_kJ, hk_kA, hk_kB, A_eq, A_ne, A_row, B_eq, B_ne, B_row, I_eq, I_ne, J_eq, J_ne, Option.bind_some, Option.some.injEq, if_true, if_false, eq_self, true_or, or_true, true_and, and_true, false_or, or_false, not_true_eq_false, not_false_eq_true, Classical.not_not, nar_b0, nar_b1, rz_0, rz_1, rz_i, ite01, Nat.add_zero, Nat.zero_add, Nat.one_mul, mul12, reduceIte, ra_z0, Nat.reduceEqDiff, Nat.reduceLT, Nat.reduceLeDiff, Nat.reduceAdd, Nat.reduceMul, Nat.reduceSub, Nat.reduceDiv, Nat.reduceMod, Bool.false_eq_true, false_and, and_false, reduceCtorEq, fX11_matched, nX11_matched_20, nX11_matched_60, nX11_matched_0, c_hasBook N κ hB h40, hv, hw, s2 s, c, c0, h]
theorem c_matched_x {nB : Nat} {b w : Int32} (hB : hk_I κ 1 13 = n3 nB) (h40 : nB ≤ 40) (h : ¬ (vIn 0 (nB - 1) b = true ∧ vIn 0 1 w = true)) : fX11_matched N 0 b w (hp κ) = some (-n3 1, hp κ) := by
  by_cases hv : vIn 0 (nB - 1) b = true
  · have h2 : ¬ vIn 0 1 w = true := fun z => h ⟨hv, z⟩
    rw [vIn_iff] at h2
    by_cases c : w < n3 0
    · simp (maxSteps := 400000) (disch := omega) only [n3_l, n3_add, n3_mul, n3_sub, n3_subn, n3_lt, n3_le, n3_eq, n3_eqn, n3_neq, n3_and, n3_or, n3_shl, n3_i, n3_cl, ↓hbd_0, ↓hbd_1, ↓hbd_2, hk_ob_0, hk_rd_0, hk_rd_1, hk_rd_2, hk_al_0, hk_al_1, h3r_0, h3r_1, hk_wi_0, hk_wj_0, h3w_0, h3w_1, h3v_0, hk_kI, hk_kJ, hk_kA, hk_kB, A_eq, A_ne, A_row, B_eq, B_ne, B_row, I_eq, I_ne, J_eq, J_ne, Option.bind_some, Option.some.injEq, if_true, if_false, eq_self, true_or, or_true, true_and, and_true, false_or, or_false, not_true_eq_false, not_false_eq_true, Classical.not_not, nar_b0, nar_b1, rz_0, rz_1, rz_i, ite01, Nat.add_zero, Nat.zero_add, Nat.one_mul, mul12, reduceIte, ra_z0, Nat.reduceEqDiff, Nat.reduceLT, Nat.reduceLeDiff, Nat.reduceAdd, Nat.reduceMul, Nat.reduceSub, Nat.reduceDiv, Nat.reduceMod, Bool.false_eq_true, false_and, and_false, reduceCtorEq, fX11_matched, nX11_matched_20, nX11_matched_60, nX11_matched_0, c_hasBook N κ hB h40, hv, c]
    · have c2 : ¬ w ≤ n3 1 := by
        rw [i_lt, n3_toInt (by omega)] at c
        rw [i_le, n3_toInt (by omega)]
        omega
      simp (maxSteps := 400000) (disch := omega) only [n3_l, n3_add, n3_mul, n3_sub, n3_subn, n3_lt, n3_le, n3_eq, n3_eqn, n3_neq, n3_and, n3_or, n3_shl, n3_i, n3_cl, ↓hbd_0, ↓hbd_1, ↓hbd_2, hk_ob_0, hk_rd_0, hk_rd_1, hk_rd_2, hk_al_0, hk_al_1, h3r_0, h3r_1, hk_wi_0, hk_wj_0, h3w_0, h3w_1, h3v_0, hk_kI, hk_kJ, hk_kA, hk_kB, A_eq, A_ne, A_row, B_eq, B_ne, B_row, I_eq, I_ne, J_eq, J_ne, Option.bind_some, Option.some.injEq, if_true, if_false, eq_self, true_or, or_true, true_and, and_true, false_or, or_false, not_true_eq_false, not_false_eq_true, Classical.not_not, nar_b0, nar_b1, rz_0, rz_1, rz_i, ite01, Nat.add_zero, Nat.zero_add, Nat.one_mul, mul12, reduceIte, ra_z0, Nat.reduceEqDiff, Nat.reduceLT, Nat.reduceLeDiff, Nat.reduceAdd, Nat.reduceMul, Nat.reduceSub, Nat.reduceDiv, Nat.reduceMod, Bool.false_eq_true, false_and, and_false, reduceCtorEq, fX11_matched, nX11_matched_20, nX11_matched_60, nX11_matched_0, c_hasBook N κ hB h40, hv, c, c2]
  · simp (maxSteps := 400000) (disch := omega) only [n3_l, n3_add, n3_mul, n3_sub, n3_subn, n3_lt, n3_le, n3_eq, n3_eqn, n3_neq, n3_and, n3_or, n3_shl, n3_i, n3_cl, ↓hbd_0, ↓hbd_1, ↓hbd_2, hk_ob_0, hk_rd_0, hk_rd_1, hk_rd_2, hk_al_0, hk_al_1, h3r_0, h3r_1, hk_wi_0, hk_wj_0, h3w_0, h3w_1, h3v_0, hk_kI, hk_kJ, hk_kA, hk_kB, A_eq, A_ne, A_row, B_eq, B_ne, B_row, I_eq, I_ne, J_eq, J_ne, Option.bind_some, Option.some.injEq, if_true, if_false, eq_self, true_or, or_true, true_and, and_true, false_or, or_false, not_true_eq_false, not_false_eq_true, Classical.not_not, nar_b0, nar_b1, rz_0, rz_1, rz_i, ite01, Nat.add_zero, Nat.zero_add, Nat.one_mul, mul12, reduceIte, ra_z0, Nat.reduceEqDiff, Nat.reduceLT, Nat.reduceLeDiff, Nat.reduceAdd, Nat.reduceMul, Nat.reduceSub, Nat.reduceDiv, Nat.reduceMod, Bool.false_eq_true, false_and, and_false, reduceCtorEq, fX11_matched, nX11_matched_20, nX11_matched_60, nX11_matched_0, c_hasBook N κ hB h40, hv]
theorem r_matched {nB L b w : Nat} (ok : raOk (hk_A κ 71) nB L) (hb : b < nB) (h : w ≤ 1) (hN : 10000 < N) : ∃ v κ', fX12_matched N 69 (n3 b) (n3 w) (hp κ) = some (v, hp κ') ∧ mdV (agR (hk_A κ 71)) nB L b w v ∧ same [90, 91, 92, 93, 94, 95, 96] [(69, 0)] κ κ' := by
  obtain ⟨κ', e, s, t1, t2, t3⟩ := r_matchAll N (hk_wI κ 69 0 (n3 0)) (nB := nB) (L := L) ok hN
  have e71 : hk_A κ' 71 = hk_A κ 71 := s.1 71 (by decide)
  have ss : same [90, 91, 92, 93, 94, 95, 96] [(69, 0)] κ κ' := ((same.refl _ _ _).wI (by decide)).trans (s.weak (by decide) (by decide))
  obtain ⟨o1, o2, o3, o4, -⟩ := ok
  have hv : vIn 0 (nB - 1) (n3 b) = true := by rw [vIn_iff, n3_toInt (by omega)]; omega
  have hw : vIn 0 1 (n3 w) = true := vIn_n3 (lo := 0) (hi := 1) (by omega) h (by omega)
  obtain ⟨u1, u2⟩ := t3 b hb
  have e71' : hk_A (hk_wI κ 69 0 (n3 0)) 71 = hk_A κ 71 := rfl
  rw [e71'] at u1 u2
  have o1' : hk_A (hk_wI κ 69 0 (n3 0)) 71 480 = n3 nB := o1
  have r482 : hk_A κ' 71 482 = n3 L := by rw [e71]; exact o2
  have ib := r_isBook N (hk_wI κ 69 0 (n3 0)) o1' o3 (n3 b)
  have il := (its_is (agR (hk_A κ 71)) L nB b).1
  unfold mdV
  unfold fX12_matched nX12_matched_0
  by_cases c : w = 1
  · subst c
    by_cases s : sureP (agR (hk_A κ 71)) L nB b
    · refine ⟨n3 2, κ', ?_, by rw [if_neg (by decide)]; exact ⟨fun _ => rfl, fun z => absurd s z⟩, ss⟩
      simp (maxSteps := 400000) (disch := omega) only [n3_l, n3_add, n3_mul, n3_sub, n3_subn, n3_lt, n3_le, n3_eq, n3_eqn, n3_neq, n3_and, n3_or, n3_shl, n3_i, n3_cl, ↓hbd_0, ↓hbd_1, ↓hbd_2, hk_ob_0, hk_rd_0, hk_rd_1, hk_rd_2, hk_al_0, hk_al_1, h3r_0, h3r_1, hk_wi_0, hk_wj_0, h3w_0, h3w_1, h3v_0, hk_kI, hk_kJ, hk_kA, hk_kB, A_eq, A_ne, A_row, B_eq, B_ne, B_row, I_eq, I_ne, J_eq, J_ne, Option.bind_some, Option.some.injEq, if_true, if_false, eq_self, true_or, or_true, true_and, and_true, false_or, or_false, not_true_eq_false, not_false_eq_true, Classical.not_not, nar_b0, nar_b1, rz_0, rz_1, rz_i, ite01, Nat.add_zero, Nat.zero_add, Nat.one_mul, mul12, reduceIte, ra_z0, Nat.reduceEqDiff, Nat.reduceLT, Nat.reduceLeDiff, Nat.reduceAdd, Nat.reduceMul, Nat.reduceSub, Nat.reduceDiv, Nat.reduceMod, Bool.false_eq_true, false_and, and_false, reduceCtorEq, ib, hv, r_in32, j_l, hw, e, u1.1 s, nX12_matched_78]
    · refine ⟨n3 1, κ', ?_, by rw [if_neg (by decide)]; exact ⟨fun z => absurd z s, fun _ => rfl⟩, ss⟩
      simp (maxSteps := 400000) (disch := omega) only [n3_l, n3_add, n3_mul, n3_sub, n3_subn, n3_lt, n3_le, n3_eq, n3_eqn, n3_neq, n3_and, n3_or, n3_shl, n3_i, n3_cl, ↓hbd_0, ↓hbd_1, ↓hbd_2, hk_ob_0, hk_rd_0, hk_rd_1, hk_rd_2, hk_al_0, hk_al_1, h3r_0, h3r_1, hk_wi_0, hk_wj_0, h3w_0, h3w_1, h3v_0, hk_kI, hk_kJ, hk_kA, hk_kB, A_eq, A_ne, A_row, B_eq, B_ne, B_row, I_eq, I_ne, J_eq, J_ne, Option.bind_some, Option.some.injEq, if_true, if_false, eq_self, true_or, or_true, true_and, and_true, false_or, or_false, not_true_eq_false, not_false_eq_true, Classical.not_not, nar_b0, nar_b1, rz_0, rz_1, rz_i, ite01, Nat.add_zero, Nat.zero_add, Nat.one_mul, mul12, reduceIte, ra_z0, Nat.reduceEqDiff, Nat.reduceLT, Nat.reduceLeDiff, Nat.reduceAdd, Nat.reduceMul, Nat.reduceSub, Nat.reduceDiv, Nat.reduceMod, Bool.false_eq_true, false_and, and_false, reduceCtorEq, ib, hv, r_in32, j_l, hw, e, u1.2 s, nX12_matched_78]
  · have c0 : w = 0 := by omega
    subst c0
    refine ⟨liO (agR (hk_A κ 71)) L nB b, κ', ?_, by rw [if_pos rfl], ss⟩
    unfold liO
    by_cases cl : its (agR (hk_A κ 71)) L nB b < L
    · have cl2 : ¬ its (agR (hk_A κ 71)) L nB b = L := by omega
      rw [if_pos cl]
      simp (maxSteps := 400000) (disch := omega) only [n3_l, n3_add, n3_mul, n3_sub, n3_subn, n3_lt, n3_le, n3_eq, n3_eqn, n3_neq, n3_and, n3_or, n3_shl, n3_i, n3_cl, ↓hbd_0, ↓hbd_1, ↓hbd_2, hk_ob_0, hk_rd_0, hk_rd_1, hk_rd_2, hk_al_0, hk_al_1, h3r_0, h3r_1, hk_wi_0, hk_wj_0, h3w_0, h3w_1, h3v_0, hk_kI, hk_kJ, hk_kA, hk_kB, A_eq, A_ne, A_row, B_eq, B_ne, B_row, I_eq, I_ne, J_eq, J_ne, Option.bind_some, Option.some.injEq, if_true, if_false, eq_self, true_or, or_true, true_and, and_true, false_or, or_false, not_true_eq_false, not_false_eq_true, Classical.not_not, nar_b0, nar_b1, rz_0, rz_1, rz_i, ite01, Nat.add_zero, Nat.zero_add, Nat.one_mul, mul12, reduceIte, ra_z0, Nat.reduceEqDiff, Nat.reduceLT, Nat.reduceLeDiff, Nat.reduceAdd, Nat.reduceMul, Nat.reduceSub, Nat.reduceDiv, Nat.reduceMod, Bool.false_eq_true, false_and, and_false, reduceCtorEq, ib, hv, r_in32, j_l, hw, e, u2, r482, cl2, nX12_matched_78]
    · have cl2 : its (agR (hk_A κ 71)) L nB b = L := by omega
      rw [if_neg cl]
      rw [cl2] at u2
      simp (maxSteps := 400000) (disch := omega) only [n3_l, n3_add, n3_mul, n3_sub, n3_subn, n3_lt, n3_le, n3_eq, n3_eqn, n3_neq, n3_and, n3_or, n3_shl, n3_i, n3_cl, ↓hbd_0, ↓hbd_1, ↓hbd_2, hk_ob_0, hk_rd_0, hk_rd_1, hk_rd_2, hk_al_0, hk_al_1, h3r_0, h3r_1, hk_wi_0, hk_wj_0, h3w_0, h3w_1, h3v_0, hk_kI, hk_kJ, hk_kA, hk_kB, A_eq, A_ne, A_row, B_eq, B_ne, B_row, I_eq, I_ne, J_eq, J_ne, Option.bind_some, Option.some.injEq, if_true, if_false, eq_self, true_or, or_true, true_and, and_true, false_or, or_false, not_true_eq_false, not_false_eq_true, Classical.not_not, nar_b0, nar_b1, rz_0, rz_1, rz_i, ite01, Nat.add_zero, Nat.zero_add, Nat.one_mul, mul12, reduceIte, ra_z0, Nat.reduceEqDiff, Nat.reduceLT, Nat.reduceLeDiff, Nat.reduceAdd, Nat.reduceMul, Nat.reduceSub, Nat.reduceDiv, Nat.reduceMod, Bool.false_eq_true, false_and, and_false, reduceCtorEq, ib, hv, r_in32, j_l, hw, e, u2, r482, nX12_matched_78]
theorem r_matched_x {nB : Nat} {b w : Int32} (hB : hk_A κ 71 480 = n3 nB) (h40 : nB ≤ 40) (h : ¬ (vIn 0 (nB - 1) b = true ∧ vIn 0 1 w = true)) : fX12_matched N 69 b w (hp κ) = some (-n3 1, hp (hk_wI κ 69 0 (n3 0))) := by
  have ib := r_isBook N (hk_wI κ 69 0 (n3 0)) hB h40 b
  unfold fX12_matched nX12_matched_0
  by_cases hv : vIn 0 (nB - 1) b = true
  · have h2 : ¬ vIn 0 1 w = true := fun z => h ⟨hv, z⟩
    simp (maxSteps := 400000) (disch := omega) only [n3_l, n3_add, n3_mul, n3_sub, n3_subn, n3_lt, n3_le, n3_eq, n3_eqn, n3_neq, n3_and, n3_or, n3_shl, n3_i, n3_cl, ↓hbd_0, ↓hbd_1, ↓hbd_2, hk_ob_0, hk_rd_0, hk_rd_1, hk_rd_2, hk_al_0, hk_al_1, h3r_0, h3r_1, hk_wi_0, hk_wj_0, h3w_0, h3w_1, h3v_0, hk_kI, hk_kJ, hk_kA, hk_kB, A_eq, A_ne, A_row, B_eq, B_ne, B_row, I_eq, I_ne, J_eq, J_ne, Option.bind_some, Option.some.injEq, if_true, if_false, eq_self, true_or, or_true, true_and, and_true, false_or, or_false, not_true_eq_false, not_false_eq_true, Classical.not_not, nar_b0, nar_b1, rz_0, rz_1, rz_i, ite01, Nat.add_zero, Nat.zero_add, Nat.one_mul, mul12, reduceIte, ra_z0, Nat.reduceEqDiff, Nat.reduceLT, Nat.reduceLeDiff, Nat.reduceAdd, Nat.reduceMul, Nat.reduceSub, Nat.reduceDiv, Nat.reduceMod, Bool.false_eq_true, false_and, and_false, reduceCtorEq, ib, hv, r_in32, j_l, h2, nX12_matched_23]
  · simp (maxSteps := 400000) (disch := omega) only [n3_l, n3_add, n3_mul, n3_sub, n3_subn, n3_lt, n3_le, n3_eq, n3_eqn, n3_neq, n3_and, n3_or, n3_shl, n3_i, n3_cl, ↓hbd_0, ↓hbd_1, ↓hbd_2, hk_ob_0, hk_rd_0, hk_rd_1, hk_rd_2, hk_al_0, hk_al_1, h3r_0, h3r_1, hk_wi_0, hk_wj_0, h3w_0, h3w_1, h3v_0, hk_kI, hk_kJ, hk_kA, hk_kB, A_eq, A_ne, A_row, B_eq, B_ne, B_row, I_eq, I_ne, J_eq, J_ne, Option.bind_some, Option.some.injEq, if_true, if_false, eq_self, true_or, or_true, true_and, and_true, false_or, or_false, not_true_eq_false, not_false_eq_true, Classical.not_not, nar_b0, nar_b1, rz_0, rz_1, rz_i, ite01, Nat.add_zero, Nat.zero_add, Nat.one_mul, mul12, reduceIte, ra_z0, Nat.reduceEqDiff, Nat.reduceLT, Nat.reduceLeDiff, Nat.reduceAdd, Nat.reduceMul, Nat.reduceSub, Nat.reduceDiv, Nat.reduceMod, Bool.false_eq_true, false_and, and_false, reduceCtorEq, ib, hv, nX12_matched_23]
theorem c_left {a : Nat → Nat → Int} {nB L w : Nat} {κ1 : hk_T} (hB : hk_I κ1 1 13 = n3 nB) (hL : hk_I κ1 1 15 = n3 L) (h40 : nB ≤ 40) (h12 : L ≤ 12) (hw : fX3_weighAll N 40 (hp κ) = some (hp κ1)) (ho : mOut κ1 a nB L) (h : w ≤ 1) (hN : 1000 < N) : fX11_left N 0 (n3 w) (hp κ) = some (leV a nB L (cnt (fun b => ¬ hk_A κ1 2 (12 * b) = -n3 1) nB) w, hp κ1) := by
  obtain ⟨o1, o2, o3, o4, o5⟩ := ho
  have bc := f_bitCount N (hp κ1) (gv_8192 (a := a) (nB := nB) h12)
  have mk := h_markedCount N κ1 hB h40 hN
  rw [marked_cnt] at mk
  have c0 : ¬ w < 0 := by omega
  have pl := pcw_le 13 (gvS a L nB nB)
  unfold leV
  by_cases c : w = 1
  · subst c
    rw [if_pos rfl]
    unfold fX11_left nX11_left_0
    simp (disch := omega) only [n3_l, n3_lt, n3_le, hw, o3, bc, mk, hL, hk_ob_0, hk_rd_0, hk_rd_1, hk_rd_2, Option.bind_some, if_true, if_false, Nat.not_lt_zero, Nat.le_refl, n3_add, Nat.reduceLT, Nat.reduceLeDiff]
  · rw [if_neg c]
    by_cases cp : pcw 13 (gvS a L nB nB) = 0
    · rw [if_pos cp]
      rw [cp] at bc
      simp (maxSteps := 400000) (disch := omega) only [n3_l, n3_add, n3_mul, n3_sub, n3_subn, n3_lt, n3_le, n3_eq, n3_eqn, n3_neq, n3_and, n3_or, n3_shl, n3_i, n3_cl, ↓hbd_0, ↓hbd_1, ↓hbd_2, hk_ob_0, hk_rd_0, hk_rd_1, hk_rd_2, hk_al_0, hk_al_1, h3r_0, h3r_1, hk_wi_0, hk_wj_0, h3w_0, h3w_1, h3v_0, hk_kI, hk_kJ, hk_kA, hk_kB, A_eq, A_ne, A_row, B_eq, B_ne, B_row, I_eq, I_ne, J_eq, J_ne, Option.bind_some, Option.some.injEq, if_true, if_false, eq_self, true_or, or_true, true_and, and_true, false_or, or_false, not_true_eq_false, not_false_eq_true, Classical.not_not, nar_b0, nar_b1, rz_0, rz_1, rz_i, ite01, Nat.add_zero, Nat.zero_add, Nat.one_mul, mul12, reduceIte, ra_z0, Nat.reduceEqDiff, Nat.reduceLT, Nat.reduceLeDiff, Nat.reduceAdd, Nat.reduceMul, Nat.reduceSub, Nat.reduceDiv, Nat.reduceMod, Bool.false_eq_true, false_and, and_false, reduceCtorEq, fX11_left, nX11_left_9, nX11_left_73, nX11_left_0, hw, o3, bc, mk, hL, c, c0, h]
    · rw [if_neg cp]
      simp (maxSteps := 400000) (disch := omega) only [n3_l, n3_add, n3_mul, n3_sub, n3_subn, n3_lt, n3_le, n3_eq, n3_eqn, n3_neq, n3_and, n3_or, n3_shl, n3_i, n3_cl, ↓hbd_0, ↓hbd_1, ↓hbd_2, hk_ob_0, hk_rd_0, hk_rd_1, hk_rd_2, hk_al_0, hk_al_1, h3r_0, h3r_1, hk_wi_0, hk_wj_0, h3w_0, h3w_1, h3v_0, hk_kI, hk_kJ, hk_kA, hk_kB, A_eq, A_ne, A_row, B_eq, B_ne, B_row, I_eq, I_ne, J_eq, J_ne, Option.bind_some, Option.some.injEq, if_true, if_false, eq_self, true_or, or_true, true_and, and_true, false_or, or_false, not_true_eq_false, not_false_eq_true, Classical.not_not, nar_b0, nar_b1, rz_0, rz_1, rz_i, ite01, Nat.add_zero, Nat.zero_add, Nat.one_mul, mul12, reduceIte, ra_z0, Nat.reduceEqDiff, Nat.reduceLT, Nat.reduceLeDiff, Nat.reduceAdd, Nat.reduceMul, Nat.reduceSub, Nat.reduceDiv, Nat.reduceMod, Bool.false_eq_true, false_and, and_false, reduceCtorEq, fX11_left, nX11_left_9, nX11_left_73, nX11_left_0, hw, o3, bc, mk, hL, c, c0, h, cp]
theorem c_left_x {x : Int32} (h : ¬ vIn 0 1 x = true) : fX11_left N 0 x (hp κ) = some (-n3 1, hp κ) := by
  rw [vIn_iff] at h
  by_cases c : x < n3 0
  · simp (maxSteps := 400000) (disch := omega) only [n3_l, n3_add, n3_mul, n3_sub, n3_subn, n3_lt, n3_le, n3_eq, n3_eqn, n3_neq, n3_and, n3_or, n3_shl, n3_i, n3_cl, ↓hbd_0, ↓hbd_1, ↓hbd_2, hk_ob_0, hk_rd_0, hk_rd_1, hk_rd_2, hk_al_0, hk_al_1, h3r_0, h3r_1, hk_wi_0, hk_wj_0, h3w_0, h3w_1, h3v_0, hk_kI, hk_kJ, hk_kA, hk_kB, A_eq, A_ne, A_row, B_eq, B_ne, B_row, I_eq, I_ne, J_eq, J_ne, Option.bind_some, Option.some.injEq, if_true, if_false, eq_self, true_or, or_true, true_and, and_true, false_or, or_false, not_true_eq_false, not_false_eq_true, Classical.not_not, nar_b0, nar_b1, rz_0, rz_1, rz_i, ite01, Nat.add_zero, Nat.zero_add, Nat.one_mul, mul12, reduceIte, ra_z0, Nat.reduceEqDiff, Nat.reduceLT, Nat.reduceLeDiff, Nat.reduceAdd, Nat.reduceMul, Nat.reduceSub, Nat.reduceDiv, Nat.reduceMod, Bool.false_eq_true, false_and, and_false, reduceCtorEq, fX11_left, nX11_left_9, nX11_left_73, nX11_left_0, c]
  · have c2 : ¬ x ≤ n3 1 := by
      rw [i_lt, n3_toInt (by omega)] at c
      rw [i_le, n3_toInt (by omega)]
      omega
    simp (maxSteps := 400000) (disch := omega) only [n3_l, n3_add, n3_mul, n3_sub, n3_subn, n3_lt, n3_le, n3_eq, n3_eqn, n3_neq, n3_and, n3_or, n3_shl, n3_i, n3_cl, ↓hbd_0, ↓hbd_1, ↓hbd_2, hk_ob_0, hk_rd_0, hk_rd_1, hk_rd_2, hk_al_0, hk_al_1, h3r_0, h3r_1, hk_wi_0, hk_wj_0, h3w_0, h3w_1, h3v_0, hk_kI, hk_kJ, hk_kA, hk_kB, A_eq, A_ne, A_row, B_eq, B_ne, B_row, I_eq, I_ne, J_eq, J_ne, Option.bind_some, Option.some.injEq, if_true, if_false, eq_self, true_or, or_true, true_and, and_true, false_or, or_false, not_true_eq_false, not_false_eq_true, Classical.not_not, nar_b0, nar_b1, rz_0, rz_1, rz_i, ite01, Nat.add_zero, Nat.zero_add, Nat.one_mul, mul12, reduceIte, ra_z0, Nat.reduceEqDiff, Nat.reduceLT, Nat.reduceLeDiff, Nat.reduceAdd, Nat.reduceMul, Nat.reduceSub, Nat.reduceDiv, Nat.reduceMod, Bool.false_eq_true, false_and, and_false, reduceCtorEq, fX11_left, nX11_left_9, nX11_left_73, nX11_left_0, c, c2]
theorem r_left {nB L w : Nat} (ok : raOk (hk_A κ 71) nB L) (h : w ≤ 1) (hN : 10000 < N) : ∃ κ', fX12_left N 69 (n3 w) (hp κ) = some (leV (agR (hk_A κ 71)) nB L (cnt (fun b => ¬ hk_A κ 71 (12 * b) = -n3 1) nB) w, hp κ') ∧ same [90, 91, 92, 93, 94, 95, 96] [(69, 0)] κ κ' := by
  obtain ⟨κ', e, s, t1, t2, t3⟩ := r_matchAll N (hk_wI κ 69 0 (n3 0)) (nB := nB) (L := L) ok hN
  have e71 : hk_A κ' 71 = hk_A κ 71 := s.1 71 (by decide)
  have ss : same [90, 91, 92, 93, 94, 95, 96] [(69, 0)] κ κ' := ((same.refl _ _ _).wI (by decide)).trans (s.weak (by decide) (by decide))
  obtain ⟨o1, o2, o3, o4, -⟩ := ok
  have ml := r_matchedLines N κ' (by rw [e71]; exact o1) (by rw [e71]; exact o2) o3 o4 (fun b hb => (t3 b hb).2) (by omega)
  have mk := r_marked N κ' (by rw [e71]; exact o1) o3 (by omega)
  have r482 : hk_A κ' 71 482 = n3 L := by rw [e71]; exact o2
  have e71' : agR (hk_A (hk_wI κ 69 0 (n3 0)) 71) = agR (hk_A κ 71) := rfl
  rw [e71] at mk
  rw [e71'] at ml
  have hv : vIn 0 1 (n3 w) = true := vIn_n3 (lo := 0) (hi := 1) (by omega) h (by omega)
  have pl := pcw_le 13 (gvS (agR (hk_A κ 71)) L nB nB)
  refine ⟨κ', ?_, ss⟩
  unfold leV
  unfold fX12_left nX12_left_0
  by_cases c : w = 1
  · subst c
    rw [if_pos rfl]
    have n10 : ¬ n3 1 = n3 0 := by decide
    simp (disch := omega) only [n3_l, hk_ob_0, hk_rd_0, hk_rd_1, hk_rd_2, hk_wi_0, h3r_0, h3r_1, Option.bind_some, if_true, if_false, r_in32, j_l, hv, e, ml, mk, r482, n10, n3_add, ra_z0]
  · rw [if_neg c]
    by_cases cp : pcw 13 (gvS (agR (hk_A κ 71)) L nB nB) = 0
    · rw [if_pos cp]
      rw [cp] at ml
      simp (maxSteps := 400000) (disch := omega) only [n3_l, n3_add, n3_mul, n3_sub, n3_subn, n3_lt, n3_le, n3_eq, n3_eqn, n3_neq, n3_and, n3_or, n3_shl, n3_i, n3_cl, ↓hbd_0, ↓hbd_1, ↓hbd_2, hk_ob_0, hk_rd_0, hk_rd_1, hk_rd_2, hk_al_0, hk_al_1, h3r_0, h3r_1, hk_wi_0, hk_wj_0, h3w_0, h3w_1, h3v_0, hk_kI, hk_kJ, hk_kA, hk_kB, A_eq, A_ne, A_row, B_eq, B_ne, B_row, I_eq, I_ne, J_eq, J_ne, Option.bind_some, Option.some.injEq, if_true, if_false, eq_self, true_or, or_true, true_and, and_true, false_or, or_false, not_true_eq_false, not_false_eq_true, Classical.not_not, nar_b0, nar_b1, rz_0, rz_1, rz_i, ite01, Nat.add_zero, Nat.zero_add, Nat.one_mul, mul12, reduceIte, ra_z0, Nat.reduceEqDiff, Nat.reduceLT, Nat.reduceLeDiff, Nat.reduceAdd, Nat.reduceMul, Nat.reduceSub, Nat.reduceDiv, Nat.reduceMod, Bool.false_eq_true, false_and, and_false, reduceCtorEq, r_in32, j_l, hv, e, ml, c, nX12_left_70]
    · rw [if_neg cp]
      simp (maxSteps := 400000) (disch := omega) only [n3_l, n3_add, n3_mul, n3_sub, n3_subn, n3_lt, n3_le, n3_eq, n3_eqn, n3_neq, n3_and, n3_or, n3_shl, n3_i, n3_cl, ↓hbd_0, ↓hbd_1, ↓hbd_2, hk_ob_0, hk_rd_0, hk_rd_1, hk_rd_2, hk_al_0, hk_al_1, h3r_0, h3r_1, hk_wi_0, hk_wj_0, h3w_0, h3w_1, h3v_0, hk_kI, hk_kJ, hk_kA, hk_kB, A_eq, A_ne, A_row, B_eq, B_ne, B_row, I_eq, I_ne, J_eq, J_ne, Option.bind_some, Option.some.injEq, if_true, if_false, eq_self, true_or, or_true, true_and, and_true, false_or, or_false, not_true_eq_false, not_false_eq_true, Classical.not_not, nar_b0, nar_b1, rz_0, rz_1, rz_i, ite01, Nat.add_zero, Nat.zero_add, Nat.one_mul, mul12, reduceIte, ra_z0, Nat.reduceEqDiff, Nat.reduceLT, Nat.reduceLeDiff, Nat.reduceAdd, Nat.reduceMul, Nat.reduceSub, Nat.reduceDiv, Nat.reduceMod, Bool.false_eq_true, false_and, and_false, reduceCtorEq, r_in32, j_l, hv, e, ml, mk, r482, c, cp, nX12_left_70]
theorem r_left_x {x : Int32} (h : ¬ vIn 0 1 x = true) : fX12_left N 69 x (hp κ) = some (-n3 1, hp (hk_wI κ 69 0 (n3 0))) := by
  unfold fX12_left nX12_left_0
  simp (maxSteps := 400000) (disch := omega) only [n3_l, n3_add, n3_mul, n3_sub, n3_subn, n3_lt, n3_le, n3_eq, n3_eqn, n3_neq, n3_and, n3_or, n3_shl, n3_i, n3_cl, ↓hbd_0, ↓hbd_1, ↓hbd_2, hk_ob_0, hk_rd_0, hk_rd_1, hk_rd_2, hk_al_0, hk_al_1, h3r_0, h3r_1, hk_wi_0, hk_wj_0, h3w_0, h3w_1, h3v_0, hk_kI, hk_kJ, hk_kA, hk_kB, A_eq, A_ne, A_row, B_eq, B_ne, B_row, I_eq, I_ne, J_eq, J_ne, Option.bind_some, Option.some.injEq, if_true, if_false, eq_self, true_or, or_true, true_and, and_true, false_or, or_false, not_true_eq_false, not_false_eq_true, Classical.not_not, nar_b0, nar_b1, rz_0, rz_1, rz_i, ite01, Nat.add_zero, Nat.zero_add, Nat.one_mul, mul12, reduceIte, ra_z0, Nat.reduceEqDiff, Nat.reduceLT, Nat.reduceLeDiff, Nat.reduceAdd, Nat.reduceMul, Nat.reduceSub, Nat.reduceDiv, Nat.reduceMod, Bool.false_eq_true, false_and, and_false, reduceCtorEq, r_in32, j_l, h]
end
