/-! could, the call -/
section
variable (N : Nat) (κ : hk_T)
theorem c_could {κ1 κ2 κ3 : hk_T} {v r : Int32} {b s sl L : Nat} {ln : Int32} (hLi : hk_I κ 1 15 = n3 L) (h12 : L ≤ 12) (hb : b < 9) (hs : s < 6) (hsl : sl ≤ 400) (hl : ln = -n3 1 ∨ vIn 0 (L - 1) ln = true) (hk : fX1_settleKept N 23 (hp κ) = some (n3 1, hp κ1)) (hw : fX3_weighAll N 40 (hp κ1) = some (hp κ2)) (hf : fX5_freeOf N 38 (n3 (b * 6 + s)) (hp κ2) = some (v, hp κ2)) (hc : fX3_countMissingSets N 40 v (n3 sl) ln (hp κ2) = some (r, hp κ3)) :
    fX11_could N 0 (n3 b) (n3 s) (n3 sl) ln (hp κ) = some (r, hp κ3) := by
  have v1 : vIn 0 8 (n3 b) = true := vIn_n3 (lo := 0) (hi := 8) (by omega) (by omega) (by omega)
  have v2 : vIn 0 5 (n3 s) = true := vIn_n3 (lo := 0) (hi := 5) (by omega) (by omega) (by omega)
  have c0 : ¬ sl < 0 := by omega
  by_cases c : ln = -n3 1
  · rw [c] at hc ⊢
    simp (maxSteps := 400000) (disch := omega) only [n3_l, n3_add, n3_mul, n3_sub, n3_subn, n3_lt, n3_le, n3_eq, n3_eqn, n3_neq, n3_and, n3_or, n3_shl, n3_i, n3_cl, ↓hbd_0, ↓hbd_1, ↓hbd_2, hk_ob_0, hk_rd_0, hk_rd_1, hk_rd_2, hk_al_0, hk_al_1, h3r_0, h3r_1, hk_wi_0, hk_wj_0, h3w_0, h3w_1, h3v_0, hk_kI, hk_kJ, hk_kA, hk_kB, A_eq, A_ne, A_row, B_eq, B_ne, B_row, I_eq, I_ne, J_eq, J_ne, Option.bind_some, Option.some.injEq, if_true, if_false, eq_self, true_or, or_true, true_and, and_true, false_or, or_false, not_true_eq_false, not_false_eq_true, Classical.not_not, nar_b0, nar_b1, rz_0, rz_1, rz_i, ite01, Nat.add_zero, Nat.zero_add, Nat.one_mul, mul12, reduceIte, ra_z0, Nat.reduceEqDiff, Nat.reduceLT, Nat.reduceLeDiff, Nat.reduceAdd, Nat.reduceMul, Nat.reduceSub, Nat.reduceDiv, Nat.reduceMod, Bool.false_eq_true, false_and, and_false, reduceCtorEq, fX11_could, nX11_could_19, nX11_could_49, nX11_could_39, nX11_could_0, c_isShelf, v1, v2, c0, hsl, hk, hw, hf, hc]
  · have hl2 : vIn 0 (L - 1) ln = true := hl.resolve_left c
    simp (maxSteps := 400000) (disch := omega) only [n3_l, n3_add, n3_mul, n3_sub, n3_subn, n3_lt, n3_le, n3_eq, n3_eqn, n3_neq, n3_and, n3_or, n3_shl, n3_i, n3_cl, ↓hbd_0, ↓hbd_1, ↓hbd_2, hk_ob_0, hk_rd_0, hk_rd_1, hk_rd_2, hk_al_0, hk_al_1, h3r_0, h3r_1, hk_wi_0, hk_wj_0, h3w_0, h3w_1, h3v_0, hk_kI, hk_kJ, hk_kA, hk_kB, A_eq, A_ne, A_row, B_eq, B_ne, B_row, I_eq, I_ne, J_eq, J_ne, Option.bind_some, Option.some.injEq, if_true, if_false, eq_self, true_or, or_true, true_and, and_true, false_or, or_false, not_true_eq_false, not_false_eq_true, Classical.not_not, nar_b0, nar_b1, rz_0, rz_1, rz_i, ite01, Nat.add_zero, Nat.zero_add, Nat.one_mul, mul12, reduceIte, ra_z0, Nat.reduceEqDiff, Nat.reduceLT, Nat.reduceLeDiff, Nat.reduceAdd, Nat.reduceMul, Nat.reduceSub, Nat.reduceDiv, Nat.reduceMod, Bool.false_eq_true, false_and, and_false, reduceCtorEq, fX11_could, nX11_could_19, nX11_could_49, nX11_could_39, nX11_could_0, c_isShelf, v1, v2, c0, hsl, c, c_hasLine N κ hLi (by omega), hl2, hk, hw, hf, hc]
theorem c_could_x {b s sl ln : Int32} {L : Nat} (hLi : hk_I κ 1 15 = n3 L) (h12 : L ≤ 12) (h : ¬ ((vIn 0 8 b = true ∧ vIn 0 5 s = true) ∧ vIn 0 400 sl = true ∧ (ln = -n3 1 ∨ vIn 0 (L - 1) ln = true))) : fX11_could N 0 b s sl ln (hp κ) = some (-n3 1, hp κ) := by
  by_cases c1 : vIn 0 8 b = true ∧ vIn 0 5 s = true
  · by_cases c2 : vIn 0 400 sl = true
    · have c3 : ¬ (ln = -n3 1 ∨ vIn 0 (L - 1) ln = true) := fun z => h ⟨c1, c2, z⟩
      have c4 : ¬ ln = -n3 1 := fun z => c3 (Or.inl z)
      have c5 : ¬ vIn 0 (L - 1) ln = true := fun z => c3 (Or.inr z)
      obtain ⟨k, k1, k2, k3⟩ := vIn_ex (lo := 0) (hi := 400) c2
      have c0 : ¬ k < 0 := by omega
      rw [k3]
      simp (maxSteps := 400000) (disch := omega) only [n3_l, n3_add, n3_mul, n3_sub, n3_subn, n3_lt, n3_le, n3_eq, n3_eqn, n3_neq, n3_and, n3_or, n3_shl, n3_i, n3_cl, ↓hbd_0, ↓hbd_1, ↓hbd_2, hk_ob_0, hk_rd_0, hk_rd_1, hk_rd_2, hk_al_0, hk_al_1, h3r_0, h3r_1, hk_wi_0, hk_wj_0, h3w_0, h3w_1, h3v_0, hk_kI, hk_kJ, hk_kA, hk_kB, A_eq, A_ne, A_row, B_eq, B_ne, B_row, I_eq, I_ne, J_eq, J_ne, Option.bind_some, Option.some.injEq, if_true, if_false, eq_self, true_or, or_true, true_and, and_true, false_or, or_false, not_true_eq_false, not_false_eq_true, Classical.not_not, nar_b0, nar_b1, rz_0, rz_1, rz_i, ite01, Nat.add_zero, Nat.zero_add, Nat.one_mul, mul12, reduceIte, ra_z0, Nat.reduceEqDiff, Nat.reduceLT, Nat.reduceLeDiff, Nat.reduceAdd, Nat.reduceMul, Nat.reduceSub, Nat.reduceDiv, Nat.reduceMod, Bool.false_eq_true, false_and, and_false, reduceCtorEq, fX11_could, nX11_could_19, nX11_could_49, nX11_could_39, nX11_could_0, c_isShelf, c1, c0, k2, c4, c_hasLine N κ hLi (by omega), c5]
    · rw [vIn_iff] at c2
      by_cases c : sl < n3 0
      · simp (maxSteps := 400000) (disch := omega) only [n3_l, n3_add, n3_mul, n3_sub, n3_subn, n3_lt, n3_le, n3_eq, n3_eqn, n3_neq, n3_and, n3_or, n3_shl, n3_i, n3_cl, ↓hbd_0, ↓hbd_1, ↓hbd_2, hk_ob_0, hk_rd_0, hk_rd_1, hk_rd_2, hk_al_0, hk_al_1, h3r_0, h3r_1, hk_wi_0, hk_wj_0, h3w_0, h3w_1, h3v_0, hk_kI, hk_kJ, hk_kA, hk_kB, A_eq, A_ne, A_row, B_eq, B_ne, B_row, I_eq, I_ne, J_eq, J_ne, Option.bind_some, Option.some.injEq, if_true, if_false, eq_self, true_or, or_true, true_and, and_true, false_or, or_false, not_true_eq_false, not_false_eq_true, Classical.not_not, nar_b0, nar_b1, rz_0, rz_1, rz_i, ite01, Nat.add_zero, Nat.zero_add, Nat.one_mul, mul12, reduceIte, ra_z0, Nat.reduceEqDiff, Nat.reduceLT, Nat.reduceLeDiff, Nat.reduceAdd, Nat.reduceMul, Nat.reduceSub, Nat.reduceDiv, Nat.reduceMod, Bool.false_eq_true, false_and, and_false, reduceCtorEq, fX11_could, nX11_could_19, nX11_could_49, nX11_could_39, nX11_could_0, c_isShelf, c1, c]
      · have c3 : ¬ sl ≤ n3 400 := by
          rw [i_lt, n3_toInt (by omega)] at c
          rw [i_le, n3_toInt (by omega)]
          omega
        simp (maxSteps := 400000) (disch := omega) only [n3_l, n3_add, n3_mul, n3_sub, n3_subn, n3_lt, n3_le, n3_eq, n3_eqn, n3_neq, n3_and, n3_or, n3_shl, n3_i, n3_cl, ↓hbd_0, ↓hbd_1, ↓hbd_2, hk_ob_0, hk_rd_0, hk_rd_1, hk_rd_2, hk_al_0, hk_al_1, h3r_0, h3r_1, hk_wi_0, hk_wj_0, h3w_0, h3w_1, h3v_0, hk_kI, hk_kJ, hk_kA, hk_kB, A_eq, A_ne, A_row, B_eq, B_ne, B_row, I_eq, I_ne, J_eq, J_ne, Option.bind_some, Option.some.injEq, if_true, if_false, eq_self, true_or, or_true, true_and, and_true, false_or, or_false, not_true_eq_false, not_false_eq_true, Classical.not_not, nar_b0, nar_b1, rz_0, rz_1, rz_i, ite01, Nat.add_zero, Nat.zero_add, Nat.one_mul, mul12, reduceIte, ra_z0, Nat.reduceEqDiff, Nat.reduceLT, Nat.reduceLeDiff, Nat.reduceAdd, Nat.reduceMul, Nat.reduceSub, Nat.reduceDiv, Nat.reduceMod, Bool.false_eq_true, false_and, and_false, reduceCtorEq, fX11_could, nX11_could_19, nX11_could_49, nX11_could_39, nX11_could_0, c_isShelf, c1, c, c3]
  · simp (maxSteps := 400000) (disch := omega) only [n3_l, n3_add, n3_mul, n3_sub, n3_subn, n3_lt, n3_le, n3_eq, n3_eqn, n3_neq, n3_and, n3_or, n3_shl, n3_i, n3_cl, ↓hbd_0, ↓hbd_1, ↓hbd_2, hk_ob_0, hk_rd_0, hk_rd_1, hk_rd_2, hk_al_0, hk_al_1, h3r_0, h3r_1, hk_wi_0, hk_wj_0, h3w_0, h3w_1, h3v_0, hk_kI, hk_kJ, hk_kA, hk_kB, A_eq, A_ne, A_row, B_eq, B_ne, B_row, I_eq, I_ne, J_eq, J_ne, Option.bind_some, Option.some.injEq, if_true, if_false, eq_self, true_or, or_true, true_and, and_true, false_or, or_false, not_true_eq_false, not_false_eq_true, Classical.not_not, nar_b0, nar_b1, rz_0, rz_1, rz_i, ite01, Nat.add_zero, Nat.zero_add, Nat.one_mul, mul12, reduceIte, ra_z0, Nat.reduceEqDiff, Nat.reduceLT, Nat.reduceLeDiff, Nat.reduceAdd, Nat.reduceMul, Nat.reduceSub, Nat.reduceDiv, Nat.reduceMod, Bool.false_eq_true, false_and, and_false, reduceCtorEq, fX11_could, nX11_could_19, nX11_could_49, nX11_could_39, nX11_could_0, c_isShelf, c1]
/-- no kept history -/
theorem c_could_y {b s sl ln : Int32} {L : Nat} (hLi : hk_I κ 1 15 = n3 L) (h12 : L ≤ 12) (h : (vIn 0 8 b = true ∧ vIn 0 5 s = true) ∧ vIn 0 400 sl = true ∧ (ln = -n3 1 ∨ vIn 0 (L - 1) ln = true)) (hk : fX1_settleKept N 23 (hp κ) = some (n3 0, hp κ)) : fX11_could N 0 b s sl ln (hp κ) = some (-n3 1, hp κ) := by
  obtain ⟨c1, c2, c3⟩ := h
  obtain ⟨k, k1, k2, k3⟩ := vIn_ex (lo := 0) (hi := 400) c2
  have c0 : ¬ k < 0 := by omega
  rw [k3]
  by_cases c : ln = -n3 1
  · rw [c]
    simp (maxSteps := 400000) (disch := omega) only [n3_l, n3_add, n3_mul, n3_sub, n3_subn, n3_lt, n3_le, n3_eq, n3_eqn, n3_neq, n3_and, n3_or, n3_shl, n3_i, n3_cl, ↓hbd_0, ↓hbd_1, ↓hbd_2, hk_ob_0, hk_rd_0, hk_rd_1, hk_rd_2, hk_al_0, hk_al_1, h3r_0, h3r_1, hk_wi_0, hk_wj_0, h3w_0, h3w_1, h3v_0, hk_kI, hk_kJ, hk_kA, hk_kB, A_eq, A_ne, A_row, B_eq, B_ne, B_row, I_eq, I_ne, J_eq, J_ne, Option.bind_some, Option.some.injEq, if_true, if_false, eq_self, true_or, or_true, true_and, and_true, false_or, or_false, not_true_eq_false, not_false_eq_true, Classical.not_not, nar_b0, nar_b1, rz_0, rz_1, rz_i, ite01, Nat.add_zero, Nat.zero_add, Nat.one_mul, mul12, reduceIte, ra_z0, Nat.reduceEqDiff, Nat.reduceLT, Nat.reduceLeDiff, Nat.reduceAdd, Nat.reduceMul, Nat.reduceSub, Nat.reduceDiv, Nat.reduceMod, Bool.false_eq_true, false_and, and_false, reduceCtorEq, fX11_could, nX11_could_19, nX11_could_49, nX11_could_39, nX11_could_0, c_isShelf, c1, c0, k2, hk]
  · have hl2 : vIn 0 (L - 1) ln = true := c3.resolve_left c
    simp (maxSteps := 400000) (disch := omega) only [n3_l, n3_add, n3_mul, n3_sub, n3_subn, n3_lt, n3_le, n3_eq, n3_eqn, n3_neq, n3_and, n3_or, n3_shl, n3_i, n3_cl, ↓hbd_0, ↓hbd_1, ↓hbd_2, hk_ob_0, hk_rd_0, hk_rd_1, hk_rd_2, hk_al_0, hk_al_1, h3r_0, h3r_1, hk_wi_0, hk_wj_0, h3w_0, h3w_1, h3v_0, hk_kI, hk_kJ, hk_kA, hk_kB, A_eq, A_ne, A_row, B_eq, B_ne, B_row, I_eq, I_ne, J_eq, J_ne, Option.bind_some, Option.some.injEq, if_true, if_false, eq_self, true_or, or_true, true_and, and_true, false_or, or_false, not_true_eq_false, not_false_eq_true, Classical.not_not, nar_b0, nar_b1, rz_0, rz_1, rz_i, ite01, Nat.add_zero, Nat.zero_add, Nat.one_mul, mul12, reduceIte, ra_z0, Nat.reduceEqDiff, Nat.reduceLT, Nat.reduceLeDiff, Nat.reduceAdd, Nat.reduceMul, Nat.reduceSub, Nat.reduceDiv, Nat.reduceMod, Bool.false_eq_true, false_and, and_false, reduceCtorEq, fX11_could, nX11_could_19, nX11_could_49, nX11_could_39, nX11_could_0, c_isShelf, c1, c0, k2, c, c_hasLine N κ hLi (by omega), hl2, hk]
theorem vIn_line {L : Nat} {ln : Int32} : vIn (-1) (L - 1) ln = true ↔ ln = -n3 1 ∨ vIn 0 (L - 1) ln = true := by
  rw [vIn_iff, vIn_iff, i_eq, n3_ntoInt (by omega)]
  omega
theorem r_in_line {L : Nat} {ln : Int32} {h : ra_H} (hL : L ≤ 12) : fX12_in N (Int32.toInt64 ln) ((-1 : Int64)) ((Int32.toInt64 (n3 L)) - ((1 : Int64))) h = some (if vIn (-1) (L - 1) ln = true then n3 1 else n3 0, h) := by
  rw [r_in32]
  have e1 : ((-1 : Int64)).toInt = -1 := by decide
  have e2 : ((Int32.toInt64 (n3 L)) - ((1 : Int64))).toInt = (L : Int) - 1 := by
    rw [j3_n (by omega)]
    rcases Nat.eq_zero_or_pos L with h0 | h0
    · subst h0; decide
    · have : j3 L - (1 : Int64) = j3 (L - 1) := by rw [show (1 : Int64) = j3 1 from rfl, j3_sub h0]
      rw [this, j3_toInt (by omega)]
      omega
  rw [e1, e2]
theorem r_in_400 {x : Int32} {h : ra_H} : fX12_in N (Int32.toInt64 x) ((0 : Int64)) ((400 : Int64)) h = some (if vIn 0 400 x = true then n3 1 else n3 0, h) := by
  rw [r_in32]
  have e1 : ((0 : Int64)).toInt = 0 := by decide
  have e2 : ((400 : Int64)).toInt = 400 := by decide
  rw [e1, e2]
theorem r_could_st {κ1 κ2 : hk_T} {v : Int32} {b s sl L : Nat} {ln : Int32} (h482 : hk_A κ 71 482 = n3 L) (h12 : L ≤ 12) (hb : b < 9) (hs : s < 6) (hsl : sl ≤ 400) (v4 : vIn (-1) (L - 1) ln = true) (hk : fX12_lookKept N 69 (hp (hk_wI κ 69 0 (n3 0))) = some (n3 1, hp κ1)) (hf : fX12_freeOf N 69 (n3 (6 * b + s)) (hp κ1) = some (v, hp κ1)) (hw : fX12_matchAll N 69 (hp κ1) = some (hp κ2)) :
    fX12_could N 69 (n3 b) (n3 s) (n3 sl) ln (hp κ) = (if ln = -n3 1 then nX12_could_91 N 69 (n3 sl) ln v (hp κ2) else (fX12_bookOf N 69 ln (hp κ2)).bind fun q10 => if q10.1 = -n3 1 then nX12_could_91 N 69 (n3 sl) ln v q10.2 else some (n3 0, q10.2)) := by
  have v1 : vIn 0 8 (n3 b) = true := vIn_n3 (lo := 0) (hi := 8) (by omega) (by omega) (by omega)
  have v2 : vIn 0 5 (n3 s) = true := vIn_n3 (lo := 0) (hi := 5) (by omega) (by omega) (by omega)
  have v3 : vIn 0 400 (n3 sl) = true := vIn_n3 (lo := 0) (hi := 400) (by omega) (by omega) (by omega)
  have il := fun h : ra_H => r_in_line N (ln := ln) (h := h) h12
  have w482 : hk_A (hk_wI κ 69 0 (n3 0)) 71 482 = n3 L := h482
  unfold fX12_could nX12_could_0
  have k1 : ¬ n3 1 = n3 0 := by decide
  simp (disch := omega) only [hk_ob_0, hk_wi_0, Option.bind_some, r_isShelf, v1, v2, and_self, if_true, r_in_400, v3, hk_rd_0, hk_rd_1, hk_rd_2, h3r_0, h3r_1, n3_l, ra_z0, k1, if_false, w482, hk, n3_mul, n3_add, hf, hw, il, v4]
theorem r_could {κ1 κ2 : hk_T} {a : Nat → Nat → Int} {fr : Int} {b s sl nB L ls : Nat} {ln : Int32} {T : Nat → Nat} (h482 : hk_A κ 71 482 = n3 L) (h12 : L ≤ 12) (hb : b < 9) (hs : s < 6) (hsl : sl ≤ 400) (h40 : nB ≤ 40) (hk : fX12_lookKept N 69 (hp (hk_wI κ 69 0 (n3 0))) = some (n3 1, hp κ1)) (hf : fX12_freeOf N 69 (n3 (6 * b + s)) (hp κ1) = some (z3 fr, hp κ1)) (hw : fX12_matchAll N 69 (hp κ1) = some (hp κ2))
    (g480 : hk_A κ2 71 480 = n3 nB) (g482 : hk_A κ2 71 482 = n3 L) (h95 : ∀ b, b < nB → hk_A κ2 95 b = n3 (its a L nB b)) (hT : ∀ l, l < L → hk_A κ2 71 (650 + 6 * l + 2) = n3 (T l)) (hT1 : ∀ l, l < L → 1 ≤ T l ∧ T l ≤ 360) (hl : (ln = -n3 1 ∧ ls = 0) ∨ ∃ l0, l0 < L ∧ ln = n3 l0 ∧ ¬ (gvS a L nB nB).testBit l0 = true ∧ ls = T l0) (h1 : -100000 ≤ fr) (h2 : fr ≤ 100000) (hN : 1000 < N) :
    ∃ κ', fX12_could N 69 (n3 b) (n3 s) (n3 sl) ln (hp κ) = some (coS (coF T ln (gvS a L nB nB) L ls) fr sl, hp κ') ∧ same [97] [] κ2 κ' := by
  have v4 : vIn (-1) (L - 1) ln = true := by
    rw [vIn_line]
    rcases hl with ⟨h, -⟩ | ⟨l0, h, h', -⟩
    · exact Or.inl h
    · right; rw [h', vIn_iff, n3_toInt (by omega)]; omega
  have hls : ls < 361 := by
    rcases hl with ⟨-, h⟩ | ⟨l0, h, -, -, h'⟩
    · omega
    · have := hT1 l0 h; omega
  obtain ⟨κ', e, ss⟩ := r_countSets N κ2 (a := a) (T := T) (ln := ln) (ls := ls) (fr := fr) (sl := sl) g480 g482 h40 h12 h95 hT hT1 hls h1 h2 hsl hN
  refine ⟨κ', ?_, ss⟩
  rw [r_could_st N κ h482 h12 hb hs hsl v4 hk hf hw]
  rcases hl with ⟨hl1, hl2⟩ | ⟨l0, p1, p2, p3, p4⟩
  · rw [if_pos hl1, nX12_could_91]
    rw [hl2] at e
    simp (maxSteps := 400000) (disch := omega) only [n3_l, n3_add, n3_mul, n3_sub, n3_subn, n3_lt, n3_le, n3_eq, n3_eqn, n3_neq, n3_and, n3_or, n3_shl, n3_i, n3_cl, ↓hbd_0, ↓hbd_1, ↓hbd_2, hk_ob_0, hk_rd_0, hk_rd_1, hk_rd_2, hk_al_0, hk_al_1, h3r_0, h3r_1, hk_wi_0, hk_wj_0, h3w_0, h3w_1, h3v_0, hk_kI, hk_kJ, hk_kA, hk_kB, A_eq, A_ne, A_row, B_eq, B_ne, B_row, I_eq, I_ne, J_eq, J_ne, Option.bind_some, Option.some.injEq, if_true, if_false, eq_self, true_or, or_true, true_and, and_true, false_or, or_false, not_true_eq_false, not_false_eq_true, Classical.not_not, nar_b0, nar_b1, rz_0, rz_1, rz_i, ite01, Nat.add_zero, Nat.zero_add, Nat.one_mul, mul12, reduceIte, ra_z0, Nat.reduceEqDiff, Nat.reduceLT, Nat.reduceLeDiff, Nat.reduceAdd, Nat.reduceMul, Nat.reduceSub, Nat.reduceDiv, Nat.reduceMod, Bool.false_eq_true, false_and, and_false, reduceCtorEq, hl1, nX12_could_117]
    rw [hl1] at e
    rw [hl2]
    exact e
  · have hn1 : ¬ n3 l0 = -n3 1 := fun z => (n3_eqn (by omega) (by omega) (by omega)).mp z
    obtain ⟨v, b1, b2⟩ := r_bookOf N κ2 g480 h40 h12 h95 p1 hN
    have b3 := b2.mpr p3
    rw [b3] at b1
    have t := hT l0 p1
    rw [← p4] at t
    rw [p2] at e ⊢
    rw [if_neg hn1]
    simp (maxSteps := 400000) (disch := omega) only [n3_l, n3_add, n3_mul, n3_sub, n3_subn, n3_lt, n3_le, n3_eq, n3_eqn, n3_neq, n3_and, n3_or, n3_shl, n3_i, n3_cl, ↓hbd_0, ↓hbd_1, ↓hbd_2, hk_ob_0, hk_rd_0, hk_rd_1, hk_rd_2, hk_al_0, hk_al_1, h3r_0, h3r_1, hk_wi_0, hk_wj_0, h3w_0, h3w_1, h3v_0, hk_kI, hk_kJ, hk_kA, hk_kB, A_eq, A_ne, A_row, B_eq, B_ne, B_row, I_eq, I_ne, J_eq, J_ne, Option.bind_some, Option.some.injEq, if_true, if_false, eq_self, true_or, or_true, true_and, and_true, false_or, or_false, not_true_eq_false, not_false_eq_true, Classical.not_not, nar_b0, nar_b1, rz_0, rz_1, rz_i, ite01, Nat.add_zero, Nat.zero_add, Nat.one_mul, mul12, reduceIte, ra_z0, Nat.reduceEqDiff, Nat.reduceLT, Nat.reduceLeDiff, Nat.reduceAdd, Nat.reduceMul, Nat.reduceSub, Nat.reduceDiv, Nat.reduceMod, Bool.false_eq_true, false_and, and_false, reduceCtorEq, b1, nX12_could_91, hn1, t, nX12_could_117]
    exact e
theorem r_could0 {κ1 κ2 : hk_T} {a : Nat → Nat → Int} {v : Int32} {b s sl nB L l0 : Nat} (h482 : hk_A κ 71 482 = n3 L) (h12 : L ≤ 12) (hb : b < 9) (hs : s < 6) (hsl : sl ≤ 400) (h40 : nB ≤ 40) (hk : fX12_lookKept N 69 (hp (hk_wI κ 69 0 (n3 0))) = some (n3 1, hp κ1)) (hf : fX12_freeOf N 69 (n3 (6 * b + s)) (hp κ1) = some (v, hp κ1)) (hw : fX12_matchAll N 69 (hp κ1) = some (hp κ2))
    (g480 : hk_A κ2 71 480 = n3 nB) (h95 : ∀ b, b < nB → hk_A κ2 95 b = n3 (its a L nB b)) (hl : l0 < L) (hg : (gvS a L nB nB).testBit l0 = true) (hN : 1000 < N) :
    fX12_could N 69 (n3 b) (n3 s) (n3 sl) (n3 l0) (hp κ) = some (n3 0, hp κ2) := by
  have v4 : vIn (-1) (L - 1) (n3 l0) = true := by rw [vIn_iff, n3_toInt (by omega)]; omega
  have hn1 : ¬ n3 l0 = -n3 1 := fun z => (n3_eqn (by omega) (by omega) (by omega)).mp z
  obtain ⟨w, b1, b2⟩ := r_bookOf N κ2 g480 h40 h12 h95 hl hN
  have b3 : ¬ w = -n3 1 := fun z => b2.mp z hg
  rw [r_could_st N κ h482 h12 hb hs hsl v4 hk hf hw, if_neg hn1]
  simp (maxSteps := 400000) (disch := omega) only [n3_l, n3_add, n3_mul, n3_sub, n3_subn, n3_lt, n3_le, n3_eq, n3_eqn, n3_neq, n3_and, n3_or, n3_shl, n3_i, n3_cl, ↓hbd_0, ↓hbd_1, ↓hbd_2, hk_ob_0, hk_rd_0, hk_rd_1, hk_rd_2, hk_al_0, hk_al_1, h3r_0, h3r_1, hk_wi_0, hk_wj_0, h3w_0, h3w_1, h3v_0, hk_kI, hk_kJ, hk_kA, hk_kB, A_eq, A_ne, A_row, B_eq, B_ne, B_row, I_eq, I_ne, J_eq, J_ne, Option.bind_some, Option.some.injEq, if_true, if_false, eq_self, true_or, or_true, true_and, and_true, false_or, or_false, not_true_eq_false, not_false_eq_true, Classical.not_not, nar_b0, nar_b1, rz_0, rz_1, rz_i, ite01, Nat.add_zero, Nat.zero_add, Nat.one_mul, mul12, reduceIte, ra_z0, Nat.reduceEqDiff, Nat.reduceLT, Nat.reduceLeDiff, Nat.reduceAdd, Nat.reduceMul, Nat.reduceSub, Nat.reduceDiv, Nat.reduceMod, Bool.false_eq_true, false_and, and_false, reduceCtorEq, b1, b3]
theorem r_could_x {b s sl ln : Int32} {L : Nat} (h482 : hk_A κ 71 482 = n3 L) (h12 : L ≤ 12) (h : ¬ ((vIn 0 8 b = true ∧ vIn 0 5 s = true) ∧ vIn 0 400 sl = true ∧ (ln = -n3 1 ∨ vIn 0 (L - 1) ln = true))) : fX12_could N 69 b s sl ln (hp κ) = some (-n3 1, hp (hk_wI κ 69 0 (n3 0))) := by
  have il := fun h : ra_H => r_in_line N (ln := ln) (h := h) h12
  have w482 : hk_A (hk_wI κ 69 0 (n3 0)) 71 482 = n3 L := h482
  have k1 : ¬ n3 1 = n3 0 := by decide
  unfold fX12_could nX12_could_0
  by_cases c1 : vIn 0 8 b = true ∧ vIn 0 5 s = true
  · by_cases c2 : vIn 0 400 sl = true
    · have c3 : ¬ vIn (-1) (L - 1) ln = true := fun z => h ⟨c1, c2, vIn_line.mp z⟩
      simp (disch := omega) only [hk_ob_0, hk_wi_0, Option.bind_some, r_isShelf, c1, and_self, if_true, r_in_400, c2, hk_rd_0, hk_rd_1, hk_rd_2, h3r_0, h3r_1, n3_l, ra_z0, k1, if_false, w482, il, c3, nX12_could_55]
      rfl
    · simp (disch := omega) only [hk_ob_0, hk_wi_0, Option.bind_some, r_isShelf, c1, and_self, if_true, r_in_400, c2, n3_l, ra_z0, k1, if_false, nX12_could_55]
      rfl
  · simp (disch := omega) only [hk_ob_0, hk_wi_0, Option.bind_some, r_isShelf, c1, if_true, if_false, n3_l, ra_z0, nX12_could_55]
theorem r_could_y {b s sl ln : Int32} {L : Nat} (h482 : hk_A κ 71 482 = n3 L) (h12 : L ≤ 12) (h : (vIn 0 8 b = true ∧ vIn 0 5 s = true) ∧ vIn 0 400 sl = true ∧ (ln = -n3 1 ∨ vIn 0 (L - 1) ln = true)) (hk : fX12_lookKept N 69 (hp (hk_wI κ 69 0 (n3 0))) = some (n3 0, hp (hk_wI κ 69 0 (n3 0)))) : fX12_could N 69 b s sl ln (hp κ) = some (-n3 1, hp (hk_wI κ 69 0 (n3 0))) := by
  obtain ⟨c1, c2, c3⟩ := h
  have c3' : vIn (-1) (L - 1) ln = true := vIn_line.mpr c3
  have il := fun h : ra_H => r_in_line N (ln := ln) (h := h) h12
  have w482 : hk_A (hk_wI κ 69 0 (n3 0)) 71 482 = n3 L := h482
  have k1 : ¬ n3 1 = n3 0 := by decide
  unfold fX12_could nX12_could_0
  simp (disch := omega) only [hk_ob_0, hk_wi_0, Option.bind_some, r_isShelf, c1, and_self, if_true, r_in_400, c2, hk_rd_0, hk_rd_1, hk_rd_2, h3r_0, h3r_1, n3_l, ra_z0, k1, if_false, w482, il, c3', hk, nX12_could_55]
end
