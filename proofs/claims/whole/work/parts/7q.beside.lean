/-! beside -/
def layC (κ : hk_T) (n : Nat) (z dm : Nat → Nat) (F : Nat → Int32) : Prop := ∃ g st, LL (srP n z) (fun b => b) n g ∧ (∀ i j, i < n → j < n → st i j = stp dm F (g i) (g j)) ∧ (∀ i j, st i j ≤ 20) ∧ lay κ n st g
theorem ltm {x : Int32} : x < -n3 1 ↔ x.toInt < -1 := by rw [i_lt]; rfl
section
variable (N : Nat) (κ : hk_T)
theorem c_layOut {n nB : Nat} {z dm : Nat → Nat} {F : Nat → Int32} (hS : hk_I κ 1 16 = n3 n) (h0 : 0 < n) (hn : n ≤ 9) (hz : ∀ i, i < n → hk_A κ 11 i = n3 (z i)) (hB : nB ≤ 40) (h40 : ∀ i, i < n → z i < nB) (hd : ∀ i j, i < j → j < n → z i ≠ z j) (hF : hk_A κ 2 = F) (hdm : ∀ b, b < nB → hk_A κ 2 (12 * b + 8) = n3 (dm b)) (h9 : ∀ b, dm b ≤ 9) (hc : hk_I κ 61 4 = n3 0 ∨ hk_I κ 61 4 = n3 1 ∧ layC κ n z dm F) (hN : 1000 < N) :
    ∃ κ', fX6_layOut N 61 (hp κ) = some (hp κ') ∧ same [62, 63, 64, 65] [(61, 4), (61, 6)] κ κ' ∧ hk_I κ' 61 4 = n3 1 ∧ layC κ' n z dm F := by
  unfold fX6_layOut nX6_layOut_0
  rcases hc with hc | ⟨hc, hl⟩
  · have s0 : same [] [(61, 4)] κ (hk_wI κ 61 4 (n3 1)) := (same.refl _ _ _).wI (by decide)
    obtain ⟨κ1, g, e1, s1, g1, l1⟩ := c_sortStack N (hk_wI κ 61 4 (n3 1)) (n := n) (z := z) (by rw [s0.2.2.1 1 16 (by decide)]; exact hS) hn (by rw [s0.1 11 (by decide)]; exact hz) (fun i hi => by have := h40 i hi; omega) hd hN
    have s01 : same [62] [(61, 4)] κ κ1 := (s0.weak (by decide) (by decide)).trans (s1.weak (by decide) (by decide))
    have gB : ∀ i, i < n → g i < nB := by
      intro i hi
      obtain ⟨j, hj, e⟩ := l1.1 i hi
      rw [← e]
      exact h40 j hj
    obtain ⟨κ2, e2, s2, m2⟩ := c_measureSteps N κ1 (dm := dm) (g := g) (n := n) (nB := nB) (by rw [s01.2.2.1 1 16 (by decide)]; exact hS) hn hB g1 gB (by rw [s01.1 2 (by decide)]; exact hdm) h9 hN
    rw [s01.1 2 (by decide), hF] at m2
    have s02 : same [62, 63] [(61, 4)] κ κ2 := (s01.weak (by decide) (by decide)).trans (s2.weak (by decide) (by decide))
    obtain ⟨κ3, e3, s3, m3⟩ := c_rests N κ2 (st := fun i j => stp dm F (g i) (g j)) (n := n) (by rw [s02.2.2.1 1 16 (by decide)]; exact hS) hn m2 (fun i j => stp_le h9 F _ _) hN
    have s03 : same [62, 63, 64] [(61, 4)] κ κ3 := (s02.weak (by decide) (by decide)).trans (s3.weak (by decide) (by decide))
    obtain ⟨κ4, e4, s4, m4⟩ := c_takeFirstRow N κ3 (st := fun i j => stp dm F (g i) (g j)) (n := n) (g := g) (by rw [s03.2.2.1 1 16 (by decide)]; exact hS) h0 hn (by rw [s3.1 62 (by decide), s2.1 62 (by decide)]; exact g1) (by rw [s3.1 63 (by decide)]; exact m2) m3 (fun i j => stp_le h9 F _ _) hN
    refine ⟨κ4, ?_, (s03.weak (by decide) (by decide)).trans (s4.weak (by decide) (by decide)), ?_, g, _, l1, fun i j _ _ => rfl, fun i j => stp_le h9 F _ _, m4⟩
    · have hp2 := Nat.two_pow_pos n
      simp (maxSteps := 400000) (disch := omega) only [n3_l, n3_add, n3_mul, n3_sub, n3_subn, n3_lt, n3_le, n3_eq, n3_eqn, n3_neq, n3_and, n3_or, n3_shl, n3_i, n3_cl, ↓hbd_0, ↓hbd_1, ↓hbd_2, hk_ob_0, hk_rd_0, hk_rd_1, hk_rd_2, hk_al_0, hk_al_1, h3r_0, h3r_1, hk_wi_0, hk_wj_0, h3w_0, h3w_1, h3v_0, hk_kI, hk_kJ, hk_kA, hk_kB, A_eq, A_ne, A_row, B_eq, B_ne, B_row, I_eq, I_ne, J_eq, J_ne, Option.bind_some, Option.some.injEq, if_true, if_false, eq_self, true_or, or_true, true_and, and_true, false_or, or_false, not_true_eq_false, not_false_eq_true, Classical.not_not, nar_b0, nar_b1, rz_0, rz_1, rz_i, ite01, Nat.add_zero, Nat.zero_add, Nat.one_mul, mul12, reduceIte, ra_z0, Nat.reduceEqDiff, Nat.reduceLT, Nat.reduceLeDiff, Nat.reduceAdd, Nat.reduceMul, Nat.reduceSub, Nat.reduceDiv, Nat.reduceMod, Bool.false_eq_true, false_and, and_false, reduceCtorEq, hc, e1, e2, s02.2.2.1 1 16 (by decide), hS, n3_shl]
      rw [e3, e4]
      rfl
    · rw [s4.2.2.1 61 4 (by decide), s3.2.2.1 61 4 (by decide), s2.2.2.1 61 4 (by decide), s1.2.2.1 61 4 (by decide)]
      exact I_eq
  · refine ⟨κ, ?_, same.refl _ _ _, hc, hl⟩
    simp (maxSteps := 400000) (disch := omega) only [n3_l, n3_add, n3_mul, n3_sub, n3_subn, n3_lt, n3_le, n3_eq, n3_eqn, n3_neq, n3_and, n3_or, n3_shl, n3_i, n3_cl, ↓hbd_0, ↓hbd_1, ↓hbd_2, hk_ob_0, hk_rd_0, hk_rd_1, hk_rd_2, hk_al_0, hk_al_1, h3r_0, h3r_1, hk_wi_0, hk_wj_0, h3w_0, h3w_1, h3v_0, hk_kI, hk_kJ, hk_kA, hk_kB, A_eq, A_ne, A_row, B_eq, B_ne, B_row, I_eq, I_ne, J_eq, J_ne, Option.bind_some, Option.some.injEq, if_true, if_false, eq_self, true_or, or_true, true_and, and_true, false_or, or_false, not_true_eq_false, not_false_eq_true, Classical.not_not, nar_b0, nar_b1, rz_0, rz_1, rz_i, ite01, Nat.add_zero, Nat.zero_add, Nat.one_mul, mul12, reduceIte, ra_z0, Nat.reduceEqDiff, Nat.reduceLT, Nat.reduceLeDiff, Nat.reduceAdd, Nat.reduceMul, Nat.reduceSub, Nat.reduceDiv, Nat.reduceMod, Bool.false_eq_true, false_and, and_false, reduceCtorEq, hc]
def besA (κ : hk_T) (a : Int32) : Int32 := if a = -n3 1 then hk_I κ 61 6 else hk_A κ 65 a.toInt.toNat
theorem c_beside0 {a : Int32} (hS : hk_I κ 1 16 = n3 0) : fX11_beside N 0 a (hp κ) = some (-n3 1, hp κ) := by
  simp (maxSteps := 400000) (disch := omega) only [n3_l, n3_add, n3_mul, n3_sub, n3_subn, n3_lt, n3_le, n3_eq, n3_eqn, n3_neq, n3_and, n3_or, n3_shl, n3_i, n3_cl, ↓hbd_0, ↓hbd_1, ↓hbd_2, hk_ob_0, hk_rd_0, hk_rd_1, hk_rd_2, hk_al_0, hk_al_1, h3r_0, h3r_1, hk_wi_0, hk_wj_0, h3w_0, h3w_1, h3v_0, hk_kI, hk_kJ, hk_kA, hk_kB, A_eq, A_ne, A_row, B_eq, B_ne, B_row, I_eq, I_ne, J_eq, J_ne, Option.bind_some, Option.some.injEq, if_true, if_false, eq_self, true_or, or_true, true_and, and_true, false_or, or_false, not_true_eq_false, not_false_eq_true, Classical.not_not, nar_b0, nar_b1, rz_0, rz_1, rz_i, ite01, Nat.add_zero, Nat.zero_add, Nat.one_mul, mul12, reduceIte, ra_z0, Nat.reduceEqDiff, Nat.reduceLT, Nat.reduceLeDiff, Nat.reduceAdd, Nat.reduceMul, Nat.reduceSub, Nat.reduceDiv, Nat.reduceMod, Bool.false_eq_true, false_and, and_false, reduceCtorEq, fX11_beside, nX11_beside_26, nX11_beside_59, nX11_beside_0, hS]
theorem c_beside_x {n : Nat} {a : Int32} (hS : hk_I κ 1 16 = n3 n) (hn : n ≤ 9) (ha : ¬ vIn (-1) (n - 1) a = true) : fX11_beside N 0 a (hp κ) = some (-n3 1, hp κ) := by
  rw [vIn_iff] at ha
  simp (maxSteps := 400000) (disch := omega) only [n3_l, n3_add, n3_mul, n3_sub, n3_subn, n3_lt, n3_le, n3_eq, n3_eqn, n3_neq, n3_and, n3_or, n3_shl, n3_i, n3_cl, ↓hbd_0, ↓hbd_1, ↓hbd_2, hk_ob_0, hk_rd_0, hk_rd_1, hk_rd_2, hk_al_0, hk_al_1, h3r_0, h3r_1, hk_wi_0, hk_wj_0, h3w_0, h3w_1, h3v_0, hk_kI, hk_kJ, hk_kA, hk_kB, A_eq, A_ne, A_row, B_eq, B_ne, B_row, I_eq, I_ne, J_eq, J_ne, Option.bind_some, Option.some.injEq, if_true, if_false, eq_self, true_or, or_true, true_and, and_true, false_or, or_false, not_true_eq_false, not_false_eq_true, Classical.not_not, nar_b0, nar_b1, rz_0, rz_1, rz_i, ite01, Nat.add_zero, Nat.zero_add, Nat.one_mul, mul12, reduceIte, ra_z0, Nat.reduceEqDiff, Nat.reduceLT, Nat.reduceLeDiff, Nat.reduceAdd, Nat.reduceMul, Nat.reduceSub, Nat.reduceDiv, Nat.reduceMod, Bool.false_eq_true, false_and, and_false, reduceCtorEq, fX11_beside, nX11_beside_26, nX11_beside_59, nX11_beside_0, hS, lt3, ltm]
  by_cases h0 : n = 0
  · rw [if_pos h0]
  · rw [if_neg h0]
    by_cases h1 : a.toInt < -1
    · rw [if_pos h1]
    · rw [if_neg h1, if_neg (by omega)]
theorem c_beside {n nB : Nat} {z dm : Nat → Nat} {F : Nat → Int32} {a : Int32} (ha : vIn (-1) (n - 1) a = true) (hS : hk_I κ 1 16 = n3 n) (h0 : 0 < n) (hn : n ≤ 9) (hz : ∀ i, i < n → hk_A κ 11 i = n3 (z i)) (hB : nB ≤ 40) (h40 : ∀ i, i < n → z i < nB) (hd : ∀ i j, i < j → j < n → z i ≠ z j) (hF : hk_A κ 2 = F) (hdm : ∀ b, b < nB → hk_A κ 2 (12 * b + 8) = n3 (dm b)) (h9 : ∀ b, dm b ≤ 9) (hc : hk_I κ 61 4 = n3 0 ∨ hk_I κ 61 4 = n3 1 ∧ layC κ n z dm F) (hN : 1000 < N) :
    ∃ κ', fX11_beside N 0 a (hp κ) = some (besA κ' a, hp κ') ∧ same [62, 63, 64, 65] [(61, 4), (61, 6)] κ κ' ∧ hk_I κ' 61 4 = n3 1 ∧ layC κ' n z dm F := by
  obtain ⟨κ', e, s, k, l⟩ := c_layOut N κ hS h0 hn hz hB h40 hd hF hdm h9 hc hN
  refine ⟨κ', ?_, s, k, l⟩
  have hn0 : ¬ n = 0 := by omega
  rw [vIn_iff] at ha
  by_cases c : a = -n3 1
  · subst c
    unfold besA
    have l1 : ¬ (-n3 1 : Int32) < -n3 1 := by decide
    have l2 : (-n3 1 : Int32) < n3 n := by rw [lt3 (by omega)]; have : (-n3 1 : Int32).toInt = -1 := rfl; omega
    simp (maxSteps := 400000) (disch := omega) only [n3_l, n3_add, n3_mul, n3_sub, n3_subn, n3_lt, n3_le, n3_eq, n3_eqn, n3_neq, n3_and, n3_or, n3_shl, n3_i, n3_cl, ↓hbd_0, ↓hbd_1, ↓hbd_2, hk_ob_0, hk_rd_0, hk_rd_1, hk_rd_2, hk_al_0, hk_al_1, h3r_0, h3r_1, hk_wi_0, hk_wj_0, h3w_0, h3w_1, h3v_0, hk_kI, hk_kJ, hk_kA, hk_kB, A_eq, A_ne, A_row, B_eq, B_ne, B_row, I_eq, I_ne, J_eq, J_ne, Option.bind_some, Option.some.injEq, if_true, if_false, eq_self, true_or, or_true, true_and, and_true, false_or, or_false, not_true_eq_false, not_false_eq_true, Classical.not_not, nar_b0, nar_b1, rz_0, rz_1, rz_i, ite01, Nat.add_zero, Nat.zero_add, Nat.one_mul, mul12, reduceIte, ra_z0, Nat.reduceEqDiff, Nat.reduceLT, Nat.reduceLeDiff, Nat.reduceAdd, Nat.reduceMul, Nat.reduceSub, Nat.reduceDiv, Nat.reduceMod, Bool.false_eq_true, false_and, and_false, reduceCtorEq, fX11_beside, nX11_beside_26, nX11_beside_59, nX11_beside_0, hS, hn0, e, l1, l2]
  · have c1 : ¬ a.toInt = -1 := fun z => c (by rw [i_eq]; exact z)
    obtain ⟨i, hi, rfl⟩ := n3_ex (x := a) (n := n) (by omega) (by omega)
    unfold besA
    rw [n3_toInt (by omega)]
    have l1 : ¬ n3 i < -n3 1 := by rw [ltm, n3_toInt (by omega)]; omega
    simp (maxSteps := 400000) (disch := omega) only [n3_l, n3_add, n3_mul, n3_sub, n3_subn, n3_lt, n3_le, n3_eq, n3_eqn, n3_neq, n3_and, n3_or, n3_shl, n3_i, n3_cl, ↓hbd_0, ↓hbd_1, ↓hbd_2, hk_ob_0, hk_rd_0, hk_rd_1, hk_rd_2, hk_al_0, hk_al_1, h3r_0, h3r_1, hk_wi_0, hk_wj_0, h3w_0, h3w_1, h3v_0, hk_kI, hk_kJ, hk_kA, hk_kB, A_eq, A_ne, A_row, B_eq, B_ne, B_row, I_eq, I_ne, J_eq, J_ne, Option.bind_some, Option.some.injEq, if_true, if_false, eq_self, true_or, or_true, true_and, and_true, false_or, or_false, not_true_eq_false, not_false_eq_true, Classical.not_not, nar_b0, nar_b1, rz_0, rz_1, rz_i, ite01, Nat.add_zero, Nat.zero_add, Nat.one_mul, mul12, reduceIte, ra_z0, Nat.reduceEqDiff, Nat.reduceLT, Nat.reduceLeDiff, Nat.reduceAdd, Nat.reduceMul, Nat.reduceSub, Nat.reduceDiv, Nat.reduceMod, Bool.false_eq_true, false_and, and_false, reduceCtorEq, fX11_beside, nX11_beside_26, nX11_beside_59, nX11_beside_0, hS, hn0, e, hi, c, l1]
    rfl
theorem r_beside0 {a : Int32} (hS : hk_A κ 71 483 = n3 0) : fX12_beside N 69 a (hp κ) = some (-n3 1, hp (hk_wI κ 69 0 (n3 0))) := by
  simp (maxSteps := 400000) (disch := omega) only [n3_l, n3_add, n3_mul, n3_sub, n3_subn, n3_lt, n3_le, n3_eq, n3_eqn, n3_neq, n3_and, n3_or, n3_shl, n3_i, n3_cl, ↓hbd_0, ↓hbd_1, ↓hbd_2, hk_ob_0, hk_rd_0, hk_rd_1, hk_rd_2, hk_al_0, hk_al_1, h3r_0, h3r_1, hk_wi_0, hk_wj_0, h3w_0, h3w_1, h3v_0, hk_kI, hk_kJ, hk_kA, hk_kB, A_eq, A_ne, A_row, B_eq, B_ne, B_row, I_eq, I_ne, J_eq, J_ne, Option.bind_some, Option.some.injEq, if_true, if_false, eq_self, true_or, or_true, true_and, and_true, false_or, or_false, not_true_eq_false, not_false_eq_true, Classical.not_not, nar_b0, nar_b1, rz_0, rz_1, rz_i, ite01, Nat.add_zero, Nat.zero_add, Nat.one_mul, mul12, reduceIte, ra_z0, Nat.reduceEqDiff, Nat.reduceLT, Nat.reduceLeDiff, Nat.reduceAdd, Nat.reduceMul, Nat.reduceSub, Nat.reduceDiv, Nat.reduceMod, Bool.false_eq_true, false_and, and_false, reduceCtorEq, fX12_beside, nX12_beside_33, nX12_beside_82, nX12_beside_207, nX12_beside_205, nX12_beside_189, nX12_beside_178, nX12_beside_0, hS]
theorem r_besideL {n : Nat} {a : Int32} (hS : hk_A κ 71 483 = n3 n) (hn : n ≤ 9) (h0 : 0 < n) : fX12_beside N 69 a (hp κ) = if vIn (-1) (n - 1) a = true then (fX12_rowAll N 69 (n3 n) (hp (hk_wI κ 69 0 (n3 0)))).bind (fun h => nX12_beside_47 N N 69 a (n3 n) (n3 1000000) (n3 0) h) else some (-n3 1, hp (hk_wI κ 69 0 (n3 0))) := by
  have hn0 : ¬ n = 0 := by omega
  have e1 : (-1 : Int64).toInt = -1 := by decide
  have e2 : (Int32.toInt64 (n3 n) - (1 : Int64)).toInt = (n : Int) - 1 := by
    rw [Int64.toInt_sub, Int32.toInt_toInt64, n3_toInt (by omega)]
    have : (1 : Int64).toInt = 1 := by decide
    rw [this, Int.bmod_eq_of_le (by omega) (by omega)]
  by_cases c : vIn (-1) (n - 1) a = true
  · rw [if_pos c]
    simp (maxSteps := 400000) (disch := omega) only [n3_l, n3_add, n3_mul, n3_sub, n3_subn, n3_lt, n3_le, n3_eq, n3_eqn, n3_neq, n3_and, n3_or, n3_shl, n3_i, n3_cl, ↓hbd_0, ↓hbd_1, ↓hbd_2, hk_ob_0, hk_rd_0, hk_rd_1, hk_rd_2, hk_al_0, hk_al_1, h3r_0, h3r_1, hk_wi_0, hk_wj_0, h3w_0, h3w_1, h3v_0, hk_kI, hk_kJ, hk_kA, hk_kB, A_eq, A_ne, A_row, B_eq, B_ne, B_row, I_eq, I_ne, J_eq, J_ne, Option.bind_some, Option.some.injEq, if_true, if_false, eq_self, true_or, or_true, true_and, and_true, false_or, or_false, not_true_eq_false, not_false_eq_true, Classical.not_not, nar_b0, nar_b1, rz_0, rz_1, rz_i, ite01, Nat.add_zero, Nat.zero_add, Nat.one_mul, mul12, reduceIte, ra_z0, Nat.reduceEqDiff, Nat.reduceLT, Nat.reduceLeDiff, Nat.reduceAdd, Nat.reduceMul, Nat.reduceSub, Nat.reduceDiv, Nat.reduceMod, Bool.false_eq_true, false_and, and_false, reduceCtorEq, fX12_beside, nX12_beside_33, nX12_beside_82, nX12_beside_207, nX12_beside_205, nX12_beside_189, nX12_beside_178, nX12_beside_0, hS, hn0, r_in32, e1, e2, c]
  · rw [if_neg c]
    simp (maxSteps := 400000) (disch := omega) only [n3_l, n3_add, n3_mul, n3_sub, n3_subn, n3_lt, n3_le, n3_eq, n3_eqn, n3_neq, n3_and, n3_or, n3_shl, n3_i, n3_cl, ↓hbd_0, ↓hbd_1, ↓hbd_2, hk_ob_0, hk_rd_0, hk_rd_1, hk_rd_2, hk_al_0, hk_al_1, h3r_0, h3r_1, hk_wi_0, hk_wj_0, h3w_0, h3w_1, h3v_0, hk_kI, hk_kJ, hk_kA, hk_kB, A_eq, A_ne, A_row, B_eq, B_ne, B_row, I_eq, I_ne, J_eq, J_ne, Option.bind_some, Option.some.injEq, if_true, if_false, eq_self, true_or, or_true, true_and, and_true, false_or, or_false, not_true_eq_false, not_false_eq_true, Classical.not_not, nar_b0, nar_b1, rz_0, rz_1, rz_i, ite01, Nat.add_zero, Nat.zero_add, Nat.one_mul, mul12, reduceIte, ra_z0, Nat.reduceEqDiff, Nat.reduceLT, Nat.reduceLeDiff, Nat.reduceAdd, Nat.reduceMul, Nat.reduceSub, Nat.reduceDiv, Nat.reduceMod, Bool.false_eq_true, false_and, and_false, reduceCtorEq, fX12_beside, nX12_beside_33, nX12_beside_82, nX12_beside_207, nX12_beside_205, nX12_beside_189, nX12_beside_178, nX12_beside_0, hS, hn0, r_in32, e1, e2, c]
end
/-- the least, from a bound on -/
def mnS (v : Nat → Nat) (c : Nat → Prop) [DecidablePred c] (b : Nat) (y : Nat) : Nat := if c b then (if v b < y then v b else y) else y
theorem mn_nr (v : Nat → Nat) (c : Nat → Prop) [DecidablePred c] (M : Nat) (hv : ∀ k, v k < M) : ∀ n, n ≤ 1000 → fo (mnS v c) 0 n M = if (fo (nrS v c) 0 n (-n3 1, 0)).1 = -n3 1 then M else (fo (nrS v c) 0 n (-n3 1, 0)).2 := by
  intro n
  induction n with
  | zero => intro _; rfl
  | succ n ih =>
    intro hn
    have nb : ¬ n3 n = -n3 1 := fun z => (n3_eqn (by omega) (by omega) (by omega)).mp z
    rw [fo_last, fo_last, ih (by omega), Nat.zero_add]
    generalize fo (nrS v c) 0 n (-n3 1, 0) = q
    unfold mnS nrS
    by_cases h : c n
    · rw [if_pos h, if_pos h]
      by_cases h1 : q.1 = -n3 1
      · rw [if_pos h1, if_pos (hv n), if_pos (Or.inl h1), if_neg nb]
      · rw [if_neg h1]
        by_cases h2 : v n < q.2
        · rw [if_pos h2, if_pos (Or.inr h2), if_neg nb]
        · have hor : ¬ (q.1 = -n3 1 ∨ v n < q.2) := by
            rintro (z | z)
            · exact h1 z
            · exact h2 z
          rw [if_neg h2, if_neg hor, if_neg h1]
    · rw [if_neg h, if_neg h]
theorem not_full {n s : Nat} (hs : s < 2 ^ n) (h : ¬ s = 2 ^ n - 1) : ∃ k, k < n ∧ ¬ s.testBit k = true := by
  apply Classical.byContradiction
  intro hx
  apply h
  apply Nat.eq_of_testBit_eq
  intro j
  rw [Nat.testBit_two_pow_sub_one]
  by_cases c : j < n
  · rw [decide_eq_true c]
    exact Classical.byContradiction fun z => hx ⟨j, c, z⟩
  · rw [decide_eq_false c]
    exact Nat.testBit_lt_two_pow (Nat.lt_of_lt_of_le hs (Nat.pow_le_pow_right (by omega) (by omega)))
theorem full_bit {n k : Nat} (h : k < n) : (2 ^ n - 1).testBit k = true := by rw [Nat.testBit_two_pow_sub_one, decide_eq_true h]
