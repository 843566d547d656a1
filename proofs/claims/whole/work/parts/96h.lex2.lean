/-! advance -/
section
variable (N : Nat) (κ : hk_T)
theorem cTape.same {κ κ' : hk_T} {B : Nat → Nat} {n : Nat} {ks : List Nat} {fs : List (Nat × Nat)} (h : cTape κ B n) (s : same ks fs κ κ') (h1 : 17 ∉ ks) (h2 : (16, 1) ∉ fs) : cTape κ' B n := by
  obtain ⟨a, b, c⟩ := h
  exact ⟨a, by rw [s.2.2.1 16 1 h2]; exact b, by rw [s.1 17 h1]; exact c⟩
/-- the token's beginning is known -/
def k38 (κ : hk_T) (j : Nat) (k : Int32) : hk_T := hk_wI (hk_wI (hk_wI κ 16 2 (n3 j)) 16 10 (n3 0)) 16 9 k
theorem k38_s (j : Nat) (k : Int32) : same [] [(16, 2), (16, 9), (16, 10), (16, 11)] κ (k38 κ j k) := (((same.refl _ _ _).wI (by decide)).wI (by decide)).wI (by decide)
theorem k38_11 {j : Nat} {k : Int32} (h11 : hk_I κ 16 11 = n3 j) : hk_I (k38 κ j k) 16 11 = n3 j := by unfold k38; rw [I_ne (Or.inr (by decide)), I_ne (Or.inr (by decide)), I_ne (Or.inr (by decide))]; exact h11
theorem k38_2 (j : Nat) (k : Int32) : hk_I (k38 κ j k) 16 2 = n3 j := by unfold k38; rw [I_ne (Or.inr (by decide)), I_ne (Or.inr (by decide)), I_eq]
theorem k38_10 (j : Nat) (k : Int32) : hk_I (k38 κ j k) 16 10 = n3 0 := by unfold k38; rw [I_ne (Or.inr (by decide)), I_eq]
theorem k38_9 (j : Nat) (k : Int32) : hk_I (k38 κ j k) 16 9 = k := by unfold k38; rw [I_eq]
/-- from, value; then what kind -/
theorem c_38p {B : Nat → Nat} {n j : Nat} (hT : cTape κ B n) (h11 : hk_I κ 16 11 = n3 j) : ∃ κb, κb = hk_wI (hk_wI κ 16 2 (n3 j)) 16 10 (n3 0) ∧ hk_I κb 16 2 = n3 j ∧ hk_I κb 16 1 = n3 n ∧ hk_I κb 16 11 = n3 j ∧ hk_A κb 17 = hk_A κ 17 ∧ ∀ F : ra_H → Option ra_H, ((ra_fI (hp κ) 8 16 11).bind fun x1 => (ra_fW (hp κ) 8 16 2 (.int x1)).bind fun h2 => (ra_fW h2 8 16 10 (.int ((0 : Int32)))).bind fun h3 => F h3) = F (hp κb) := by
  obtain ⟨n4, h1, hB⟩ := hT
  have a1 : ra_fI (hp κ) 8 16 11 = some (n3 j) := by simp (maxSteps := 400000) (disch := omega) only [n3_l, n3_add, n3_mul, n3_sub, n3_subn, n3_lt, n3_le, n3_eq, n3_eqn, n3_neq, n3_and, n3_or, n3_shl, n3_i, n3_cl, ↓hbd_0, ↓hbd_1, ↓hbd_2, hk_ob_0, hk_rd_0, hk_rd_1, hk_rd_2, hk_al_0, hk_al_1, h3r_0, h3r_1, hk_wi_0, hk_wj_0, h3w_0, h3w_1, h3v_0, hk_kI, hk_kJ, hk_kA, hk_kB, A_eq, A_ne, A_row, B_eq, B_ne, B_row, I_eq, I_ne, J_eq, J_ne, Option.bind_some, Option.some.injEq, if_true, if_false, eq_self, true_or, or_true, true_and, and_true, false_or, or_false, not_true_eq_false, not_false_eq_true, Classical.not_not, nar_b0, nar_b1, rz_0, rz_1, rz_i, ite01, Nat.add_zero, Nat.zero_add, Nat.one_mul, mul12, reduceIte, ra_z0, Nat.reduceEqDiff, Nat.reduceLT, Nat.reduceLeDiff, Nat.reduceAdd, Nat.reduceMul, Nat.reduceSub, Nat.reduceDiv, Nat.reduceMod, Bool.false_eq_true, false_and, and_false, reduceCtorEq, h11]
  have a2 : ra_fW (hp κ) 8 16 2 (.int (n3 j)) = some (hp (hk_wI κ 16 2 (n3 j))) := by simp (maxSteps := 400000) (disch := omega) only [n3_l, n3_add, n3_mul, n3_sub, n3_subn, n3_lt, n3_le, n3_eq, n3_eqn, n3_neq, n3_and, n3_or, n3_shl, n3_i, n3_cl, ↓hbd_0, ↓hbd_1, ↓hbd_2, hk_ob_0, hk_rd_0, hk_rd_1, hk_rd_2, hk_al_0, hk_al_1, h3r_0, h3r_1, hk_wi_0, hk_wj_0, h3w_0, h3w_1, h3v_0, hk_kI, hk_kJ, hk_kA, hk_kB, A_eq, A_ne, A_row, B_eq, B_ne, B_row, I_eq, I_ne, J_eq, J_ne, Option.bind_some, Option.some.injEq, if_true, if_false, eq_self, true_or, or_true, true_and, and_true, false_or, or_false, not_true_eq_false, not_false_eq_true, Classical.not_not, nar_b0, nar_b1, rz_0, rz_1, rz_i, ite01, Nat.add_zero, Nat.zero_add, Nat.one_mul, mul12, reduceIte, ra_z0, Nat.reduceEqDiff, Nat.reduceLT, Nat.reduceLeDiff, Nat.reduceAdd, Nat.reduceMul, Nat.reduceSub, Nat.reduceDiv, Nat.reduceMod, Bool.false_eq_true, false_and, and_false, reduceCtorEq]
  obtain ⟨κa, ha⟩ : ∃ κa, κa = hk_wI κ 16 2 (n3 j) := ⟨_, rfl⟩
  rw [← ha] at a2
  have a3 : ra_fW (hp κa) 8 16 10 (.int ((0 : Int32))) = some (hp (hk_wI κa 16 10 (n3 0))) := by simp (maxSteps := 400000) (disch := omega) only [n3_l, n3_add, n3_mul, n3_sub, n3_subn, n3_lt, n3_le, n3_eq, n3_eqn, n3_neq, n3_and, n3_or, n3_shl, n3_i, n3_cl, ↓hbd_0, ↓hbd_1, ↓hbd_2, hk_ob_0, hk_rd_0, hk_rd_1, hk_rd_2, hk_al_0, hk_al_1, h3r_0, h3r_1, hk_wi_0, hk_wj_0, h3w_0, h3w_1, h3v_0, hk_kI, hk_kJ, hk_kA, hk_kB, A_eq, A_ne, A_row, B_eq, B_ne, B_row, I_eq, I_ne, J_eq, J_ne, Option.bind_some, Option.some.injEq, if_true, if_false, eq_self, true_or, or_true, true_and, and_true, false_or, or_false, not_true_eq_false, not_false_eq_true, Classical.not_not, nar_b0, nar_b1, rz_0, rz_1, rz_i, ite01, Nat.add_zero, Nat.zero_add, Nat.one_mul, mul12, reduceIte, ra_z0, Nat.reduceEqDiff, Nat.reduceLT, Nat.reduceLeDiff, Nat.reduceAdd, Nat.reduceMul, Nat.reduceSub, Nat.reduceDiv, Nat.reduceMod, Bool.false_eq_true, false_and, and_false, reduceCtorEq]
  refine ⟨hk_wI κa 16 10 (n3 0), by rw [ha], ?_, ?_, ?_, ?_, ?_⟩
  · rw [I_ne (Or.inr (by decide)), ha, I_eq]
  · rw [I_ne (Or.inr (by decide)), ha, I_ne (Or.inr (by decide))]; exact h1
  · rw [I_ne (Or.inr (by decide)), ha, I_ne (Or.inr (by decide))]; exact h11
  · rw [ha]; rfl
  · intro F
    simp only [a1, Option.bind_some, a2, a3]
theorem c_38a {B : Nat → Nat} {n j : Nat} (hT : cTape κ B n) (h11 : hk_I κ 16 11 = n3 j) (c : j < n) (cl : isL (B j)) : nX8_advance_38 N 16 (hp κ) = nX8_advance_90 N N 16 (hp (k38 κ j (n3 1))) := by
  obtain ⟨κb, hb, q2, q1, q11, q17, st⟩ := c_38p κ hT h11
  obtain ⟨n4, h1, hB⟩ := hT
  obtain ⟨bj, bj2⟩ := hB j c
  have bj' : hk_A κb 17 j = n3 (B j) := by rw [q17]; exact bj
  have il := c_isLetter N (h := hp κb) bj2
  rw [if_pos cl] at il
  unfold nX8_advance_38 k38
  rw [← hb, st]
  simp (maxSteps := 400000) (disch := omega) only [n3_l, n3_add, n3_mul, n3_sub, n3_subn, n3_lt, n3_le, n3_eq, n3_eqn, n3_neq, n3_and, n3_or, n3_shl, n3_i, n3_cl, ↓hbd_0, ↓hbd_1, ↓hbd_2, hk_ob_0, hk_rd_0, hk_rd_1, hk_rd_2, hk_al_0, hk_al_1, h3r_0, h3r_1, hk_wi_0, hk_wj_0, h3w_0, h3w_1, h3v_0, hk_kI, hk_kJ, hk_kA, hk_kB, A_eq, A_ne, A_row, B_eq, B_ne, B_row, I_eq, I_ne, J_eq, J_ne, Option.bind_some, Option.some.injEq, if_true, if_false, eq_self, true_or, or_true, true_and, and_true, false_or, or_false, not_true_eq_false, not_false_eq_true, Classical.not_not, nar_b0, nar_b1, rz_0, rz_1, rz_i, ite01, Nat.add_zero, Nat.zero_add, Nat.one_mul, mul12, reduceIte, ra_z0, Nat.reduceEqDiff, Nat.reduceLT, Nat.reduceLeDiff, Nat.reduceAdd, Nat.reduceMul, Nat.reduceSub, Nat.reduceDiv, Nat.reduceMod, Bool.false_eq_true, false_and, and_false, reduceCtorEq, q2, q1, c, bj', il]
theorem c_38b {B : Nat → Nat} {n j : Nat} (hT : cTape κ B n) (h11 : hk_I κ 16 11 = n3 j) (c : j < n) (cl : ¬ isL (B j)) (cd : isD (B j)) : nX8_advance_38 N 16 (hp κ) = nX8_advance_149 N N 16 (hp (k38 κ j (n3 2))) := by
  obtain ⟨κb, hb, q2, q1, q11, q17, st⟩ := c_38p κ hT h11
  obtain ⟨n4, h1, hB⟩ := hT
  obtain ⟨bj, bj2⟩ := hB j c
  have bj' : hk_A κb 17 j = n3 (B j) := by rw [q17]; exact bj
  have il := c_isLetter N (h := hp κb) bj2
  rw [if_neg cl] at il
  have id := c_isDigit N (h := hp κb) bj2
  rw [if_pos cd] at id
  unfold nX8_advance_38 k38
  rw [← hb, st]
  simp (maxSteps := 400000) (disch := omega) only [n3_l, n3_add, n3_mul, n3_sub, n3_subn, n3_lt, n3_le, n3_eq, n3_eqn, n3_neq, n3_and, n3_or, n3_shl, n3_i, n3_cl, ↓hbd_0, ↓hbd_1, ↓hbd_2, hk_ob_0, hk_rd_0, hk_rd_1, hk_rd_2, hk_al_0, hk_al_1, h3r_0, h3r_1, hk_wi_0, hk_wj_0, h3w_0, h3w_1, h3v_0, hk_kI, hk_kJ, hk_kA, hk_kB, A_eq, A_ne, A_row, B_eq, B_ne, B_row, I_eq, I_ne, J_eq, J_ne, Option.bind_some, Option.some.injEq, if_true, if_false, eq_self, true_or, or_true, true_and, and_true, false_or, or_false, not_true_eq_false, not_false_eq_true, Classical.not_not, nar_b0, nar_b1, rz_0, rz_1, rz_i, ite01, Nat.add_zero, Nat.zero_add, Nat.one_mul, mul12, reduceIte, ra_z0, Nat.reduceEqDiff, Nat.reduceLT, Nat.reduceLeDiff, Nat.reduceAdd, Nat.reduceMul, Nat.reduceSub, Nat.reduceDiv, Nat.reduceMod, Bool.false_eq_true, false_and, and_false, reduceCtorEq, q2, q1, c, bj', il, id]
theorem c_38c {B : Nat → Nat} {n j : Nat} (hT : cTape κ B n) (h11 : hk_I κ 16 11 = n3 j) (c : j < n) (cl : ¬ isL (B j)) (cd : ¬ isD (B j)) : nX8_advance_38 N 16 (hp κ) = some (hp (hk_wI (hk_wI (k38 κ j (n3 3)) 16 10 (n3 (B j))) 16 11 (n3 (j + 1)))) := by
  obtain ⟨κb, hb, q2, q1, q11, q17, st⟩ := c_38p κ hT h11
  obtain ⟨n4, h1, hB⟩ := hT
  obtain ⟨bj, bj2⟩ := hB j c
  have bj' : hk_A κb 17 j = n3 (B j) := by rw [q17]; exact bj
  have il := c_isLetter N (h := hp κb) bj2
  rw [if_neg cl] at il
  have id := c_isDigit N (h := hp κb) bj2
  rw [if_neg cd] at id
  unfold nX8_advance_38 k38
  rw [← hb, st]
  simp (maxSteps := 400000) (disch := omega) only [n3_l, n3_add, n3_mul, n3_sub, n3_subn, n3_lt, n3_le, n3_eq, n3_eqn, n3_neq, n3_and, n3_or, n3_shl, n3_i, n3_cl, ↓hbd_0, ↓hbd_1, ↓hbd_2, hk_ob_0, hk_rd_0, hk_rd_1, hk_rd_2, hk_al_0, hk_al_1, h3r_0, h3r_1, hk_wi_0, hk_wj_0, h3w_0, h3w_1, h3v_0, hk_kI, hk_kJ, hk_kA, hk_kB, A_eq, A_ne, A_row, B_eq, B_ne, B_row, I_eq, I_ne, J_eq, J_ne, Option.bind_some, Option.some.injEq, if_true, if_false, eq_self, true_or, or_true, true_and, and_true, false_or, or_false, not_true_eq_false, not_false_eq_true, Classical.not_not, nar_b0, nar_b1, rz_0, rz_1, rz_i, ite01, Nat.add_zero, Nat.zero_add, Nat.one_mul, mul12, reduceIte, ra_z0, Nat.reduceEqDiff, Nat.reduceLT, Nat.reduceLeDiff, Nat.reduceAdd, Nat.reduceMul, Nat.reduceSub, Nat.reduceDiv, Nat.reduceMod, Bool.false_eq_true, false_and, and_false, reduceCtorEq, q2, q1, c, bj', il, id, q11, nX8_advance_246]
theorem c_38d {B : Nat → Nat} {n j : Nat} (hT : cTape κ B n) (h11 : hk_I κ 16 11 = n3 j) (jn : j ≤ n) (c : ¬ j < n) : nX8_advance_38 N 16 (hp κ) = some (hp (k38 κ j (n3 0))) := by
  obtain ⟨κb, hb, q2, q1, q11, q17, st⟩ := c_38p κ hT h11
  obtain ⟨n4, h1, hB⟩ := hT
  unfold nX8_advance_38 k38
  rw [← hb, st]
  simp (maxSteps := 400000) (disch := omega) only [n3_l, n3_add, n3_mul, n3_sub, n3_subn, n3_lt, n3_le, n3_eq, n3_eqn, n3_neq, n3_and, n3_or, n3_shl, n3_i, n3_cl, ↓hbd_0, ↓hbd_1, ↓hbd_2, hk_ob_0, hk_rd_0, hk_rd_1, hk_rd_2, hk_al_0, hk_al_1, h3r_0, h3r_1, hk_wi_0, hk_wj_0, h3w_0, h3w_1, h3v_0, hk_kI, hk_kJ, hk_kA, hk_kB, A_eq, A_ne, A_row, B_eq, B_ne, B_row, I_eq, I_ne, J_eq, J_ne, Option.bind_some, Option.some.injEq, if_true, if_false, eq_self, true_or, or_true, true_and, and_true, false_or, or_false, not_true_eq_false, not_false_eq_true, Classical.not_not, nar_b0, nar_b1, rz_0, rz_1, rz_i, ite01, Nat.add_zero, Nat.zero_add, Nat.one_mul, mul12, reduceIte, ra_z0, Nat.reduceEqDiff, Nat.reduceLT, Nat.reduceLeDiff, Nat.reduceAdd, Nat.reduceMul, Nat.reduceSub, Nat.reduceDiv, Nat.reduceMod, Bool.false_eq_true, false_and, and_false, reduceCtorEq, q2, q1, c, nX8_advance_246]
theorem c_adv38 {B : Nat → Nat} {n j : Nat} (hT : cTape κ B n) (jn : j ≤ n) (h11 : hk_I κ 16 11 = n3 j) (hN : 1000 < N) : ∃ κ', nX8_advance_38 N 16 (hp κ) = some (hp κ') ∧ same [] [(16, 2), (16, 9), (16, 10), (16, 11)] κ κ' ∧ cTok κ' B n j := by
  by_cases c : j < n
  · have cn : ¬ n ≤ j := by omega
    by_cases cl : isL (B j)
    · have kk : tkK B n j = 1 := by unfold tkK; rw [if_neg cn, if_pos cl]
      have ke : tkE B n j = scn (fun i => isL (B i)) n j := by unfold tkE; rw [if_neg cn, if_pos cl]
      have kv : tkV B n j = 0 := by unfold tkV; rw [kk, if_neg (by decide), if_neg (by decide)]
      obtain ⟨κ3, e3, j1, j2⟩ := c_advW N (k38 κ j (n3 1)) (hT.same (k38_s κ j _) (by decide) (by decide)) jn (k38_11 κ h11) hN
      refine ⟨κ3, (c_38a N κ hT h11 c cl).trans e3, (k38_s κ j _).trans (j1.weak (by decide) (by decide)), jn, ?_, ?_, ?_, ?_⟩
      · rw [j1.2.2.1 16 2 (by decide)]; exact k38_2 κ j _
      · rw [ke]; exact j2
      · rw [j1.2.2.1 16 9 (by decide), kk]; exact k38_9 κ j _
      · rw [j1.2.2.1 16 10 (by decide), kv]; exact k38_10 κ j _
    · by_cases cd : isD (B j)
      · have kk : tkK B n j = 2 := by unfold tkK; rw [if_neg cn, if_neg cl, if_pos cd]
        have ke : tkE B n j = scn (fun i => isD (B i)) n j := by unfold tkE; rw [if_neg cn, if_neg cl, if_pos cd]
        have kv : tkV B n j = numC B j (tkE B n j) := by unfold tkV; rw [kk, if_pos rfl]
        obtain ⟨κ3, e3, j1, j2, j3'⟩ := c_advD N (k38 κ j (n3 2)) (hT.same (k38_s κ j _) (by decide) (by decide)) jn (k38_11 κ h11) (k38_10 κ j _) hN
        refine ⟨κ3, (c_38b N κ hT h11 c cl cd).trans e3, (k38_s κ j _).trans (j1.weak (by decide) (by decide)), jn, ?_, ?_, ?_, ?_⟩
        · rw [j1.2.2.1 16 2 (by decide)]; exact k38_2 κ j _
        · rw [ke]; exact j2
        · rw [j1.2.2.1 16 9 (by decide), kk]; exact k38_9 κ j _
        · rw [kv, ke]; exact j3'
      · have kk : tkK B n j = 3 := by unfold tkK; rw [if_neg cn, if_neg cl, if_neg cd]
        have ke : tkE B n j = j + 1 := by unfold tkE; rw [if_neg cn, if_neg cl, if_neg cd]
        have kv : tkV B n j = B j := by unfold tkV; rw [kk, if_neg (by decide), if_pos rfl]
        refine ⟨_, c_38c N κ hT h11 c cl cd, ((k38_s κ j _).wI (by decide)).wI (by decide), jn, ?_, ?_, ?_, ?_⟩
        · rw [I_ne (Or.inr (by decide)), I_ne (Or.inr (by decide))]; exact k38_2 κ j _
        · rw [ke, I_eq]
        · rw [I_ne (Or.inr (by decide)), I_ne (Or.inr (by decide)), kk]; exact k38_9 κ j _
        · rw [I_ne (Or.inr (by decide)), I_eq, kv]
  · have cn : n ≤ j := by omega
    have kk : tkK B n j = 0 := by unfold tkK; rw [if_pos cn]
    have ke : tkE B n j = j := by unfold tkE; rw [if_pos cn]
    have kv : tkV B n j = 0 := by unfold tkV; rw [kk, if_neg (by decide), if_neg (by decide)]
    refine ⟨_, c_38d N κ hT h11 jn c, k38_s κ j _, jn, k38_2 κ j _, ?_, ?_, ?_⟩
    · rw [ke]; exact k38_11 κ h11
    · rw [kk]; exact k38_9 κ j _
    · rw [kv]; exact k38_10 κ j _
theorem c_advance {B : Nat → Nat} {n p : Nat} (hT : cTape κ B n) (hp' : p ≤ n) (h11 : hk_I κ 16 11 = n3 p) (hN : 1000 < N) :
    ∃ κ', fX8_advance N 16 (hp κ) = some (hp κ') ∧ same [] [(16, 2), (16, 9), (16, 10), (16, 11)] κ κ' ∧ cTok κ' B n (tkS B n p) := by
  have hT' := hT
  obtain ⟨n4, h1, hB⟩ := hT
  obtain ⟨κ1, e1, i1, i2⟩ := lpw (fun m _ (s : hk_T) => nX8_advance_0 N m 16 (hp s)) n (fun i => B i = 32) (fun _ s => nX8_advance_38 N 16 (hp s)) (fun j s => same [] [(16, 11)] κ s ∧ hk_I s 16 11 = n3 j) (by
    rintro m j s hj hq ⟨i1, i2⟩
    have r1 : hk_I s 16 1 = n3 n := by rw [i1.2.2.1 16 1 (by decide)]; exact h1
    have rb : hk_A s 17 j = n3 (B j) := by rw [i1.1 17 (by decide)]; exact (hB j hj).1
    rw [hq] at rb
    refine ⟨hk_wI s 16 11 (n3 (j + 1)), ?_, i1.wI (by decide), I_eq⟩
    show nX8_advance_0 N (m + 1) 16 (hp s) = _
    rw [nX8_advance_0]
    simp (maxSteps := 400000) (disch := omega) only [n3_l, n3_add, n3_mul, n3_sub, n3_subn, n3_lt, n3_le, n3_eq, n3_eqn, n3_neq, n3_and, n3_or, n3_shl, n3_i, n3_cl, ↓hbd_0, ↓hbd_1, ↓hbd_2, hk_ob_0, hk_rd_0, hk_rd_1, hk_rd_2, hk_al_0, hk_al_1, h3r_0, h3r_1, hk_wi_0, hk_wj_0, h3w_0, h3w_1, h3v_0, hk_kI, hk_kJ, hk_kA, hk_kB, A_eq, A_ne, A_row, B_eq, B_ne, B_row, I_eq, I_ne, J_eq, J_ne, Option.bind_some, Option.some.injEq, if_true, if_false, eq_self, true_or, or_true, true_and, and_true, false_or, or_false, not_true_eq_false, not_false_eq_true, Classical.not_not, nar_b0, nar_b1, rz_0, rz_1, rz_i, ite01, Nat.add_zero, Nat.zero_add, Nat.one_mul, mul12, reduceIte, ra_z0, Nat.reduceEqDiff, Nat.reduceLT, Nat.reduceLeDiff, Nat.reduceAdd, Nat.reduceMul, Nat.reduceSub, Nat.reduceDiv, Nat.reduceMod, Bool.false_eq_true, false_and, and_false, reduceCtorEq, i2, r1, hj, rb]) (by
    rintro m j s hj hq ⟨i1, i2⟩
    have r1 : hk_I s 16 1 = n3 n := by rw [i1.2.2.1 16 1 (by decide)]; exact h1
    show nX8_advance_0 N (m + 1) 16 (hp s) = _
    rw [nX8_advance_0]
    by_cases c : j < n
    · obtain ⟨b1, b2⟩ := hB j c
      have rb : hk_A s 17 j = n3 (B j) := by rw [i1.1 17 (by decide)]; exact b1
      have c2 : ¬ B j = 32 := fun z => hq ⟨c, z⟩
      simp (maxSteps := 400000) (disch := omega) only [n3_l, n3_add, n3_mul, n3_sub, n3_subn, n3_lt, n3_le, n3_eq, n3_eqn, n3_neq, n3_and, n3_or, n3_shl, n3_i, n3_cl, ↓hbd_0, ↓hbd_1, ↓hbd_2, hk_ob_0, hk_rd_0, hk_rd_1, hk_rd_2, hk_al_0, hk_al_1, h3r_0, h3r_1, hk_wi_0, hk_wj_0, h3w_0, h3w_1, h3v_0, hk_kI, hk_kJ, hk_kA, hk_kB, A_eq, A_ne, A_row, B_eq, B_ne, B_row, I_eq, I_ne, J_eq, J_ne, Option.bind_some, Option.some.injEq, if_true, if_false, eq_self, true_or, or_true, true_and, and_true, false_or, or_false, not_true_eq_false, not_false_eq_true, Classical.not_not, nar_b0, nar_b1, rz_0, rz_1, rz_i, ite01, Nat.add_zero, Nat.zero_add, Nat.one_mul, mul12, reduceIte, ra_z0, Nat.reduceEqDiff, Nat.reduceLT, Nat.reduceLeDiff, Nat.reduceAdd, Nat.reduceMul, Nat.reduceSub, Nat.reduceDiv, Nat.reduceMod, Bool.false_eq_true, false_and, and_false, reduceCtorEq, i2, r1, c, rb, c2]
    · simp (maxSteps := 400000) (disch := omega) only [n3_l, n3_add, n3_mul, n3_sub, n3_subn, n3_lt, n3_le, n3_eq, n3_eqn, n3_neq, n3_and, n3_or, n3_shl, n3_i, n3_cl, ↓hbd_0, ↓hbd_1, ↓hbd_2, hk_ob_0, hk_rd_0, hk_rd_1, hk_rd_2, hk_al_0, hk_al_1, h3r_0, h3r_1, hk_wi_0, hk_wj_0, h3w_0, h3w_1, h3v_0, hk_kI, hk_kJ, hk_kA, hk_kB, A_eq, A_ne, A_row, B_eq, B_ne, B_row, I_eq, I_ne, J_eq, J_ne, Option.bind_some, Option.some.injEq, if_true, if_false, eq_self, true_or, or_true, true_and, and_true, false_or, or_false, not_true_eq_false, not_false_eq_true, Classical.not_not, nar_b0, nar_b1, rz_0, rz_1, rz_i, ite01, Nat.add_zero, Nat.zero_add, Nat.one_mul, mul12, reduceIte, ra_z0, Nat.reduceEqDiff, Nat.reduceLT, Nat.reduceLeDiff, Nat.reduceAdd, Nat.reduceMul, Nat.reduceSub, Nat.reduceDiv, Nat.reduceMod, Bool.false_eq_true, false_and, and_false, reduceCtorEq, i2, r1, c]) (n - p) p N κ (by omega) (by omega) ⟨same.refl _ _ _, h11⟩
  have e0 : nX8_advance_0 N N 16 (hp κ) = nX8_advance_38 N 16 (hp κ1) := e1
  have i2' : hk_I κ1 16 11 = n3 (tkS B n p) := i2
  obtain ⟨κ', f1, f2, f3⟩ := c_adv38 N κ1 (hT'.same i1 (by decide) (by decide)) (tkS_le hp').2 i2' hN
  refine ⟨κ', ?_, (i1.weak (by decide) (by decide)).trans f2, f3⟩
  unfold fX8_advance
  simp (maxSteps := 400000) (disch := omega) only [n3_l, n3_add, n3_mul, n3_sub, n3_subn, n3_lt, n3_le, n3_eq, n3_eqn, n3_neq, n3_and, n3_or, n3_shl, n3_i, n3_cl, ↓hbd_0, ↓hbd_1, ↓hbd_2, hk_ob_0, hk_rd_0, hk_rd_1, hk_rd_2, hk_al_0, hk_al_1, h3r_0, h3r_1, hk_wi_0, hk_wj_0, h3w_0, h3w_1, h3v_0, hk_kI, hk_kJ, hk_kA, hk_kB, A_eq, A_ne, A_row, B_eq, B_ne, B_row, I_eq, I_ne, J_eq, J_ne, Option.bind_some, Option.some.injEq, if_true, if_false, eq_self, true_or, or_true, true_and, and_true, false_or, or_false, not_true_eq_false, not_false_eq_true, Classical.not_not, nar_b0, nar_b1, rz_0, rz_1, rz_i, ite01, Nat.add_zero, Nat.zero_add, Nat.one_mul, mul12, reduceIte, ra_z0, Nat.reduceEqDiff, Nat.reduceLT, Nat.reduceLeDiff, Nat.reduceAdd, Nat.reduceMul, Nat.reduceSub, Nat.reduceDiv, Nat.reduceMod, Bool.false_eq_true, false_and, and_false, reduceCtorEq]
  rw [e0, f1]
end
