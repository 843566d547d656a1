/-! the class's reader: a term, a sum -/
section
variable (N : Nat) (κ : hk_T)
theorem cRet.rz {κ : hk_T} {B : Nat → Nat} {n j k f : Nat} {K : Nat → Nat} {tst : Prop} {r : pRT} {run : Option (Int32 × ra_H)} (h : cRet κ B n j k f K tst r run) : cRet κ B n j k f K tst r (run.bind (fun q => ra_rz q.1 q.2)) := by
  cases r with
  | inl e =>
    obtain ⟨κ', e1, e2⟩ := h
    refine ⟨κ', ?_, e2⟩
    rw [e1]
    simp (maxSteps := 400000) (disch := omega) only [n3_l, n3_add, n3_mul, n3_sub, n3_subn, n3_lt, n3_le, n3_eq, n3_eqn, n3_neq, n3_and, n3_or, n3_shl, n3_i, n3_cl, ↓hbd_0, ↓hbd_1, ↓hbd_2, hk_ob_0, hk_rd_0, hk_rd_1, hk_rd_2, hk_al_0, hk_al_1, h3r_0, h3r_1, hk_wi_0, hk_wj_0, h3w_0, h3w_1, h3v_0, hk_kI, hk_kJ, hk_kA, hk_kB, A_eq, A_ne, A_row, B_eq, B_ne, B_row, I_eq, I_ne, J_eq, J_ne, Option.bind_some, Option.some.injEq, if_true, if_false, eq_self, true_or, or_true, true_and, and_true, false_or, or_false, not_true_eq_false, not_false_eq_true, Classical.not_not, nar_b0, nar_b1, rz_0, rz_1, rz_i, ite01, Nat.add_zero, Nat.zero_add, Nat.one_mul, mul12, reduceIte, ra_z0, Nat.reduceEqDiff, Nat.reduceLT, Nat.reduceLeDiff, Nat.reduceAdd, Nat.reduceMul, Nat.reduceSub, Nat.reduceDiv, Nat.reduceMod, Bool.false_eq_true, false_and, and_false, reduceCtorEq]
  | inr t =>
    obtain ⟨j1, k1, v⟩ := t
    obtain ⟨κ', f', K', e1, e2⟩ := h
    refine ⟨κ', f', K', ?_, e2⟩
    rw [e1]
    simp (maxSteps := 400000) (disch := omega) only [n3_l, n3_add, n3_mul, n3_sub, n3_subn, n3_lt, n3_le, n3_eq, n3_eqn, n3_neq, n3_and, n3_or, n3_shl, n3_i, n3_cl, ↓hbd_0, ↓hbd_1, ↓hbd_2, hk_ob_0, hk_rd_0, hk_rd_1, hk_rd_2, hk_al_0, hk_al_1, h3r_0, h3r_1, hk_wi_0, hk_wj_0, h3w_0, h3w_1, h3v_0, hk_kI, hk_kJ, hk_kA, hk_kB, A_eq, A_ne, A_row, B_eq, B_ne, B_row, I_eq, I_ne, J_eq, J_ne, Option.bind_some, Option.some.injEq, if_true, if_false, eq_self, true_or, or_true, true_and, and_true, false_or, or_false, not_true_eq_false, not_false_eq_true, Classical.not_not, nar_b0, nar_b1, rz_0, rz_1, rz_i, ite01, Nat.add_zero, Nat.zero_add, Nat.one_mul, mul12, reduceIte, ra_z0, Nat.reduceEqDiff, Nat.reduceLT, Nat.reduceLeDiff, Nat.reduceAdd, Nat.reduceMul, Nat.reduceSub, Nat.reduceDiv, Nat.reduceMod, Bool.false_eq_true, false_and, and_false, reduceCtorEq]
theorem c_readTerm {B : Nat → Nat} {n b j k f : Nat} {K : Nat → Nat} {rs : Nat → Int32 → ra_H → Option (Int32 × ra_H)} {rp : Nat → Nat → pRT} (hb : b ≤ 8) (hrs : b < 8 → ∀ κ j k f K, cP κ B n j k f K → f ≤ j → cRet κ B n j k f K False (rp j k) (rs 16 (n3 (b + 1)) (hp κ))) (h : cP κ B n j k f K) (hf : f ≤ j) (hN : 1000 < N) : cRet κ B n j k f K False (pTerm B n rp b j k) (fX8_readTerm N rs 16 (n3 b) (hp κ)) := by
  have st : fX8_readTerm N rs 16 (n3 b) (hp κ) = (nX8_readTerm_0 N rs 16 (n3 b) (hp κ)).bind (fun q => ra_rz q.1 q.2) := by
    unfold fX8_readTerm
    simp (maxSteps := 400000) (disch := omega) only [n3_l, n3_add, n3_mul, n3_sub, n3_subn, n3_lt, n3_le, n3_eq, n3_eqn, n3_neq, n3_and, n3_or, n3_shl, n3_i, n3_cl, ↓hbd_0, ↓hbd_1, ↓hbd_2, hk_ob_0, hk_rd_0, hk_rd_1, hk_rd_2, hk_al_0, hk_al_1, h3r_0, h3r_1, hk_wi_0, hk_wj_0, h3w_0, h3w_1, h3v_0, hk_kI, hk_kJ, hk_kA, hk_kB, A_eq, A_ne, A_row, B_eq, B_ne, B_row, I_eq, I_ne, J_eq, J_ne, Option.bind_some, Option.some.injEq, if_true, if_false, eq_self, true_or, or_true, true_and, and_true, false_or, or_false, not_true_eq_false, not_false_eq_true, Classical.not_not, nar_b0, nar_b1, rz_0, rz_1, rz_i, ite01, Nat.add_zero, Nat.zero_add, Nat.one_mul, mul12, reduceIte, ra_z0, Nat.reduceEqDiff, Nat.reduceLT, Nat.reduceLeDiff, Nat.reduceAdd, Nat.reduceMul, Nat.reduceSub, Nat.reduceDiv, Nat.reduceMod, Bool.false_eq_true, false_and, and_false, reduceCtorEq]
  rw [st]
  refine cRet.rz ?_
  have hr := c_readPart N κ hb hrs h hf hN
  unfold pTerm nX8_readTerm_0
  cases hq : pPart B n rp b j k with
  | inl e =>
    rw [hq] at hr
    obtain ⟨κ3, e3, s3, q3⟩ := hr
    refine ⟨κ3, ?_, s3, q3⟩
    simp (maxSteps := 400000) (disch := omega) only [n3_l, n3_add, n3_mul, n3_sub, n3_subn, n3_lt, n3_le, n3_eq, n3_eqn, n3_neq, n3_and, n3_or, n3_shl, n3_i, n3_cl, ↓hbd_0, ↓hbd_1, ↓hbd_2, hk_ob_0, hk_rd_0, hk_rd_1, hk_rd_2, hk_al_0, hk_al_1, h3r_0, h3r_1, hk_wi_0, hk_wj_0, h3w_0, h3w_1, h3v_0, hk_kI, hk_kJ, hk_kA, hk_kB, A_eq, A_ne, A_row, B_eq, B_ne, B_row, I_eq, I_ne, J_eq, J_ne, Option.bind_some, Option.some.injEq, if_true, if_false, eq_self, true_or, or_true, true_and, and_true, false_or, or_false, not_true_eq_false, not_false_eq_true, Classical.not_not, nar_b0, nar_b1, rz_0, rz_1, rz_i, ite01, Nat.add_zero, Nat.zero_add, Nat.one_mul, mul12, reduceIte, ra_z0, Nat.reduceEqDiff, Nat.reduceLT, Nat.reduceLeDiff, Nat.reduceAdd, Nat.reduceMul, Nat.reduceSub, Nat.reduceDiv, Nat.reduceMod, Bool.false_eq_true, false_and, and_false, reduceCtorEq, e3]
  | inr t =>
    obtain ⟨j2, k2, w⟩ := t
    rw [hq] at hr
    obtain ⟨κ3, f2, K2, e3, s3, p3, b1, b2, b3, b4, b5, b6, b7, -⟩ := hr
    have r := c_termL N κ hb hrs hf hN 400 0 N κ3 j2 k2 f2 K2 w (by omega) (by omega) s3 p3 b1 b2 b3 b4 b5 b6 b7
    have e4 : ((fX8_readPart N rs 16 (n3 b) (hp κ)).bind fun q1 => if q1.1 = 0 then some ((0 : Int32), q1.2) else nX8_readTerm_12 N rs N 16 (n3 b) ((0 : Int32)) q1.2) = nX8_readTerm_12 N rs N 16 (n3 b) (n3 0) (hp κ3) := by
      simp (maxSteps := 400000) (disch := omega) only [n3_l, n3_add, n3_mul, n3_sub, n3_subn, n3_lt, n3_le, n3_eq, n3_eqn, n3_neq, n3_and, n3_or, n3_shl, n3_i, n3_cl, ↓hbd_0, ↓hbd_1, ↓hbd_2, hk_ob_0, hk_rd_0, hk_rd_1, hk_rd_2, hk_al_0, hk_al_1, h3r_0, h3r_1, hk_wi_0, hk_wj_0, h3w_0, h3w_1, h3v_0, hk_kI, hk_kJ, hk_kA, hk_kB, A_eq, A_ne, A_row, B_eq, B_ne, B_row, I_eq, I_ne, J_eq, J_ne, Option.bind_some, Option.some.injEq, if_true, if_false, eq_self, true_or, or_true, true_and, and_true, false_or, or_false, not_true_eq_false, not_false_eq_true, Classical.not_not, nar_b0, nar_b1, rz_0, rz_1, rz_i, ite01, Nat.add_zero, Nat.zero_add, Nat.one_mul, mul12, reduceIte, ra_z0, Nat.reduceEqDiff, Nat.reduceLT, Nat.reduceLeDiff, Nat.reduceAdd, Nat.reduceMul, Nat.reduceSub, Nat.reduceDiv, Nat.reduceMod, Bool.false_eq_true, false_and, and_false, reduceCtorEq, e3]
    rw [e4]
    exact r
theorem c_sumL {B : Nat → Nat} {n b j k f : Nat} {K : Nat → Nat} {rs : Nat → Int32 → ra_H → Option (Int32 × ra_H)} {rp : Nat → Nat → pRT} (hb : b ≤ 8) (hrs : b < 8 → ∀ κ j k f K, cP κ B n j k f K → f ≤ j → cRet κ B n j k f K False (rp j k) (rs 16 (n3 (b + 1)) (hp κ))) (hf : f ≤ j) (hN : 1000 < N) :
    ∀ M i m κ1 j1 k1 f1 K1 v, M + i = 400 → M < m → cS κ κ1 → cP κ1 B n j1 k1 f1 K1 → (∀ x, x < f → K1 x = K x) → f < f1 → f1 + j ≤ f + j1 → k < k1 → j < j1 → cFr K1 f f1 (k1 - k) v → vO v → cRet κ B n j k f K False (pSumL B n rp b M j1 k1 v) (nX8_readSumo_12 N rs m 16 (n3 b) (n3 i) (hp κ1)) := by
  intro M
  induction M with
  | zero =>
    intro i m κ1 j1 k1 f1 K1 v hi hm s p a1 a2 a3 a4 a5 a6 a7
    obtain ⟨m, rfl⟩ : ∃ q, m = q + 1 := ⟨m - 1, by omega⟩
    have c : ¬ i < 400 := by omega
    refine ⟨κ1, f1, K1, ?_, s, p, a1, a2, a3, a4, a5, a6, a7, fun z => z.elim⟩
    rw [nX8_readSumo_12]
    simp (maxSteps := 400000) (disch := omega) only [n3_l, n3_add, n3_mul, n3_sub, n3_subn, n3_lt, n3_le, n3_eq, n3_eqn, n3_neq, n3_and, n3_or, n3_shl, n3_i, n3_cl, ↓hbd_0, ↓hbd_1, ↓hbd_2, hk_ob_0, hk_rd_0, hk_rd_1, hk_rd_2, hk_al_0, hk_al_1, h3r_0, h3r_1, hk_wi_0, hk_wj_0, h3w_0, h3w_1, h3v_0, hk_kI, hk_kJ, hk_kA, hk_kB, A_eq, A_ne, A_row, B_eq, B_ne, B_row, I_eq, I_ne, J_eq, J_ne, Option.bind_some, Option.some.injEq, if_true, if_false, eq_self, true_or, or_true, true_and, and_true, false_or, or_false, not_true_eq_false, not_false_eq_true, Classical.not_not, nar_b0, nar_b1, rz_0, rz_1, rz_i, ite01, Nat.add_zero, Nat.zero_add, Nat.one_mul, mul12, reduceIte, ra_z0, Nat.reduceEqDiff, Nat.reduceLT, Nat.reduceLeDiff, Nat.reduceAdd, Nat.reduceMul, Nat.reduceSub, Nat.reduceDiv, Nat.reduceMod, Bool.false_eq_true, false_and, and_false, reduceCtorEq, c, nX8_readSumo_78]
  | succ M ih =>
    intro i m κ1 j1 k1 f1 K1 v hi hm s p a1 a2 a3 a4 a5 a6 a7
    obtain ⟨m, rfl⟩ : ∃ q, m = q + 1 := ⟨m - 1, by omega⟩
    have c : i < 400 := by omega
    have i1 := c_isSign N κ1 (c := 43) p.1 p.2.1 (by omega)
    have i2 := c_isSign N κ1 (c := 45) p.1 p.2.1 (by omega)
    rw [pSumL]
    by_cases cs : sg B n 43 j1 ∨ sg B n 45 j1
    · rw [if_pos cs]
      have jl : j1 < n := by
        rcases cs with z | z
        · exact sg_lt z
        · exact sg_lt z
      have n4 := p.1.1
      have nx := nxt_le (B := B) p.2.1.1
      have nx2 := nx.2 jl
      obtain ⟨κ2, e2, s2, p2⟩ := c_advP N κ1 p hN
      have st : nX8_readSumo_12 N rs (m + 1) 16 (n3 b) (n3 i) (hp κ1) = nX8_readSumo_51 N rs (nX8_readSumo_12 N rs m) 16 (n3 b) (n3 i) (n3 (2 + if sg B n 43 j1 then 0 else 1)) (hp κ1) := by
        rw [nX8_readSumo_12]
        by_cases c1 : sg B n 43 j1
        · rw [if_pos c1] at i1
          rw [if_pos c1]
          simp (maxSteps := 400000) (disch := omega) only [n3_l, n3_add, n3_mul, n3_sub, n3_subn, n3_lt, n3_le, n3_eq, n3_eqn, n3_neq, n3_and, n3_or, n3_shl, n3_i, n3_cl, ↓hbd_0, ↓hbd_1, ↓hbd_2, hk_ob_0, hk_rd_0, hk_rd_1, hk_rd_2, hk_al_0, hk_al_1, h3r_0, h3r_1, hk_wi_0, hk_wj_0, h3w_0, h3w_1, h3v_0, hk_kI, hk_kJ, hk_kA, hk_kB, A_eq, A_ne, A_row, B_eq, B_ne, B_row, I_eq, I_ne, J_eq, J_ne, Option.bind_some, Option.some.injEq, if_true, if_false, eq_self, true_or, or_true, true_and, and_true, false_or, or_false, not_true_eq_false, not_false_eq_true, Classical.not_not, nar_b0, nar_b1, rz_0, rz_1, rz_i, ite01, Nat.add_zero, Nat.zero_add, Nat.one_mul, mul12, reduceIte, ra_z0, Nat.reduceEqDiff, Nat.reduceLT, Nat.reduceLeDiff, Nat.reduceAdd, Nat.reduceMul, Nat.reduceSub, Nat.reduceDiv, Nat.reduceMod, Bool.false_eq_true, false_and, and_false, reduceCtorEq, c, i1, nX8_readSumo_37]
        · have c2 := cs.resolve_left c1
          rw [if_neg c1] at i1
          rw [if_pos c2] at i2
          rw [if_neg c1]
          simp (maxSteps := 400000) (disch := omega) only [n3_l, n3_add, n3_mul, n3_sub, n3_subn, n3_lt, n3_le, n3_eq, n3_eqn, n3_neq, n3_and, n3_or, n3_shl, n3_i, n3_cl, ↓hbd_0, ↓hbd_1, ↓hbd_2, hk_ob_0, hk_rd_0, hk_rd_1, hk_rd_2, hk_al_0, hk_al_1, h3r_0, h3r_1, hk_wi_0, hk_wj_0, h3w_0, h3w_1, h3v_0, hk_kI, hk_kJ, hk_kA, hk_kB, A_eq, A_ne, A_row, B_eq, B_ne, B_row, I_eq, I_ne, J_eq, J_ne, Option.bind_some, Option.some.injEq, if_true, if_false, eq_self, true_or, or_true, true_and, and_true, false_or, or_false, not_true_eq_false, not_false_eq_true, Classical.not_not, nar_b0, nar_b1, rz_0, rz_1, rz_i, ite01, Nat.add_zero, Nat.zero_add, Nat.one_mul, mul12, reduceIte, ra_z0, Nat.reduceEqDiff, Nat.reduceLT, Nat.reduceLeDiff, Nat.reduceAdd, Nat.reduceMul, Nat.reduceSub, Nat.reduceDiv, Nat.reduceMod, Bool.false_eq_true, false_and, and_false, reduceCtorEq, c, i1, i2, nX8_readSumo_37]
      have oo : (if sg B n 43 j1 then 0 else 1) ≤ 6 := by split <;> omega
      generalize (if sg B n 43 j1 then 0 else 1) = o at st oo ⊢
      have hr := c_readTerm N κ2 hb hrs p2 (by omega) hN
      cases hq : pTerm B n rp b (nxt B n j1) k1 with
      | inl e =>
        rw [hq] at hr
        obtain ⟨κ3, e3, s3, q3⟩ := hr
        refine ⟨κ3, ?_, s.trans (s2.trans s3), q3⟩
        rw [st]
        simp (maxSteps := 400000) (disch := omega) only [n3_l, n3_add, n3_mul, n3_sub, n3_subn, n3_lt, n3_le, n3_eq, n3_eqn, n3_neq, n3_and, n3_or, n3_shl, n3_i, n3_cl, ↓hbd_0, ↓hbd_1, ↓hbd_2, hk_ob_0, hk_rd_0, hk_rd_1, hk_rd_2, hk_al_0, hk_al_1, h3r_0, h3r_1, hk_wi_0, hk_wj_0, h3w_0, h3w_1, h3v_0, hk_kI, hk_kJ, hk_kA, hk_kB, A_eq, A_ne, A_row, B_eq, B_ne, B_row, I_eq, I_ne, J_eq, J_ne, Option.bind_some, Option.some.injEq, if_true, if_false, eq_self, true_or, or_true, true_and, and_true, false_or, or_false, not_true_eq_false, not_false_eq_true, Classical.not_not, nar_b0, nar_b1, rz_0, rz_1, rz_i, ite01, Nat.add_zero, Nat.zero_add, Nat.one_mul, mul12, reduceIte, ra_z0, Nat.reduceEqDiff, Nat.reduceLT, Nat.reduceLeDiff, Nat.reduceAdd, Nat.reduceMul, Nat.reduceSub, Nat.reduceDiv, Nat.reduceMod, Bool.false_eq_true, false_and, and_false, reduceCtorEq, nX8_readSumo_51, e2, e3]
      | inr t =>
        obtain ⟨j2, k2, w⟩ := t
        rw [hq] at hr
        obtain ⟨κ3, f2, K2, e3, s3, p3, b1, b2, b3, b4, b5, b6, b7, -⟩ := hr
        dsimp only
        have j2n := p3.2.1.1
        obtain ⟨κ4, e4, s4, p4⟩ := c_emitP N κ3 (i := 2 + o) (w := 0) p3 (by omega)
        have r := ih (i + 1) m κ4 j2 k2 (f2 + 1) _ (vBin o v w) (by omega) (by omega) (s.trans (s2.trans (s3.trans s4))) p4 (fun x hx => by
          show (if x = f2 then _ else K2 x) = _
          rw [if_neg (by omega), b1 x (by omega), a1 x hx]) (by omega) (by omega) (by omega) (by omega) (cFr_grow a6 b1 b6 a7 b7 oo a4 b4) vBin_o
        have e5 : nX8_readSumo_51 N rs (nX8_readSumo_12 N rs m) 16 (n3 b) (n3 i) (n3 (2 + o)) (hp κ1) = nX8_readSumo_12 N rs m 16 (n3 b) (n3 (i + 1)) (hp κ4) := by
          simp (maxSteps := 400000) (disch := omega) only [n3_l, n3_add, n3_mul, n3_sub, n3_subn, n3_lt, n3_le, n3_eq, n3_eqn, n3_neq, n3_and, n3_or, n3_shl, n3_i, n3_cl, ↓hbd_0, ↓hbd_1, ↓hbd_2, hk_ob_0, hk_rd_0, hk_rd_1, hk_rd_2, hk_al_0, hk_al_1, h3r_0, h3r_1, hk_wi_0, hk_wj_0, h3w_0, h3w_1, h3v_0, hk_kI, hk_kJ, hk_kA, hk_kB, A_eq, A_ne, A_row, B_eq, B_ne, B_row, I_eq, I_ne, J_eq, J_ne, Option.bind_some, Option.some.injEq, if_true, if_false, eq_self, true_or, or_true, true_and, and_true, false_or, or_false, not_true_eq_false, not_false_eq_true, Classical.not_not, nar_b0, nar_b1, rz_0, rz_1, rz_i, ite01, Nat.add_zero, Nat.zero_add, Nat.one_mul, mul12, reduceIte, ra_z0, Nat.reduceEqDiff, Nat.reduceLT, Nat.reduceLeDiff, Nat.reduceAdd, Nat.reduceMul, Nat.reduceSub, Nat.reduceDiv, Nat.reduceMod, Bool.false_eq_true, false_and, and_false, reduceCtorEq, nX8_readSumo_51, e2, e3, e4]
        rw [st, e5]
        exact r
    · rw [if_neg cs]
      rw [if_neg (fun z => cs (Or.inl z))] at i1
      rw [if_neg (fun z => cs (Or.inr z))] at i2
      refine ⟨κ1, f1, K1, ?_, s, p, a1, a2, a3, a4, a5, a6, a7, fun z => z.elim⟩
      rw [nX8_readSumo_12]
      simp (maxSteps := 400000) (disch := omega) only [n3_l, n3_add, n3_mul, n3_sub, n3_subn, n3_lt, n3_le, n3_eq, n3_eqn, n3_neq, n3_and, n3_or, n3_shl, n3_i, n3_cl, ↓hbd_0, ↓hbd_1, ↓hbd_2, hk_ob_0, hk_rd_0, hk_rd_1, hk_rd_2, hk_al_0, hk_al_1, h3r_0, h3r_1, hk_wi_0, hk_wj_0, h3w_0, h3w_1, h3v_0, hk_kI, hk_kJ, hk_kA, hk_kB, A_eq, A_ne, A_row, B_eq, B_ne, B_row, I_eq, I_ne, J_eq, J_ne, Option.bind_some, Option.some.injEq, if_true, if_false, eq_self, true_or, or_true, true_and, and_true, false_or, or_false, not_true_eq_false, not_false_eq_true, Classical.not_not, nar_b0, nar_b1, rz_0, rz_1, rz_i, ite01, Nat.add_zero, Nat.zero_add, Nat.one_mul, mul12, reduceIte, ra_z0, Nat.reduceEqDiff, Nat.reduceLT, Nat.reduceLeDiff, Nat.reduceAdd, Nat.reduceMul, Nat.reduceSub, Nat.reduceDiv, Nat.reduceMod, Bool.false_eq_true, false_and, and_false, reduceCtorEq, c, i1, i2, nX8_readSumo_78]
end
section
variable (N : Nat) (κ : hk_T)
theorem c_readSumo {B : Nat → Nat} {n b j k f : Nat} {K : Nat → Nat} {rs : Nat → Int32 → ra_H → Option (Int32 × ra_H)} {rp : Nat → Nat → pRT} (hb : b ≤ 8) (hrs : b < 8 → ∀ κ j k f K, cP κ B n j k f K → f ≤ j → cRet κ B n j k f K False (rp j k) (rs 16 (n3 (b + 1)) (hp κ))) (h : cP κ B n j k f K) (hf : f ≤ j) (hN : 1000 < N) : cRet κ B n j k f K False (pSumO B n rp b j k) (fX8_readSumo N rs 16 (n3 b) (hp κ)) := by
  have st : fX8_readSumo N rs 16 (n3 b) (hp κ) = (nX8_readSumo_0 N rs 16 (n3 b) (hp κ)).bind (fun q => ra_rz q.1 q.2) := by
    unfold fX8_readSumo
    simp (maxSteps := 400000) (disch := omega) only [n3_l, n3_add, n3_mul, n3_sub, n3_subn, n3_lt, n3_le, n3_eq, n3_eqn, n3_neq, n3_and, n3_or, n3_shl, n3_i, n3_cl, ↓hbd_0, ↓hbd_1, ↓hbd_2, hk_ob_0, hk_rd_0, hk_rd_1, hk_rd_2, hk_al_0, hk_al_1, h3r_0, h3r_1, hk_wi_0, hk_wj_0, h3w_0, h3w_1, h3v_0, hk_kI, hk_kJ, hk_kA, hk_kB, A_eq, A_ne, A_row, B_eq, B_ne, B_row, I_eq, I_ne, J_eq, J_ne, Option.bind_some, Option.some.injEq, if_true, if_false, eq_self, true_or, or_true, true_and, and_true, false_or, or_false, not_true_eq_false, not_false_eq_true, Classical.not_not, nar_b0, nar_b1, rz_0, rz_1, rz_i, ite01, Nat.add_zero, Nat.zero_add, Nat.one_mul, mul12, reduceIte, ra_z0, Nat.reduceEqDiff, Nat.reduceLT, Nat.reduceLeDiff, Nat.reduceAdd, Nat.reduceMul, Nat.reduceSub, Nat.reduceDiv, Nat.reduceMod, Bool.false_eq_true, false_and, and_false, reduceCtorEq]
  rw [st]
  refine cRet.rz ?_
  have hr := c_readTerm N κ hb hrs h hf hN
  unfold pSumO nX8_readSumo_0
  cases hq : pTerm B n rp b j k with
  | inl e =>
    rw [hq] at hr
    obtain ⟨κ3, e3, s3, q3⟩ := hr
    refine ⟨κ3, ?_, s3, q3⟩
    simp (maxSteps := 400000) (disch := omega) only [n3_l, n3_add, n3_mul, n3_sub, n3_subn, n3_lt, n3_le, n3_eq, n3_eqn, n3_neq, n3_and, n3_or, n3_shl, n3_i, n3_cl, ↓hbd_0, ↓hbd_1, ↓hbd_2, hk_ob_0, hk_rd_0, hk_rd_1, hk_rd_2, hk_al_0, hk_al_1, h3r_0, h3r_1, hk_wi_0, hk_wj_0, h3w_0, h3w_1, h3v_0, hk_kI, hk_kJ, hk_kA, hk_kB, A_eq, A_ne, A_row, B_eq, B_ne, B_row, I_eq, I_ne, J_eq, J_ne, Option.bind_some, Option.some.injEq, if_true, if_false, eq_self, true_or, or_true, true_and, and_true, false_or, or_false, not_true_eq_false, not_false_eq_true, Classical.not_not, nar_b0, nar_b1, rz_0, rz_1, rz_i, ite01, Nat.add_zero, Nat.zero_add, Nat.one_mul, mul12, reduceIte, ra_z0, Nat.reduceEqDiff, Nat.reduceLT, Nat.reduceLeDiff, Nat.reduceAdd, Nat.reduceMul, Nat.reduceSub, Nat.reduceDiv, Nat.reduceMod, Bool.false_eq_true, false_and, and_false, reduceCtorEq, e3]
  | inr t =>
    obtain ⟨j2, k2, w⟩ := t
    rw [hq] at hr
    obtain ⟨κ3, f2, K2, e3, s3, p3, b1, b2, b3, b4, b5, b6, b7, -⟩ := hr
    have r := c_sumL N κ hb hrs hf hN 400 0 N κ3 j2 k2 f2 K2 w (by omega) (by omega) s3 p3 b1 b2 b3 b4 b5 b6 b7
    have e4 : ((fX8_readTerm N rs 16 (n3 b) (hp κ)).bind fun q1 => if q1.1 = 0 then some ((0 : Int32), q1.2) else nX8_readSumo_12 N rs N 16 (n3 b) ((0 : Int32)) q1.2) = nX8_readSumo_12 N rs N 16 (n3 b) (n3 0) (hp κ3) := by
      simp (maxSteps := 400000) (disch := omega) only [n3_l, n3_add, n3_mul, n3_sub, n3_subn, n3_lt, n3_le, n3_eq, n3_eqn, n3_neq, n3_and, n3_or, n3_shl, n3_i, n3_cl, ↓hbd_0, ↓hbd_1, ↓hbd_2, hk_ob_0, hk_rd_0, hk_rd_1, hk_rd_2, hk_al_0, hk_al_1, h3r_0, h3r_1, hk_wi_0, hk_wj_0, h3w_0, h3w_1, h3v_0, hk_kI, hk_kJ, hk_kA, hk_kB, A_eq, A_ne, A_row, B_eq, B_ne, B_row, I_eq, I_ne, J_eq, J_ne, Option.bind_some, Option.some.injEq, if_true, if_false, eq_self, true_or, or_true, true_and, and_true, false_or, or_false, not_true_eq_false, not_false_eq_true, Classical.not_not, nar_b0, nar_b1, rz_0, rz_1, rz_i, ite01, Nat.add_zero, Nat.zero_add, Nat.one_mul, mul12, reduceIte, ra_z0, Nat.reduceEqDiff, Nat.reduceLT, Nat.reduceLeDiff, Nat.reduceAdd, Nat.reduceMul, Nat.reduceSub, Nat.reduceDiv, Nat.reduceMod, Bool.false_eq_true, false_and, and_false, reduceCtorEq, e3]
    rw [e4]
    exact r
end
theorem c_readSum (N : Nat) {B : Nat → Nat} {n : Nat} (hN : 1000 < N) : ∀ d b, 9 ≤ d + b → b ≤ 8 → ∀ κ j k f K, cP κ B n j k f K → f ≤ j → cRet κ B n j k f K False (pSum B n d b j k) (rX8_readSum N d 16 (n3 b) (hp κ)) := by
  intro d
  induction d with
  | zero => intro b h1 h2; omega
  | succ d ih =>
    intro b h1 h2 κ j k f K h hf
    rw [pSum, rX8_readSum]
    exact c_readSumo N κ h2 (fun hb => ih (b + 1) (by omega) (by omega)) h hf hN
