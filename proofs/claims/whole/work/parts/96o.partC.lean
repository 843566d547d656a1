/-! the class's reader: a part -/
theorem sg_lt {B : Nat → Nat} {n c j : Nat} (h : sg B n c j) : j < n := by
  have h1 := h.1
  unfold tkK at h1
  split at h1
  · omega
  · omega
theorem tk_lt {B : Nat → Nat} {n j : Nat} (h : ¬ tkK B n j = 0) : j < n := by
  rcases Nat.lt_or_ge j n with g | g
  · exact g
  · exact absurd (if_pos g) h
theorem facA_lt {B : Nat → Nat} {n j : Nat} (h : facA B n j < 12) : j < n := by
  have l := (low_is (fun g => isW B n (5 + g) j) 12).2.1 h
  exact (tk_letters (show tkK B n j = 1 from l.1)).1
section
variable (N : Nat) (κ : hk_T)
theorem c_readLeaf {B : Nat → Nat} {n b j k f : Nat} {K : Nat → Nat} {rs : Nat → Int32 → ra_H → Option (Int32 × ra_H)} (h : cP κ B n j k f K) (hf : f ≤ j) (hs : ¬ sg B n 91 j) (hN : 1000 < N) : cRet κ B n j k f K False (if (numA B n j ∨ facA B n j < 12) ∧ k < 50 then .inr (nxt B n j, k + 1, leaV B n j) else .inl j) (fX8_readPart N rs 16 (n3 b) (hp κ)) := by
  obtain ⟨hT, ht, h8, hk, h6, hf4, hK⟩ := h
  have h : cP κ B n j k f K := ⟨hT, ht, h8, hk, h6, hf4, hK⟩
  have is := c_isSign N κ (c := 91) hT ht (by omega)
  rw [if_neg hs] at is
  have fh := c_factHere N κ hT ht hN
  have n4 := hT.1
  have vl := tkV_lt (j := j) (fun i hi => (hT.2.2 i hi).2)
  have kl := tkK_lt (B := B) (n := n) (j := j)
  obtain ⟨jn, h2, h11, h9, h10⟩ := ht
  have f12 : facA B n j ≤ 12 := (low_is (fun g => isW B n (5 + g) j) 12).1
  by_cases c : (numA B n j ∨ facA B n j < 12) ∧ k < 50
  · rw [if_pos c]
    have jl : j < n := by
      rcases c.1 with z | z
      · exact tk_lt (by rw [z.1]; decide)
      · exact facA_lt z
    -- one more part
    obtain ⟨κ1, hκ1⟩ : ∃ κ1, κ1 = hk_wI κ 16 8 (n3 (k + 1)) := ⟨_, rfl⟩
    have s1 : same [] [(16, 8)] κ κ1 := by rw [hκ1]; exact (same.refl _ _ _).wI (by decide)
    have p1 : cP κ1 B n j (k + 1) f K := ⟨hT.same s1 (by decide) (by decide), (show cTok κ B n j from ⟨jn, h2, h11, h9, h10⟩).same s1 (by decide) (by decide) (by decide) (by decide), by rw [hκ1, I_eq], by omega, by rw [s1.2.2.1 16 6 (by decide)]; exact h6, hf4, by rw [s1.1 18 (by decide)]; exact hK⟩
    have fin : ∀ i w, (∀ K', K' f = 16 * w + i → cFr K' f (f + 1) 1 (leaV B n j)) → vO (leaV B n j) → fX8_readPart N rs 16 (n3 b) (hp κ) = ((fX8_emit N 16 (n3 i) (n3 w) (hp (hk_wI κ 16 8 (n3 (k + 1))))).bind (fun h1 => (fX8_advance N 16 h1).bind fun h2 => some (n3 1, h2))).bind (fun q => ra_rz q.1 q.2) → cRet κ B n j k f K False (.inr (nxt B n j, k + 1, leaV B n j)) (fX8_readPart N rs 16 (n3 b) (hp κ)) := by
      intro i w g1 g2 g3
      obtain ⟨κ2, e2, s2, p2⟩ := c_emitP N κ1 (i := i) (w := w) p1 (by omega)
      obtain ⟨κ3, e3, s3, p3⟩ := c_advP N κ2 p2 hN
      have nx := nxt_le (B := B) jn
      have nx2 := nx.2 jl
      refine ⟨κ3, f + 1, _, ?_, (s1.weak (by decide) (by decide) : cS κ κ1).trans (s2.trans s3), p3, fun x hx => if_neg (by omega), by omega, by omega, by omega, nx.2 jl, ?_, g2, fun z => z.elim⟩
      · rw [g3, ← hκ1]
        simp only [e2, Option.bind_some, e3]
        simp (maxSteps := 400000) (disch := omega) only [n3_l, n3_add, n3_mul, n3_sub, n3_subn, n3_lt, n3_le, n3_eq, n3_eqn, n3_neq, n3_and, n3_or, n3_shl, n3_i, n3_cl, ↓hbd_0, ↓hbd_1, ↓hbd_2, hk_ob_0, hk_rd_0, hk_rd_1, hk_rd_2, hk_al_0, hk_al_1, h3r_0, h3r_1, hk_wi_0, hk_wj_0, h3w_0, h3w_1, h3v_0, hk_kI, hk_kJ, hk_kA, hk_kB, A_eq, A_ne, A_row, B_eq, B_ne, B_row, I_eq, I_ne, J_eq, J_ne, Option.bind_some, Option.some.injEq, if_true, if_false, eq_self, true_or, or_true, true_and, and_true, false_or, or_false, not_true_eq_false, not_false_eq_true, Classical.not_not, nar_b0, nar_b1, rz_0, rz_1, rz_i, ite01, Nat.add_zero, Nat.zero_add, Nat.one_mul, mul12, reduceIte, ra_z0, Nat.reduceEqDiff, Nat.reduceLT, Nat.reduceLeDiff, Nat.reduceAdd, Nat.reduceMul, Nat.reduceSub, Nat.reduceDiv, Nat.reduceMod, Bool.false_eq_true, false_and, and_false, reduceCtorEq]
      · rw [show k + 1 - k = 1 by omega]
        exact g1 _ (if_pos rfl)
    by_cases cn : numA B n j
    · refine fin 0 (tkV B n j) (fun K' e => ?_) ?_ ?_
      · unfold leaV; rw [if_pos cn]; exact cFr_num (by rw [e]; omega) cn.2
      · unfold leaV; rw [if_pos cn]; intro X a e; have := Option.some.inj e; have := cn.2; omega
      · have c2 := cn.1
        have c3 := cn.2
        have ck := c.2
        simp (maxSteps := 400000) (disch := omega) only [n3_l, n3_add, n3_mul, n3_sub, n3_subn, n3_lt, n3_le, n3_eq, n3_eqn, n3_neq, n3_and, n3_or, n3_shl, n3_i, n3_cl, ↓hbd_0, ↓hbd_1, ↓hbd_2, hk_ob_0, hk_rd_0, hk_rd_1, hk_rd_2, hk_al_0, hk_al_1, h3r_0, h3r_1, hk_wi_0, hk_wj_0, h3w_0, h3w_1, h3v_0, hk_kI, hk_kJ, hk_kA, hk_kB, A_eq, A_ne, A_row, B_eq, B_ne, B_row, I_eq, I_ne, J_eq, J_ne, Option.bind_some, Option.some.injEq, if_true, if_false, eq_self, true_or, or_true, true_and, and_true, false_or, or_false, not_true_eq_false, not_false_eq_true, Classical.not_not, nar_b0, nar_b1, rz_0, rz_1, rz_i, ite01, Nat.add_zero, Nat.zero_add, Nat.one_mul, mul12, reduceIte, ra_z0, Nat.reduceEqDiff, Nat.reduceLT, Nat.reduceLeDiff, Nat.reduceAdd, Nat.reduceMul, Nat.reduceSub, Nat.reduceDiv, Nat.reduceMod, Bool.false_eq_true, false_and, and_false, reduceCtorEq, fX8_readPart, nX8_readPart_62, nX8_readPart_96, nX8_readPart_84, nX8_readPart_53, nX8_readPart_38, nX8_readPart_37, nX8_readPart_0, is, h9, c2, h10, c3, fh, h8, ck]
    · have cf : facA B n j < 12 := c.1.resolve_left cn
      rw [if_pos cf] at fh
      refine fin 1 (facA B n j) (fun K' e => ?_) ?_ ?_
      · unfold leaV; rw [if_neg cn]; exact cFr_fact e cf
      · unfold leaV; rw [if_neg cn]; intro X a e; exact (limV_ok e).2
      · have ck := c.2
        have hn1 : ¬ n3 (facA B n j) = -n3 1 := fun z => (n3_eqn (by omega) (by omega) (by omega)).mp z
        by_cases c2 : tkK B n j = 2
        · have c3 : ¬ tkV B n j ≤ 1000 := fun z => cn ⟨c2, z⟩
          simp (maxSteps := 400000) (disch := omega) only [n3_l, n3_add, n3_mul, n3_sub, n3_subn, n3_lt, n3_le, n3_eq, n3_eqn, n3_neq, n3_and, n3_or, n3_shl, n3_i, n3_cl, ↓hbd_0, ↓hbd_1, ↓hbd_2, hk_ob_0, hk_rd_0, hk_rd_1, hk_rd_2, hk_al_0, hk_al_1, h3r_0, h3r_1, hk_wi_0, hk_wj_0, h3w_0, h3w_1, h3v_0, hk_kI, hk_kJ, hk_kA, hk_kB, A_eq, A_ne, A_row, B_eq, B_ne, B_row, I_eq, I_ne, J_eq, J_ne, Option.bind_some, Option.some.injEq, if_true, if_false, eq_self, true_or, or_true, true_and, and_true, false_or, or_false, not_true_eq_false, not_false_eq_true, Classical.not_not, nar_b0, nar_b1, rz_0, rz_1, rz_i, ite01, Nat.add_zero, Nat.zero_add, Nat.one_mul, mul12, reduceIte, ra_z0, Nat.reduceEqDiff, Nat.reduceLT, Nat.reduceLeDiff, Nat.reduceAdd, Nat.reduceMul, Nat.reduceSub, Nat.reduceDiv, Nat.reduceMod, Bool.false_eq_true, false_and, and_false, reduceCtorEq, fX8_readPart, nX8_readPart_62, nX8_readPart_96, nX8_readPart_84, nX8_readPart_53, nX8_readPart_38, nX8_readPart_37, nX8_readPart_0, is, h9, c2, h10, c3, fh, hn1, h8, ck]
        · simp (maxSteps := 400000) (disch := omega) only [n3_l, n3_add, n3_mul, n3_sub, n3_subn, n3_lt, n3_le, n3_eq, n3_eqn, n3_neq, n3_and, n3_or, n3_shl, n3_i, n3_cl, ↓hbd_0, ↓hbd_1, ↓hbd_2, hk_ob_0, hk_rd_0, hk_rd_1, hk_rd_2, hk_al_0, hk_al_1, h3r_0, h3r_1, hk_wi_0, hk_wj_0, h3w_0, h3w_1, h3v_0, hk_kI, hk_kJ, hk_kA, hk_kB, A_eq, A_ne, A_row, B_eq, B_ne, B_row, I_eq, I_ne, J_eq, J_ne, Option.bind_some, Option.some.injEq, if_true, if_false, eq_self, true_or, or_true, true_and, and_true, false_or, or_false, not_true_eq_false, not_false_eq_true, Classical.not_not, nar_b0, nar_b1, rz_0, rz_1, rz_i, ite01, Nat.add_zero, Nat.zero_add, Nat.one_mul, mul12, reduceIte, ra_z0, Nat.reduceEqDiff, Nat.reduceLT, Nat.reduceLeDiff, Nat.reduceAdd, Nat.reduceMul, Nat.reduceSub, Nat.reduceDiv, Nat.reduceMod, Bool.false_eq_true, false_and, and_false, reduceCtorEq, fX8_readPart, nX8_readPart_62, nX8_readPart_96, nX8_readPart_84, nX8_readPart_53, nX8_readPart_38, nX8_readPart_37, nX8_readPart_0, is, h9, c2, fh, hn1, h8, ck]
  · rw [if_neg c]
    refine ⟨κ, ?_, cS.refl _, h2⟩
    by_cases cn : numA B n j
    · have ck : ¬ k < 50 := fun z => c ⟨Or.inl cn, z⟩
      have c2 := cn.1
      have c3 := cn.2
      simp (maxSteps := 400000) (disch := omega) only [n3_l, n3_add, n3_mul, n3_sub, n3_subn, n3_lt, n3_le, n3_eq, n3_eqn, n3_neq, n3_and, n3_or, n3_shl, n3_i, n3_cl, ↓hbd_0, ↓hbd_1, ↓hbd_2, hk_ob_0, hk_rd_0, hk_rd_1, hk_rd_2, hk_al_0, hk_al_1, h3r_0, h3r_1, hk_wi_0, hk_wj_0, h3w_0, h3w_1, h3v_0, hk_kI, hk_kJ, hk_kA, hk_kB, A_eq, A_ne, A_row, B_eq, B_ne, B_row, I_eq, I_ne, J_eq, J_ne, Option.bind_some, Option.some.injEq, if_true, if_false, eq_self, true_or, or_true, true_and, and_true, false_or, or_false, not_true_eq_false, not_false_eq_true, Classical.not_not, nar_b0, nar_b1, rz_0, rz_1, rz_i, ite01, Nat.add_zero, Nat.zero_add, Nat.one_mul, mul12, reduceIte, ra_z0, Nat.reduceEqDiff, Nat.reduceLT, Nat.reduceLeDiff, Nat.reduceAdd, Nat.reduceMul, Nat.reduceSub, Nat.reduceDiv, Nat.reduceMod, Bool.false_eq_true, false_and, and_false, reduceCtorEq, fX8_readPart, nX8_readPart_62, nX8_readPart_96, nX8_readPart_84, nX8_readPart_53, nX8_readPart_38, nX8_readPart_37, nX8_readPart_0, is, h9, c2, h10, c3, fh, h8, ck]
    · by_cases cf : facA B n j < 12
      · have ck : ¬ k < 50 := fun z => c ⟨Or.inr cf, z⟩
        rw [if_pos cf] at fh
        have hn1 : ¬ n3 (facA B n j) = -n3 1 := fun z => (n3_eqn (by omega) (by omega) (by omega)).mp z
        by_cases c2 : tkK B n j = 2
        · have c3 : ¬ tkV B n j ≤ 1000 := fun z => cn ⟨c2, z⟩
          simp (maxSteps := 400000) (disch := omega) only [n3_l, n3_add, n3_mul, n3_sub, n3_subn, n3_lt, n3_le, n3_eq, n3_eqn, n3_neq, n3_and, n3_or, n3_shl, n3_i, n3_cl, ↓hbd_0, ↓hbd_1, ↓hbd_2, hk_ob_0, hk_rd_0, hk_rd_1, hk_rd_2, hk_al_0, hk_al_1, h3r_0, h3r_1, hk_wi_0, hk_wj_0, h3w_0, h3w_1, h3v_0, hk_kI, hk_kJ, hk_kA, hk_kB, A_eq, A_ne, A_row, B_eq, B_ne, B_row, I_eq, I_ne, J_eq, J_ne, Option.bind_some, Option.some.injEq, if_true, if_false, eq_self, true_or, or_true, true_and, and_true, false_or, or_false, not_true_eq_false, not_false_eq_true, Classical.not_not, nar_b0, nar_b1, rz_0, rz_1, rz_i, ite01, Nat.add_zero, Nat.zero_add, Nat.one_mul, mul12, reduceIte, ra_z0, Nat.reduceEqDiff, Nat.reduceLT, Nat.reduceLeDiff, Nat.reduceAdd, Nat.reduceMul, Nat.reduceSub, Nat.reduceDiv, Nat.reduceMod, Bool.false_eq_true, false_and, and_false, reduceCtorEq, fX8_readPart, nX8_readPart_62, nX8_readPart_96, nX8_readPart_84, nX8_readPart_53, nX8_readPart_38, nX8_readPart_37, nX8_readPart_0, is, h9, c2, h10, c3, fh, hn1, h8, ck]
        · simp (maxSteps := 400000) (disch := omega) only [n3_l, n3_add, n3_mul, n3_sub, n3_subn, n3_lt, n3_le, n3_eq, n3_eqn, n3_neq, n3_and, n3_or, n3_shl, n3_i, n3_cl, ↓hbd_0, ↓hbd_1, ↓hbd_2, hk_ob_0, hk_rd_0, hk_rd_1, hk_rd_2, hk_al_0, hk_al_1, h3r_0, h3r_1, hk_wi_0, hk_wj_0, h3w_0, h3w_1, h3v_0, hk_kI, hk_kJ, hk_kA, hk_kB, A_eq, A_ne, A_row, B_eq, B_ne, B_row, I_eq, I_ne, J_eq, J_ne, Option.bind_some, Option.some.injEq, if_true, if_false, eq_self, true_or, or_true, true_and, and_true, false_or, or_false, not_true_eq_false, not_false_eq_true, Classical.not_not, nar_b0, nar_b1, rz_0, rz_1, rz_i, ite01, Nat.add_zero, Nat.zero_add, Nat.one_mul, mul12, reduceIte, ra_z0, Nat.reduceEqDiff, Nat.reduceLT, Nat.reduceLeDiff, Nat.reduceAdd, Nat.reduceMul, Nat.reduceSub, Nat.reduceDiv, Nat.reduceMod, Bool.false_eq_true, false_and, and_false, reduceCtorEq, fX8_readPart, nX8_readPart_62, nX8_readPart_96, nX8_readPart_84, nX8_readPart_53, nX8_readPart_38, nX8_readPart_37, nX8_readPart_0, is, h9, c2, fh, hn1, h8, ck]
      · rw [if_neg cf] at fh
        by_cases c2 : tkK B n j = 2
        · have c3 : ¬ tkV B n j ≤ 1000 := fun z => cn ⟨c2, z⟩
          simp (maxSteps := 400000) (disch := omega) only [n3_l, n3_add, n3_mul, n3_sub, n3_subn, n3_lt, n3_le, n3_eq, n3_eqn, n3_neq, n3_and, n3_or, n3_shl, n3_i, n3_cl, ↓hbd_0, ↓hbd_1, ↓hbd_2, hk_ob_0, hk_rd_0, hk_rd_1, hk_rd_2, hk_al_0, hk_al_1, h3r_0, h3r_1, hk_wi_0, hk_wj_0, h3w_0, h3w_1, h3v_0, hk_kI, hk_kJ, hk_kA, hk_kB, A_eq, A_ne, A_row, B_eq, B_ne, B_row, I_eq, I_ne, J_eq, J_ne, Option.bind_some, Option.some.injEq, if_true, if_false, eq_self, true_or, or_true, true_and, and_true, false_or, or_false, not_true_eq_false, not_false_eq_true, Classical.not_not, nar_b0, nar_b1, rz_0, rz_1, rz_i, ite01, Nat.add_zero, Nat.zero_add, Nat.one_mul, mul12, reduceIte, ra_z0, Nat.reduceEqDiff, Nat.reduceLT, Nat.reduceLeDiff, Nat.reduceAdd, Nat.reduceMul, Nat.reduceSub, Nat.reduceDiv, Nat.reduceMod, Bool.false_eq_true, false_and, and_false, reduceCtorEq, fX8_readPart, nX8_readPart_62, nX8_readPart_96, nX8_readPart_84, nX8_readPart_53, nX8_readPart_38, nX8_readPart_37, nX8_readPart_0, is, h9, c2, h10, c3, fh]
        · simp (maxSteps := 400000) (disch := omega) only [n3_l, n3_add, n3_mul, n3_sub, n3_subn, n3_lt, n3_le, n3_eq, n3_eqn, n3_neq, n3_and, n3_or, n3_shl, n3_i, n3_cl, ↓hbd_0, ↓hbd_1, ↓hbd_2, hk_ob_0, hk_rd_0, hk_rd_1, hk_rd_2, hk_al_0, hk_al_1, h3r_0, h3r_1, hk_wi_0, hk_wj_0, h3w_0, h3w_1, h3v_0, hk_kI, hk_kJ, hk_kA, hk_kB, A_eq, A_ne, A_row, B_eq, B_ne, B_row, I_eq, I_ne, J_eq, J_ne, Option.bind_some, Option.some.injEq, if_true, if_false, eq_self, true_or, or_true, true_and, and_true, false_or, or_false, not_true_eq_false, not_false_eq_true, Classical.not_not, nar_b0, nar_b1, rz_0, rz_1, rz_i, ite01, Nat.add_zero, Nat.zero_add, Nat.one_mul, mul12, reduceIte, ra_z0, Nat.reduceEqDiff, Nat.reduceLT, Nat.reduceLeDiff, Nat.reduceAdd, Nat.reduceMul, Nat.reduceSub, Nat.reduceDiv, Nat.reduceMod, Bool.false_eq_true, false_and, and_false, reduceCtorEq, fX8_readPart, nX8_readPart_62, nX8_readPart_96, nX8_readPart_84, nX8_readPart_53, nX8_readPart_38, nX8_readPart_37, nX8_readPart_0, is, h9, c2, fh]
end
