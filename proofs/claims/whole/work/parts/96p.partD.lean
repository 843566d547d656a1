/-! the class's reader: a part, whole -/
section
variable (N : Nat) (κ : hk_T)
theorem c_readPart {B : Nat → Nat} {n b j k f : Nat} {K : Nat → Nat} {rs : Nat → Int32 → ra_H → Option (Int32 × ra_H)} {rp : Nat → Nat → pRT} (hb : b ≤ 8) (hrs : b < 8 → ∀ κ j k f K, cP κ B n j k f K → f ≤ j → cRet κ B n j k f K False (rp j k) (rs 16 (n3 (b + 1)) (hp κ))) (h : cP κ B n j k f K) (hf : f ≤ j) (hN : 1000 < N) : cRet κ B n j k f K False (pPart B n rp b j k) (fX8_readPart N rs 16 (n3 b) (hp κ)) := by
  unfold pPart
  by_cases hs : sg B n 91 j
  · rw [if_pos hs]
    have is := c_isSign N κ (c := 91) h.1 h.2.1 (by omega)
    rw [if_pos hs] at is
    have jl := sg_lt hs
    have nx := nxt_le (B := B) h.2.1.1
    have nx2 := nx.2 jl
    by_cases cb : b < 8
    · rw [if_pos cb]
      obtain ⟨κ1, e1, s1, p1⟩ := c_advP N κ h hN
      have hr := hrs cb κ1 (nxt B n j) k f K p1 (by omega)
      cases hq : rp (nxt B n j) k with
      | inl e =>
        rw [hq] at hr
        obtain ⟨κ2, e2, s2, q2⟩ := hr
        refine ⟨κ2, ?_, s1.trans s2, q2⟩
        simp (maxSteps := 400000) (disch := omega) only [n3_l, n3_add, n3_mul, n3_sub, n3_subn, n3_lt, n3_le, n3_eq, n3_eqn, n3_neq, n3_and, n3_or, n3_shl, n3_i, n3_cl, ↓hbd_0, ↓hbd_1, ↓hbd_2, hk_ob_0, hk_rd_0, hk_rd_1, hk_rd_2, hk_al_0, hk_al_1, h3r_0, h3r_1, hk_wi_0, hk_wj_0, h3w_0, h3w_1, h3v_0, hk_kI, hk_kJ, hk_kA, hk_kB, A_eq, A_ne, A_row, B_eq, B_ne, B_row, I_eq, I_ne, J_eq, J_ne, Option.bind_some, Option.some.injEq, if_true, if_false, eq_self, true_or, or_true, true_and, and_true, false_or, or_false, not_true_eq_false, not_false_eq_true, Classical.not_not, nar_b0, nar_b1, rz_0, rz_1, rz_i, ite01, Nat.add_zero, Nat.zero_add, Nat.one_mul, mul12, reduceIte, ra_z0, Nat.reduceEqDiff, Nat.reduceLT, Nat.reduceLeDiff, Nat.reduceAdd, Nat.reduceMul, Nat.reduceSub, Nat.reduceDiv, Nat.reduceMod, Bool.false_eq_true, false_and, and_false, reduceCtorEq, fX8_readPart, nX8_readPart_62, nX8_readPart_96, nX8_readPart_84, nX8_readPart_53, nX8_readPart_38, nX8_readPart_37, nX8_readPart_0, is, fX8_readBracketedSum, nX8_readBracketedSum_31, nX8_readBracketedSum_0, cb, e1, e2]
      | inr t =>
        obtain ⟨j1, k1, v⟩ := t
        rw [hq] at hr
        obtain ⟨κ2, f2, K2, e2, s2, p2, a1, a2, a3, a4, a5, a6, a7, -⟩ := hr
        have is2 := c_isSign N κ2 (c := 93) p2.1 p2.2.1 (by omega)
        dsimp only
        by_cases c2 : sg B n 93 j1
        · rw [if_pos c2]
          rw [if_pos c2] at is2
          obtain ⟨κ3, e3, s3, p3⟩ := c_advP N κ2 p2 hN
          have l1 := sg_lt c2
          have nx1 := (nxt_le (B := B) p2.2.1.1).2 l1
          refine ⟨κ3, f2, K2, ?_, s1.trans (s2.trans s3), p3, a1, a2, by omega, a4, by omega, a6, a7, fun z => z.elim⟩
          simp (maxSteps := 400000) (disch := omega) only [n3_l, n3_add, n3_mul, n3_sub, n3_subn, n3_lt, n3_le, n3_eq, n3_eqn, n3_neq, n3_and, n3_or, n3_shl, n3_i, n3_cl, ↓hbd_0, ↓hbd_1, ↓hbd_2, hk_ob_0, hk_rd_0, hk_rd_1, hk_rd_2, hk_al_0, hk_al_1, h3r_0, h3r_1, hk_wi_0, hk_wj_0, h3w_0, h3w_1, h3v_0, hk_kI, hk_kJ, hk_kA, hk_kB, A_eq, A_ne, A_row, B_eq, B_ne, B_row, I_eq, I_ne, J_eq, J_ne, Option.bind_some, Option.some.injEq, if_true, if_false, eq_self, true_or, or_true, true_and, and_true, false_or, or_false, not_true_eq_false, not_false_eq_true, Classical.not_not, nar_b0, nar_b1, rz_0, rz_1, rz_i, ite01, Nat.add_zero, Nat.zero_add, Nat.one_mul, mul12, reduceIte, ra_z0, Nat.reduceEqDiff, Nat.reduceLT, Nat.reduceLeDiff, Nat.reduceAdd, Nat.reduceMul, Nat.reduceSub, Nat.reduceDiv, Nat.reduceMod, Bool.false_eq_true, false_and, and_false, reduceCtorEq, fX8_readPart, nX8_readPart_62, nX8_readPart_96, nX8_readPart_84, nX8_readPart_53, nX8_readPart_38, nX8_readPart_37, nX8_readPart_0, is, fX8_readBracketedSum, nX8_readBracketedSum_31, nX8_readBracketedSum_0, cb, e1, e2, is2, e3]
        · rw [if_neg c2]
          rw [if_neg c2] at is2
          refine ⟨κ2, ?_, s1.trans s2, p2.2.1.2.1⟩
          simp (maxSteps := 400000) (disch := omega) only [n3_l, n3_add, n3_mul, n3_sub, n3_subn, n3_lt, n3_le, n3_eq, n3_eqn, n3_neq, n3_and, n3_or, n3_shl, n3_i, n3_cl, ↓hbd_0, ↓hbd_1, ↓hbd_2, hk_ob_0, hk_rd_0, hk_rd_1, hk_rd_2, hk_al_0, hk_al_1, h3r_0, h3r_1, hk_wi_0, hk_wj_0, h3w_0, h3w_1, h3v_0, hk_kI, hk_kJ, hk_kA, hk_kB, A_eq, A_ne, A_row, B_eq, B_ne, B_row, I_eq, I_ne, J_eq, J_ne, Option.bind_some, Option.some.injEq, if_true, if_false, eq_self, true_or, or_true, true_and, and_true, false_or, or_false, not_true_eq_false, not_false_eq_true, Classical.not_not, nar_b0, nar_b1, rz_0, rz_1, rz_i, ite01, Nat.add_zero, Nat.zero_add, Nat.one_mul, mul12, reduceIte, ra_z0, Nat.reduceEqDiff, Nat.reduceLT, Nat.reduceLeDiff, Nat.reduceAdd, Nat.reduceMul, Nat.reduceSub, Nat.reduceDiv, Nat.reduceMod, Bool.false_eq_true, false_and, and_false, reduceCtorEq, fX8_readPart, nX8_readPart_62, nX8_readPart_96, nX8_readPart_84, nX8_readPart_53, nX8_readPart_38, nX8_readPart_37, nX8_readPart_0, is, fX8_readBracketedSum, nX8_readBracketedSum_31, nX8_readBracketedSum_0, cb, e1, e2, is2]
    · rw [if_neg cb]
      refine ⟨κ, ?_, cS.refl _, h.2.1.2.1⟩
      simp (maxSteps := 400000) (disch := omega) only [n3_l, n3_add, n3_mul, n3_sub, n3_subn, n3_lt, n3_le, n3_eq, n3_eqn, n3_neq, n3_and, n3_or, n3_shl, n3_i, n3_cl, ↓hbd_0, ↓hbd_1, ↓hbd_2, hk_ob_0, hk_rd_0, hk_rd_1, hk_rd_2, hk_al_0, hk_al_1, h3r_0, h3r_1, hk_wi_0, hk_wj_0, h3w_0, h3w_1, h3v_0, hk_kI, hk_kJ, hk_kA, hk_kB, A_eq, A_ne, A_row, B_eq, B_ne, B_row, I_eq, I_ne, J_eq, J_ne, Option.bind_some, Option.some.injEq, if_true, if_false, eq_self, true_or, or_true, true_and, and_true, false_or, or_false, not_true_eq_false, not_false_eq_true, Classical.not_not, nar_b0, nar_b1, rz_0, rz_1, rz_i, ite01, Nat.add_zero, Nat.zero_add, Nat.one_mul, mul12, reduceIte, ra_z0, Nat.reduceEqDiff, Nat.reduceLT, Nat.reduceLeDiff, Nat.reduceAdd, Nat.reduceMul, Nat.reduceSub, Nat.reduceDiv, Nat.reduceMod, Bool.false_eq_true, false_and, and_false, reduceCtorEq, fX8_readPart, nX8_readPart_62, nX8_readPart_96, nX8_readPart_84, nX8_readPart_53, nX8_readPart_38, nX8_readPart_37, nX8_readPart_0, is, fX8_readBracketedSum, nX8_readBracketedSum_31, nX8_readBracketedSum_0, cb]
  · rw [if_neg hs]
    exact c_readLeaf N κ h hf hs hN
end
