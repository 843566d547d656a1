/-! the class's reader: a test in brackets -/
section
variable (N : Nat) (κ : hk_T)
def pBra (B : Nat → Nat) (n : Nat) (rt : Nat → Nat → pRT) (b j k : Nat) : pRT := if b < 8 then (match rt (nxt B n j) k with
      | .inl f => .inl f
      | .inr (j1, k1, v) => if sg B n 41 j1 then .inr (nxt B n j1, k1, v) else .inl j1) else .inl j
theorem c_readBracketed {B : Nat → Nat} {n b j k f : Nat} {K : Nat → Nat} {rt : Nat → Int32 → ra_H → Option (Int32 × ra_H)} {rp : Nat → Nat → pRT} (hb : b ≤ 8) (hrt : b < 8 → ∀ κ j k f K, cP κ B n j k f K → f ≤ j → cRet κ B n j k f K True (rp j k) (rt 16 (n3 (b + 1)) (hp κ))) (hs : sg B n 40 j) (h : cP κ B n j k f K) (hf : f ≤ j) (hN : 1000 < N) : cRet κ B n j k f K True (pBra B n rp b j k) (fX8_readBracketed N rt 16 (n3 b) (hp κ)) := by
  unfold pBra
  have jl := sg_lt hs
  have nx := nxt_le (B := B) h.2.1.1
  have nx2 := nx.2 jl
  by_cases cb : b < 8
  · rw [if_pos cb]
    obtain ⟨κ1, e1, s1, p1⟩ := c_advP N κ h hN
    have hr := hrt cb κ1 (nxt B n j) k f K p1 (by omega)
    cases hq : rp (nxt B n j) k with
    | inl e =>
      rw [hq] at hr
      obtain ⟨κ2, e2, s2, q2⟩ := hr
      refine ⟨κ2, ?_, s1.trans s2, q2⟩
      simp (maxSteps := 400000) (disch := omega) only [n3_l, n3_add, n3_mul, n3_sub, n3_subn, n3_lt, n3_le, n3_eq, n3_eqn, n3_neq, n3_and, n3_or, n3_shl, n3_i, n3_cl, ↓hbd_0, ↓hbd_1, ↓hbd_2, hk_ob_0, hk_rd_0, hk_rd_1, hk_rd_2, hk_al_0, hk_al_1, h3r_0, h3r_1, hk_wi_0, hk_wj_0, h3w_0, h3w_1, h3v_0, hk_kI, hk_kJ, hk_kA, hk_kB, A_eq, A_ne, A_row, B_eq, B_ne, B_row, I_eq, I_ne, J_eq, J_ne, Option.bind_some, Option.some.injEq, if_true, if_false, eq_self, true_or, or_true, true_and, and_true, false_or, or_false, not_true_eq_false, not_false_eq_true, Classical.not_not, nar_b0, nar_b1, rz_0, rz_1, rz_i, ite01, Nat.add_zero, Nat.zero_add, Nat.one_mul, mul12, reduceIte, ra_z0, Nat.reduceEqDiff, Nat.reduceLT, Nat.reduceLeDiff, Nat.reduceAdd, Nat.reduceMul, Nat.reduceSub, Nat.reduceDiv, Nat.reduceMod, Bool.false_eq_true, false_and, and_false, reduceCtorEq, fX8_readBracketed, nX8_readBracketed_31, nX8_readBracketed_0, cb, e1, e2]
    | inr t =>
      obtain ⟨j1, k1, v⟩ := t
      rw [hq] at hr
      obtain ⟨κ2, f2, K2, e2, s2, p2, a1, a2, a3, a4, a5, a6, a7, a8⟩ := hr
      have is2 := c_isSign N κ2 (c := 41) p2.1 p2.2.1 (by omega)
      dsimp only
      by_cases c2 : sg B n 41 j1
      · rw [if_pos c2]
        rw [if_pos c2] at is2
        obtain ⟨κ3, e3, s3, p3⟩ := c_advP N κ2 p2 hN
        have l1 := sg_lt c2
        have nx1 := (nxt_le (B := B) p2.2.1.1).2 l1
        refine ⟨κ3, f2, K2, ?_, s1.trans (s2.trans s3), p3, a1, a2, by omega, a4, by omega, a6, a7, a8⟩
        simp (maxSteps := 400000) (disch := omega) only [n3_l, n3_add, n3_mul, n3_sub, n3_subn, n3_lt, n3_le, n3_eq, n3_eqn, n3_neq, n3_and, n3_or, n3_shl, n3_i, n3_cl, ↓hbd_0, ↓hbd_1, ↓hbd_2, hk_ob_0, hk_rd_0, hk_rd_1, hk_rd_2, hk_al_0, hk_al_1, h3r_0, h3r_1, hk_wi_0, hk_wj_0, h3w_0, h3w_1, h3v_0, hk_kI, hk_kJ, hk_kA, hk_kB, A_eq, A_ne, A_row, B_eq, B_ne, B_row, I_eq, I_ne, J_eq, J_ne, Option.bind_some, Option.some.injEq, if_true, if_false, eq_self, true_or, or_true, true_and, and_true, false_or, or_false, not_true_eq_false, not_false_eq_true, Classical.not_not, nar_b0, nar_b1, rz_0, rz_1, rz_i, ite01, Nat.add_zero, Nat.zero_add, Nat.one_mul, mul12, reduceIte, ra_z0, Nat.reduceEqDiff, Nat.reduceLT, Nat.reduceLeDiff, Nat.reduceAdd, Nat.reduceMul, Nat.reduceSub, Nat.reduceDiv, Nat.reduceMod, Bool.false_eq_true, false_and, and_false, reduceCtorEq, fX8_readBracketed, nX8_readBracketed_31, nX8_readBracketed_0, cb, e1, e2, is2, e3]
      · rw [if_neg c2]
        rw [if_neg c2] at is2
        refine ⟨κ2, ?_, s1.trans s2, p2.2.1.2.1⟩
        simp (maxSteps := 400000) (disch := omega) only [n3_l, n3_add, n3_mul, n3_sub, n3_subn, n3_lt, n3_le, n3_eq, n3_eqn, n3_neq, n3_and, n3_or, n3_shl, n3_i, n3_cl, ↓hbd_0, ↓hbd_1, ↓hbd_2, hk_ob_0, hk_rd_0, hk_rd_1, hk_rd_2, hk_al_0, hk_al_1, h3r_0, h3r_1, hk_wi_0, hk_wj_0, h3w_0, h3w_1, h3v_0, hk_kI, hk_kJ, hk_kA, hk_kB, A_eq, A_ne, A_row, B_eq, B_ne, B_row, I_eq, I_ne, J_eq, J_ne, Option.bind_some, Option.some.injEq, if_true, if_false, eq_self, true_or, or_true, true_and, and_true, false_or, or_false, not_true_eq_false, not_false_eq_true, Classical.not_not, nar_b0, nar_b1, rz_0, rz_1, rz_i, ite01, Nat.add_zero, Nat.zero_add, Nat.one_mul, mul12, reduceIte, ra_z0, Nat.reduceEqDiff, Nat.reduceLT, Nat.reduceLeDiff, Nat.reduceAdd, Nat.reduceMul, Nat.reduceSub, Nat.reduceDiv, Nat.reduceMod, Bool.false_eq_true, false_and, and_false, reduceCtorEq, fX8_readBracketed, nX8_readBracketed_31, nX8_readBracketed_0, cb, e1, e2, is2]
  · rw [if_neg cb]
    refine ⟨κ, ?_, cS.refl _, h.2.1.2.1⟩
    simp (maxSteps := 400000) (disch := omega) only [n3_l, n3_add, n3_mul, n3_sub, n3_subn, n3_lt, n3_le, n3_eq, n3_eqn, n3_neq, n3_and, n3_or, n3_shl, n3_i, n3_cl, ↓hbd_0, ↓hbd_1, ↓hbd_2, hk_ob_0, hk_rd_0, hk_rd_1, hk_rd_2, hk_al_0, hk_al_1, h3r_0, h3r_1, hk_wi_0, hk_wj_0, h3w_0, h3w_1, h3v_0, hk_kI, hk_kJ, hk_kA, hk_kB, A_eq, A_ne, A_row, B_eq, B_ne, B_row, I_eq, I_ne, J_eq, J_ne, Option.bind_some, Option.some.injEq, if_true, if_false, eq_self, true_or, or_true, true_and, and_true, false_or, or_false, not_true_eq_false, not_false_eq_true, Classical.not_not, nar_b0, nar_b1, rz_0, rz_1, rz_i, ite01, Nat.add_zero, Nat.zero_add, Nat.one_mul, mul12, reduceIte, ra_z0, Nat.reduceEqDiff, Nat.reduceLT, Nat.reduceLeDiff, Nat.reduceAdd, Nat.reduceMul, Nat.reduceSub, Nat.reduceDiv, Nat.reduceMod, Bool.false_eq_true, false_and, and_false, reduceCtorEq, fX8_readBracketed, nX8_readBracketed_31, nX8_readBracketed_0, cb]
/-- two sums compared -/
theorem c_comp {B : Nat → Nat} {n b j k f : Nat} {K : Nat → Nat} (hb : b ≤ 8) (h : cP κ B n j k f K) (hf : f ≤ j) (hN : 1000 < N) : cRet κ B n j k f K True (pComp B n b j k) ((fX8_readSum N 16 (n3 b) (hp κ)).bind fun q2 => if q2.1 = n3 0 then some (n3 0, q2.2) else (fX8_comparisonHere N 16 q2.2).bind fun q3 => if q3.1 = -n3 1 then some (n3 0, q3.2) else (fX8_advance N 16 q3.2).bind fun h4 => (fX8_readSum N 16 (n3 b) h4).bind fun q5 => if q5.1 = n3 0 then some (n3 0, q5.2) else (fX8_emit N 16 q3.1 (n3 0) q5.2).bind fun h6 => some (n3 1, h6)) := by
  unfold pComp
  have hr := c_readSum N (B := B) (n := n) hN 9 b (by omega) hb κ j k f K h hf
  have e0 : ∀ h, fX8_readSum N 16 (n3 b) h = rX8_readSum N 9 16 (n3 b) h := fun h => rfl
  cases hq : pSum B n 9 b j k with
  | inl e =>
    rw [hq] at hr
    obtain ⟨κ1, e1, s1, q1⟩ := hr
    refine ⟨κ1, ?_, s1, q1⟩
    simp (maxSteps := 400000) (disch := omega) only [n3_l, n3_add, n3_mul, n3_sub, n3_subn, n3_lt, n3_le, n3_eq, n3_eqn, n3_neq, n3_and, n3_or, n3_shl, n3_i, n3_cl, ↓hbd_0, ↓hbd_1, ↓hbd_2, hk_ob_0, hk_rd_0, hk_rd_1, hk_rd_2, hk_al_0, hk_al_1, h3r_0, h3r_1, hk_wi_0, hk_wj_0, h3w_0, h3w_1, h3v_0, hk_kI, hk_kJ, hk_kA, hk_kB, A_eq, A_ne, A_row, B_eq, B_ne, B_row, I_eq, I_ne, J_eq, J_ne, Option.bind_some, Option.some.injEq, if_true, if_false, eq_self, true_or, or_true, true_and, and_true, false_or, or_false, not_true_eq_false, not_false_eq_true, Classical.not_not, nar_b0, nar_b1, rz_0, rz_1, rz_i, ite01, Nat.add_zero, Nat.zero_add, Nat.one_mul, mul12, reduceIte, ra_z0, Nat.reduceEqDiff, Nat.reduceLT, Nat.reduceLeDiff, Nat.reduceAdd, Nat.reduceMul, Nat.reduceSub, Nat.reduceDiv, Nat.reduceMod, Bool.false_eq_true, false_and, and_false, reduceCtorEq, e0, e1]
  | inr t =>
    obtain ⟨j1, k1, v⟩ := t
    rw [hq] at hr
    obtain ⟨κ1, f1, K1, e1, s1, p1, a1, a2, a3, a4, a5, a6, a7, -⟩ := hr
    have ch := c_comparisonHere N κ1 p1.1 p1.2.1
    dsimp only
    cases hc : cmpA B n j1 with
    | none =>
      rw [hc] at ch
      refine ⟨κ1, ?_, s1, p1.2.1.2.1⟩
      simp (maxSteps := 400000) (disch := omega) only [n3_l, n3_add, n3_mul, n3_sub, n3_subn, n3_lt, n3_le, n3_eq, n3_eqn, n3_neq, n3_and, n3_or, n3_shl, n3_i, n3_cl, ↓hbd_0, ↓hbd_1, ↓hbd_2, hk_ob_0, hk_rd_0, hk_rd_1, hk_rd_2, hk_al_0, hk_al_1, h3r_0, h3r_1, hk_wi_0, hk_wj_0, h3w_0, h3w_1, h3v_0, hk_kI, hk_kJ, hk_kA, hk_kB, A_eq, A_ne, A_row, B_eq, B_ne, B_row, I_eq, I_ne, J_eq, J_ne, Option.bind_some, Option.some.injEq, if_true, if_false, eq_self, true_or, or_true, true_and, and_true, false_or, or_false, not_true_eq_false, not_false_eq_true, Classical.not_not, nar_b0, nar_b1, rz_0, rz_1, rz_i, ite01, Nat.add_zero, Nat.zero_add, Nat.one_mul, mul12, reduceIte, ra_z0, Nat.reduceEqDiff, Nat.reduceLT, Nat.reduceLeDiff, Nat.reduceAdd, Nat.reduceMul, Nat.reduceSub, Nat.reduceDiv, Nat.reduceMod, Bool.false_eq_true, false_and, and_false, reduceCtorEq, e0, e1, ch]
    | some o =>
      rw [hc] at ch
      dsimp only at ch ⊢
      have jl : j1 < n := by
        unfold cmpA at hc
        split at hc
        · exact sg_lt (by assumption)
        · split at hc
          · exact sg_lt (by assumption)
          · split at hc
            · exact sg_lt (by assumption)
            · cases hc
      have o46 : 4 ≤ o ∧ o ≤ 6 := by
        unfold cmpA at hc
        (repeat' split at hc) <;> first | (have := Option.some.inj hc; omega) | (cases hc)
      have nx2 := (nxt_le (B := B) p1.2.1.1).2 jl
      obtain ⟨κ2, e2, s2, p2⟩ := c_advP N κ1 p1 hN
      have n4 := p1.1.1
      have hr2 := c_readSum N (B := B) (n := n) hN 9 b (by omega) hb κ2 (nxt B n j1) k1 f1 K1 p2 (by omega)
      have hn1 : ¬ n3 (2 + o) = -n3 1 := fun z => (n3_eqn (by omega) (by omega) (by omega)).mp z
      cases hq2 : pSum B n 9 b (nxt B n j1) k1 with
      | inl e =>
        rw [hq2] at hr2
        obtain ⟨κ3, e3, s3, q3⟩ := hr2
        refine ⟨κ3, ?_, s1.trans (s2.trans s3), q3⟩
        simp (maxSteps := 400000) (disch := omega) only [n3_l, n3_add, n3_mul, n3_sub, n3_subn, n3_lt, n3_le, n3_eq, n3_eqn, n3_neq, n3_and, n3_or, n3_shl, n3_i, n3_cl, ↓hbd_0, ↓hbd_1, ↓hbd_2, hk_ob_0, hk_rd_0, hk_rd_1, hk_rd_2, hk_al_0, hk_al_1, h3r_0, h3r_1, hk_wi_0, hk_wj_0, h3w_0, h3w_1, h3v_0, hk_kI, hk_kJ, hk_kA, hk_kB, A_eq, A_ne, A_row, B_eq, B_ne, B_row, I_eq, I_ne, J_eq, J_ne, Option.bind_some, Option.some.injEq, if_true, if_false, eq_self, true_or, or_true, true_and, and_true, false_or, or_false, not_true_eq_false, not_false_eq_true, Classical.not_not, nar_b0, nar_b1, rz_0, rz_1, rz_i, ite01, Nat.add_zero, Nat.zero_add, Nat.one_mul, mul12, reduceIte, ra_z0, Nat.reduceEqDiff, Nat.reduceLT, Nat.reduceLeDiff, Nat.reduceAdd, Nat.reduceMul, Nat.reduceSub, Nat.reduceDiv, Nat.reduceMod, Bool.false_eq_true, false_and, and_false, reduceCtorEq, e0, e1, ch, hn1, e2, e3]
      | inr t =>
        obtain ⟨j2, k2, w⟩ := t
        rw [hq2] at hr2
        obtain ⟨κ3, f2, K2, e3, s3, p3, b1, b2, b3, b4, b5, b6, b7, -⟩ := hr2
        have j2n := p3.2.1.1
        obtain ⟨κ4, e4, s4, p4⟩ := c_emitP N κ3 (i := 2 + o) (w := 0) p3 (by omega)
        refine ⟨κ4, f2 + 1, _, ?_, s1.trans (s2.trans (s3.trans s4)), p4, fun x hx => ?_, by omega, by omega, by omega, by omega, cFr_grow a6 b1 b6 a7 b7 o46.2 a4 b4, vBin_o, fun _ => vBin_t o46.1⟩
        · simp (maxSteps := 400000) (disch := omega) only [n3_l, n3_add, n3_mul, n3_sub, n3_subn, n3_lt, n3_le, n3_eq, n3_eqn, n3_neq, n3_and, n3_or, n3_shl, n3_i, n3_cl, ↓hbd_0, ↓hbd_1, ↓hbd_2, hk_ob_0, hk_rd_0, hk_rd_1, hk_rd_2, hk_al_0, hk_al_1, h3r_0, h3r_1, hk_wi_0, hk_wj_0, h3w_0, h3w_1, h3v_0, hk_kI, hk_kJ, hk_kA, hk_kB, A_eq, A_ne, A_row, B_eq, B_ne, B_row, I_eq, I_ne, J_eq, J_ne, Option.bind_some, Option.some.injEq, if_true, if_false, eq_self, true_or, or_true, true_and, and_true, false_or, or_false, not_true_eq_false, not_false_eq_true, Classical.not_not, nar_b0, nar_b1, rz_0, rz_1, rz_i, ite01, Nat.add_zero, Nat.zero_add, Nat.one_mul, mul12, reduceIte, ra_z0, Nat.reduceEqDiff, Nat.reduceLT, Nat.reduceLeDiff, Nat.reduceAdd, Nat.reduceMul, Nat.reduceSub, Nat.reduceDiv, Nat.reduceMod, Bool.false_eq_true, false_and, and_false, reduceCtorEq, e0, e1, ch, hn1, e2, e3, e4]
        · show (if x = f2 then _ else K2 x) = _
          rw [if_neg (by omega), b1 x (by omega), a1 x hx]
end
