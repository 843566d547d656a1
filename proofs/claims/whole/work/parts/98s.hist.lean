/-! what histories need, out of Inv; ours, untrue -/
theorem vIn_in {a b c d : Int} {x : Int32} (h : vIn a b x = true) (h1 : c ≤ a) (h2 : b ≤ d) : vIn c d x = true := by
  rw [vIn_iff] at h ⊢
  omega
theorem bk_facts {F : Nat → Int32} {b : Nat} (h : bkOk F b) : factsOk (fx F b) := by
  obtain ⟨g0, g2, g3, g4, g5, g6, g7, g8, g9, g10, g11⟩ := h
  have g01 : vIn (-1) 1000 (F (12 * b)) = true ∧ vIn (-1) 1000 (F (12 * b + 1)) = true := by
    rcases of_decide_eq_true g0 with ⟨a, b⟩ | ⟨a, b⟩
    · rw [a, b]; exact ⟨by decide, by decide⟩
    · exact ⟨vIn_in a (by omega) (by omega), vIn_in b (by omega) (by omega)⟩
  intro f hf
  unfold fx
  rw [if_pos hf]
  have e : f = 0 ∨ f = 1 ∨ f = 2 ∨ f = 3 ∨ f = 4 ∨ f = 5 ∨ f = 6 ∨ f = 7 ∨ f = 8 ∨ f = 9 ∨ f = 10 ∨ f = 11 := by omega
  rcases e with e | e | e | e | e | e | e | e | e | e | e | e <;> subst e
  · exact g01.1
  · exact g01.2
  · exact vIn_in g2 (by omega) (by omega)
  · exact vIn_in g3 (by omega) (by omega)
  · exact vIn_in g4 (by omega) (by omega)
  · exact vIn_in g5 (by omega) (by omega)
  · exact vIn_in g6 (by omega) (by omega)
  · exact vIn_in g7 (by omega) (by omega)
  · exact vIn_in g8 (by omega) (by omega)
  · exact vIn_in g9 (by omega) (by omega)
  · exact vIn_in g10 (by omega) (by omega)
  · exact vIn_in g11 (by omega) (by omega)
section
variable {L c : Nat} {xs : Nat → Int32} {κ : hk_T} {n nT nL nS : Nat} {T : Nat → tauT}
theorem fx_m (h : hrF (hk_A κ 2) (hk_A κ 71) n) {b : Nat} (hb : b < n) : fx (hk_A κ 71) b = fx (hk_A κ 2) b := by
  funext f
  unfold fx
  by_cases e : f < 12
  · rw [if_pos e, if_pos e]; exact h.1 _ (by omega)
  · rw [if_neg e, if_neg e]
theorem InvC.toC (h : InvC L xs c κ n nT nL nS T) : cH κ n nT T := by
  obtain ⟨h1, h2, h3, h4, h5, h8, h9, h10, h11, h12⟩ := h
  refine ⟨h3.1.1.1, h3.1.1.2.1, h3.1.2.1.1, h3.1.2.1.2.1, fun t ht => ?_, fun b hb => bk_facts (h3.2.2.1.2.2 b hb), h12.1, h12.2.1⟩
  obtain ⟨q, g1, ⟨c', h', b, g2, -⟩, g3, g4⟩ := h4.1 t ht
  exact ⟨q, g1, g2.tx, g3⟩
theorem InvC.toR (h : InvC L xs c κ n nT nL nS T) : ∃ u, u ≤ 13000 * c ∧ rH κ n nT u T := by
  obtain ⟨h1, h2, h3, h4, h5, h8, h9, h10, ⟨w1, u, w2, w3, w4⟩, h12⟩ := h
  refine ⟨u, w2, h3.1.1.2.2, h3.1.1.2.1, h3.1.2.1.2.2, h3.1.2.1.2.1, fun t ht => ?_, fun b hb => ?_, w3, w4⟩
  · obtain ⟨q, g1, g2, g3, g4⟩ := h4.1 t ht
    exact ⟨g4, g3⟩
  · rw [fx_m h3.2.2.1 hb]
    exact bk_facts (h3.2.2.1.2.2 b hb)
end
section
variable (N : Nat) (κ : hk_T)
theorem c_ours_x {n nT : Nat} {T : Nat → tauT} {t b o : Int32} (h : cH κ n nT T) (hx : ¬ (vIn 0 (nT - 1) t = true ∧ vIn 0 (n - 1) b = true ∧ (o = -n3 1 ∨ vIn 0 (n - 1) o = true))) : fX11_ours N 0 t b o (hp κ) = some (-n3 1, hp κ) := by
  obtain ⟨h1, h2, h3, h4, h5, h6, h7, h8⟩ := h
  have hs := c_hasScheme N κ t h3 h4 (fun t ht => by obtain ⟨q, a, -⟩ := h5 t ht; exact ⟨q, a⟩)
  unfold fX11_ours nX11_ours_0
  by_cases c1 : vIn 0 (nT - 1) t = true
  · by_cases c2 : vIn 0 (n - 1) b = true
    · have c3 : ¬ o = -n3 1 := fun z => hx ⟨c1, c2, Or.inl z⟩
      have c4 : ¬ vIn 0 (n - 1) o = true := fun z => hx ⟨c1, c2, Or.inr z⟩
      simp (maxSteps := 400000) (disch := omega) only [n3_l, n3_add, n3_mul, n3_sub, n3_subn, n3_lt, n3_le, n3_eq, n3_eqn, n3_neq, n3_and, n3_or, n3_shl, n3_i, n3_cl, ↓hbd_0, ↓hbd_1, ↓hbd_2, hk_ob_0, hk_rd_0, hk_rd_1, hk_rd_2, hk_al_0, hk_al_1, h3r_0, h3r_1, hk_wi_0, hk_wj_0, h3w_0, h3w_1, h3v_0, hk_kI, hk_kJ, hk_kA, hk_kB, A_eq, A_ne, A_row, B_eq, B_ne, B_row, I_eq, I_ne, J_eq, J_ne, Option.bind_some, Option.some.injEq, if_true, if_false, eq_self, true_or, or_true, true_and, and_true, false_or, or_false, not_true_eq_false, not_false_eq_true, Classical.not_not, nar_b0, nar_b1, rz_0, rz_1, rz_i, ite01, Nat.add_zero, Nat.zero_add, Nat.one_mul, mul12, reduceIte, ra_z0, Nat.reduceEqDiff, Nat.reduceLT, Nat.reduceLeDiff, Nat.reduceAdd, Nat.reduceMul, Nat.reduceSub, Nat.reduceDiv, Nat.reduceMod, Bool.false_eq_true, false_and, and_false, reduceCtorEq, hs, c1, c_hasBook N κ h1 h2, c2, c3, c4, nX11_ours_38]
    · simp (maxSteps := 400000) (disch := omega) only [n3_l, n3_add, n3_mul, n3_sub, n3_subn, n3_lt, n3_le, n3_eq, n3_eqn, n3_neq, n3_and, n3_or, n3_shl, n3_i, n3_cl, ↓hbd_0, ↓hbd_1, ↓hbd_2, hk_ob_0, hk_rd_0, hk_rd_1, hk_rd_2, hk_al_0, hk_al_1, h3r_0, h3r_1, hk_wi_0, hk_wj_0, h3w_0, h3w_1, h3v_0, hk_kI, hk_kJ, hk_kA, hk_kB, A_eq, A_ne, A_row, B_eq, B_ne, B_row, I_eq, I_ne, J_eq, J_ne, Option.bind_some, Option.some.injEq, if_true, if_false, eq_self, true_or, or_true, true_and, and_true, false_or, or_false, not_true_eq_false, not_false_eq_true, Classical.not_not, nar_b0, nar_b1, rz_0, rz_1, rz_i, ite01, Nat.add_zero, Nat.zero_add, Nat.one_mul, mul12, reduceIte, ra_z0, Nat.reduceEqDiff, Nat.reduceLT, Nat.reduceLeDiff, Nat.reduceAdd, Nat.reduceMul, Nat.reduceSub, Nat.reduceDiv, Nat.reduceMod, Bool.false_eq_true, false_and, and_false, reduceCtorEq, hs, c1, c_hasBook N κ h1 h2, c2, nX11_ours_38]
  · simp (maxSteps := 400000) (disch := omega) only [n3_l, n3_add, n3_mul, n3_sub, n3_subn, n3_lt, n3_le, n3_eq, n3_eqn, n3_neq, n3_and, n3_or, n3_shl, n3_i, n3_cl, ↓hbd_0, ↓hbd_1, ↓hbd_2, hk_ob_0, hk_rd_0, hk_rd_1, hk_rd_2, hk_al_0, hk_al_1, h3r_0, h3r_1, hk_wi_0, hk_wj_0, h3w_0, h3w_1, h3v_0, hk_kI, hk_kJ, hk_kA, hk_kB, A_eq, A_ne, A_row, B_eq, B_ne, B_row, I_eq, I_ne, J_eq, J_ne, Option.bind_some, Option.some.injEq, if_true, if_false, eq_self, true_or, or_true, true_and, and_true, false_or, or_false, not_true_eq_false, not_false_eq_true, Classical.not_not, nar_b0, nar_b1, rz_0, rz_1, rz_i, ite01, Nat.add_zero, Nat.zero_add, Nat.one_mul, mul12, reduceIte, ra_z0, Nat.reduceEqDiff, Nat.reduceLT, Nat.reduceLeDiff, Nat.reduceAdd, Nat.reduceMul, Nat.reduceSub, Nat.reduceDiv, Nat.reduceMod, Bool.false_eq_true, false_and, and_false, reduceCtorEq, hs, c1, nX11_ours_38]
theorem r_ours_x {n nT u : Nat} {T : Nat → tauT} {t b o : Int32} (h : rH κ n nT u T) (hx : ¬ (vIn 0 (nT - 1) t = true ∧ vIn 0 (n - 1) b = true ∧ (o = -n3 1 ∨ vIn 0 (n - 1) o = true))) : fX12_ours N 69 t b o (hp κ) = some (-n3 1, hp (hk_wI κ 69 0 (n3 0))) := by
  obtain ⟨h1, h2, h3, h4, h5, h6, h7, h8⟩ := h
  have hs := r_isText N (hk_wI κ 69 0 (n3 0)) (n := nT) h3 (by omega)
  have hb := r_isBook N (hk_wI κ 69 0 (n3 0)) (n := n) h1 h2
  unfold fX12_ours nX12_ours_0
  by_cases c1 : vIn 0 (nT - 1) t = true
  · by_cases c2 : vIn 0 (n - 1) b = true
    · have c3 : ¬ o = -n3 1 := fun z => hx ⟨c1, c2, Or.inl z⟩
      have c4 : ¬ vIn 0 (n - 1) o = true := fun z => hx ⟨c1, c2, Or.inr z⟩
      simp (maxSteps := 400000) (disch := omega) only [n3_l, n3_add, n3_mul, n3_sub, n3_subn, n3_lt, n3_le, n3_eq, n3_eqn, n3_neq, n3_and, n3_or, n3_shl, n3_i, n3_cl, ↓hbd_0, ↓hbd_1, ↓hbd_2, hk_ob_0, hk_rd_0, hk_rd_1, hk_rd_2, hk_al_0, hk_al_1, h3r_0, h3r_1, hk_wi_0, hk_wj_0, h3w_0, h3w_1, h3v_0, hk_kI, hk_kJ, hk_kA, hk_kB, A_eq, A_ne, A_row, B_eq, B_ne, B_row, I_eq, I_ne, J_eq, J_ne, Option.bind_some, Option.some.injEq, if_true, if_false, eq_self, true_or, or_true, true_and, and_true, false_or, or_false, not_true_eq_false, not_false_eq_true, Classical.not_not, nar_b0, nar_b1, rz_0, rz_1, rz_i, ite01, Nat.add_zero, Nat.zero_add, Nat.one_mul, mul12, reduceIte, ra_z0, Nat.reduceEqDiff, Nat.reduceLT, Nat.reduceLeDiff, Nat.reduceAdd, Nat.reduceMul, Nat.reduceSub, Nat.reduceDiv, Nat.reduceMod, Bool.false_eq_true, false_and, and_false, reduceCtorEq, hs, c1, hb, c2, c3, c4, nX12_ours_34]
    · simp (maxSteps := 400000) (disch := omega) only [n3_l, n3_add, n3_mul, n3_sub, n3_subn, n3_lt, n3_le, n3_eq, n3_eqn, n3_neq, n3_and, n3_or, n3_shl, n3_i, n3_cl, ↓hbd_0, ↓hbd_1, ↓hbd_2, hk_ob_0, hk_rd_0, hk_rd_1, hk_rd_2, hk_al_0, hk_al_1, h3r_0, h3r_1, hk_wi_0, hk_wj_0, h3w_0, h3w_1, h3v_0, hk_kI, hk_kJ, hk_kA, hk_kB, A_eq, A_ne, A_row, B_eq, B_ne, B_row, I_eq, I_ne, J_eq, J_ne, Option.bind_some, Option.some.injEq, if_true, if_false, eq_self, true_or, or_true, true_and, and_true, false_or, or_false, not_true_eq_false, not_false_eq_true, Classical.not_not, nar_b0, nar_b1, rz_0, rz_1, rz_i, ite01, Nat.add_zero, Nat.zero_add, Nat.one_mul, mul12, reduceIte, ra_z0, Nat.reduceEqDiff, Nat.reduceLT, Nat.reduceLeDiff, Nat.reduceAdd, Nat.reduceMul, Nat.reduceSub, Nat.reduceDiv, Nat.reduceMod, Bool.false_eq_true, false_and, and_false, reduceCtorEq, hs, c1, hb, c2, nX12_ours_34]
  · simp (maxSteps := 400000) (disch := omega) only [n3_l, n3_add, n3_mul, n3_sub, n3_subn, n3_lt, n3_le, n3_eq, n3_eqn, n3_neq, n3_and, n3_or, n3_shl, n3_i, n3_cl, ↓hbd_0, ↓hbd_1, ↓hbd_2, hk_ob_0, hk_rd_0, hk_rd_1, hk_rd_2, hk_al_0, hk_al_1, h3r_0, h3r_1, hk_wi_0, hk_wj_0, h3w_0, h3w_1, h3v_0, hk_kI, hk_kJ, hk_kA, hk_kB, A_eq, A_ne, A_row, B_eq, B_ne, B_row, I_eq, I_ne, J_eq, J_ne, Option.bind_some, Option.some.injEq, if_true, if_false, eq_self, true_or, or_true, true_and, and_true, false_or, or_false, not_true_eq_false, not_false_eq_true, Classical.not_not, nar_b0, nar_b1, rz_0, rz_1, rz_i, ite01, Nat.add_zero, Nat.zero_add, Nat.one_mul, mul12, reduceIte, ra_z0, Nat.reduceEqDiff, Nat.reduceLT, Nat.reduceLeDiff, Nat.reduceAdd, Nat.reduceMul, Nat.reduceSub, Nat.reduceDiv, Nat.reduceMod, Bool.false_eq_true, false_and, and_false, reduceCtorEq, hs, c1, nX12_ours_34]
theorem c_untrue_x {n nT : Nat} {T : Nat → tauT} {t w i : Int32} (h : cH κ n nT T) (hx : ¬ (vIn 0 (nT - 1) t = true ∧ vIn 0 1 w = true)) : fX11_untrue N 0 t w i (hp κ) = some (-n3 1, hp κ) := by
  obtain ⟨h1, h2, h3, h4, h5, h6, h7, h8⟩ := h
  have hs := c_hasScheme N κ t h3 h4 (fun t ht => by obtain ⟨q, a, -⟩ := h5 t ht; exact ⟨q, a⟩)
  unfold fX11_untrue nX11_untrue_0
  by_cases c1 : vIn 0 (nT - 1) t = true
  · have c2 : ¬ vIn 0 1 w = true := fun z => hx ⟨c1, z⟩
    rw [vIn_iff] at c2
    by_cases c : w < n3 0
    · simp (maxSteps := 400000) (disch := omega) only [n3_l, n3_add, n3_mul, n3_sub, n3_subn, n3_lt, n3_le, n3_eq, n3_eqn, n3_neq, n3_and, n3_or, n3_shl, n3_i, n3_cl, ↓hbd_0, ↓hbd_1, ↓hbd_2, hk_ob_0, hk_rd_0, hk_rd_1, hk_rd_2, hk_al_0, hk_al_1, h3r_0, h3r_1, hk_wi_0, hk_wj_0, h3w_0, h3w_1, h3v_0, hk_kI, hk_kJ, hk_kA, hk_kB, A_eq, A_ne, A_row, B_eq, B_ne, B_row, I_eq, I_ne, J_eq, J_ne, Option.bind_some, Option.some.injEq, if_true, if_false, eq_self, true_or, or_true, true_and, and_true, false_or, or_false, not_true_eq_false, not_false_eq_true, Classical.not_not, nar_b0, nar_b1, rz_0, rz_1, rz_i, ite01, Nat.add_zero, Nat.zero_add, Nat.one_mul, mul12, reduceIte, ra_z0, Nat.reduceEqDiff, Nat.reduceLT, Nat.reduceLeDiff, Nat.reduceAdd, Nat.reduceMul, Nat.reduceSub, Nat.reduceDiv, Nat.reduceMod, Bool.false_eq_true, false_and, and_false, reduceCtorEq, hs, c1, c, nX11_untrue_20]
    · have c3 : ¬ w ≤ n3 1 := by
        rw [i_lt, n3_toInt (by omega)] at c
        rw [i_le, n3_toInt (by omega)]
        omega
      simp (maxSteps := 400000) (disch := omega) only [n3_l, n3_add, n3_mul, n3_sub, n3_subn, n3_lt, n3_le, n3_eq, n3_eqn, n3_neq, n3_and, n3_or, n3_shl, n3_i, n3_cl, ↓hbd_0, ↓hbd_1, ↓hbd_2, hk_ob_0, hk_rd_0, hk_rd_1, hk_rd_2, hk_al_0, hk_al_1, h3r_0, h3r_1, hk_wi_0, hk_wj_0, h3w_0, h3w_1, h3v_0, hk_kI, hk_kJ, hk_kA, hk_kB, A_eq, A_ne, A_row, B_eq, B_ne, B_row, I_eq, I_ne, J_eq, J_ne, Option.bind_some, Option.some.injEq, if_true, if_false, eq_self, true_or, or_true, true_and, and_true, false_or, or_false, not_true_eq_false, not_false_eq_true, Classical.not_not, nar_b0, nar_b1, rz_0, rz_1, rz_i, ite01, Nat.add_zero, Nat.zero_add, Nat.one_mul, mul12, reduceIte, ra_z0, Nat.reduceEqDiff, Nat.reduceLT, Nat.reduceLeDiff, Nat.reduceAdd, Nat.reduceMul, Nat.reduceSub, Nat.reduceDiv, Nat.reduceMod, Bool.false_eq_true, false_and, and_false, reduceCtorEq, hs, c1, c, c3, nX11_untrue_20]
  · simp (maxSteps := 400000) (disch := omega) only [n3_l, n3_add, n3_mul, n3_sub, n3_subn, n3_lt, n3_le, n3_eq, n3_eqn, n3_neq, n3_and, n3_or, n3_shl, n3_i, n3_cl, ↓hbd_0, ↓hbd_1, ↓hbd_2, hk_ob_0, hk_rd_0, hk_rd_1, hk_rd_2, hk_al_0, hk_al_1, h3r_0, h3r_1, hk_wi_0, hk_wj_0, h3w_0, h3w_1, h3v_0, hk_kI, hk_kJ, hk_kA, hk_kB, A_eq, A_ne, A_row, B_eq, B_ne, B_row, I_eq, I_ne, J_eq, J_ne, Option.bind_some, Option.some.injEq, if_true, if_false, eq_self, true_or, or_true, true_and, and_true, false_or, or_false, not_true_eq_false, not_false_eq_true, Classical.not_not, nar_b0, nar_b1, rz_0, rz_1, rz_i, ite01, Nat.add_zero, Nat.zero_add, Nat.one_mul, mul12, reduceIte, ra_z0, Nat.reduceEqDiff, Nat.reduceLT, Nat.reduceLeDiff, Nat.reduceAdd, Nat.reduceMul, Nat.reduceSub, Nat.reduceDiv, Nat.reduceMod, Bool.false_eq_true, false_and, and_false, reduceCtorEq, hs, c1, nX11_untrue_20]
theorem r_untrue_x {n nT u : Nat} {T : Nat → tauT} {t w i : Int32} (h : rH κ n nT u T) (hx : ¬ (vIn 0 (nT - 1) t = true ∧ vIn 0 1 w = true)) : fX12_untrue N 69 t w i (hp κ) = some (-n3 1, hp (hk_wI κ 69 0 (n3 0))) := by
  obtain ⟨h1, h2, h3, h4, h5, h6, h7, h8⟩ := h
  have hs := r_isText N (hk_wI κ 69 0 (n3 0)) (n := nT) h3 (by omega)
  unfold fX12_untrue nX12_untrue_0
  by_cases c1 : vIn 0 (nT - 1) t = true
  · have c2 : ¬ vIn 0 1 w = true := fun z => hx ⟨c1, z⟩
    simp (maxSteps := 400000) (disch := omega) only [n3_l, n3_add, n3_mul, n3_sub, n3_subn, n3_lt, n3_le, n3_eq, n3_eqn, n3_neq, n3_and, n3_or, n3_shl, n3_i, n3_cl, ↓hbd_0, ↓hbd_1, ↓hbd_2, hk_ob_0, hk_rd_0, hk_rd_1, hk_rd_2, hk_al_0, hk_al_1, h3r_0, h3r_1, hk_wi_0, hk_wj_0, h3w_0, h3w_1, h3v_0, hk_kI, hk_kJ, hk_kA, hk_kB, A_eq, A_ne, A_row, B_eq, B_ne, B_row, I_eq, I_ne, J_eq, J_ne, Option.bind_some, Option.some.injEq, if_true, if_false, eq_self, true_or, or_true, true_and, and_true, false_or, or_false, not_true_eq_false, not_false_eq_true, Classical.not_not, nar_b0, nar_b1, rz_0, rz_1, rz_i, ite01, Nat.add_zero, Nat.zero_add, Nat.one_mul, mul12, reduceIte, ra_z0, Nat.reduceEqDiff, Nat.reduceLT, Nat.reduceLeDiff, Nat.reduceAdd, Nat.reduceMul, Nat.reduceSub, Nat.reduceDiv, Nat.reduceMod, Bool.false_eq_true, false_and, and_false, reduceCtorEq, hs, c1, r_in32, j_l, c2, nX12_untrue_23]
  · simp (maxSteps := 400000) (disch := omega) only [n3_l, n3_add, n3_mul, n3_sub, n3_subn, n3_lt, n3_le, n3_eq, n3_eqn, n3_neq, n3_and, n3_or, n3_shl, n3_i, n3_cl, ↓hbd_0, ↓hbd_1, ↓hbd_2, hk_ob_0, hk_rd_0, hk_rd_1, hk_rd_2, hk_al_0, hk_al_1, h3r_0, h3r_1, hk_wi_0, hk_wj_0, h3w_0, h3w_1, h3v_0, hk_kI, hk_kJ, hk_kA, hk_kB, A_eq, A_ne, A_row, B_eq, B_ne, B_row, I_eq, I_ne, J_eq, J_ne, Option.bind_some, Option.some.injEq, if_true, if_false, eq_self, true_or, or_true, true_and, and_true, false_or, or_false, not_true_eq_false, not_false_eq_true, Classical.not_not, nar_b0, nar_b1, rz_0, rz_1, rz_i, ite01, Nat.add_zero, Nat.zero_add, Nat.one_mul, mul12, reduceIte, ra_z0, Nat.reduceEqDiff, Nat.reduceLT, Nat.reduceLeDiff, Nat.reduceAdd, Nat.reduceMul, Nat.reduceSub, Nat.reduceDiv, Nat.reduceMod, Bool.false_eq_true, false_and, and_false, reduceCtorEq, hs, c1, nX12_untrue_23]
end
section
variable (N : Nat) {L c : Nat} {xs : Nat → Int32} {κ : hk_T}
theorem InvC.r {n nT nL nS : Nat} {T : Nat → tauT} (h : InvC L xs c κ n nT nL nS T) {ks : List Nat} {fs : List (Nat × Nat)} {κ1 : hk_T} (s : same ks fs κ κ1) (h1 : ∀ k ∈ [2, 71, 86], k ∉ ks) (h2 : (69, 38) ∉ fs) : ∃ u, u ≤ 13000 * c ∧ rH κ1 n nT u T := by
  obtain ⟨u, hu, g1, g2, g3, g4, g5, g6, g7, g8⟩ := h.toR
  have e := s.1 71 (h1 71 (by decide))
  refine ⟨u, hu, by rw [e]; exact g1, g2, by rw [e]; exact g3, g4, fun t ht => by rw [e]; exact g5 t ht, by rw [e]; exact g6, by rw [s.2.2.1 69 38 h2]; exact g7, by rw [s.1 86 (h1 86 (by decide))]; exact g8⟩
theorem k_ours (h : Inv L xs c κ) (hN : 100000 < N) (t b o : Int32) : callOk L xs c κ (fX11_ours N 0 t b o) (fX12_ours N 69 t b o) := by
  have h0 := h
  obtain ⟨n, nT, nL, nS, T, H⟩ := h0
  have H' : InvC L xs c κ n nT nL nS T := H
  have n40 := H'.toC.2.1
  have t8 := H'.toC.2.2.2.1
  by_cases v : vIn 0 (nT - 1) t = true ∧ vIn 0 (n - 1) b = true ∧ (o = -n3 1 ∨ vIn 0 (n - 1) o = true)
  · obtain ⟨v1, v2, v3⟩ := v
    obtain ⟨t, ht, rfl⟩ := vB v1
    obtain ⟨b, hb, rfl⟩ := vB v2
    obtain ⟨κ1, e1, s1⟩ := c_ours N κ H'.toC ht hb hN v3
    obtain ⟨u, hu, g⟩ := H'.r s1 (by decide) (by decide)
    obtain ⟨κ2, e2, s2⟩ := r_ours N κ1 g ht hb hN v3
    have fe : ∀ b, b < n → fx (hk_A κ1 71) b = fx (hk_A κ 2) b := fun b hb => by rw [s1.1 71 (by decide)]; exact fx_m H'.2.2.1.2.2.1 hb
    rw [fe b hb] at e2
    have ee : (if o = -n3 1 then n3 (oursN (T t 3 (fx (hk_A κ 2) b))) else n3 (oursA (oursN (T t 3 (fx (hk_A κ 2) b))) (oursN (T t 3 (fx (hk_A κ1 71) o.toInt.toNat))))) = if o = -n3 1 then n3 (oursN (T t 3 (fx (hk_A κ 2) b))) else n3 (oursA (oursN (T t 3 (fx (hk_A κ 2) b))) (oursN (T t 3 (fx (hk_A κ 2) o.toInt.toNat)))) := by
      by_cases z : o = -n3 1
      · rw [if_pos z, if_pos z]
      · rw [if_neg z, if_neg z, fe _ (by
          rcases v3 with v3 | v3
          · exact absurd v3 z
          · have := vIn_iff.mp v3
            omega)]
    rw [ee] at e2
    exact callOk.scr h e1 e2 s1 s2 (by decide) (by decide) (by decide) (by decide)
  · obtain ⟨u, hu, g⟩ := H'.toR
    exact callOk.ask h (c_ours_x N κ H'.toC v) (r_ours_x N κ g v) rfl
theorem k_untrue (h : Inv L xs c κ) (hN : 100000 < N) (t w i : Int32) : callOk L xs c κ (fX11_untrue N 0 t w i) (fX12_untrue N 69 t w i) := by
  have h0 := h
  obtain ⟨n, nT, nL, nS, T, H⟩ := h0
  have H' : InvC L xs c κ n nT nL nS T := H
  by_cases v : vIn 0 (nT - 1) t = true ∧ vIn 0 1 w = true
  · obtain ⟨v1, v2⟩ := v
    obtain ⟨t, ht, rfl⟩ := vB v1
    obtain ⟨κ1, e1, s1⟩ := c_untrue N κ (i := i) H'.toC ht v2 hN
    obtain ⟨u, hu, g⟩ := H'.r s1 (by decide) (by decide)
    obtain ⟨κ2, e2, s2⟩ := r_untrue N κ1 (i := i) g ht v2 hN
    have fe : ∀ b, b < n → fx (hk_A κ1 71) b = fx (hk_A κ 2) b := fun b hb => by rw [s1.1 71 (by decide)]; exact fx_m H'.2.2.1.2.2.1 hb
    have ee : fo (stI i (fun b => ¬ T t 4 (fx (hk_A κ1 71) b) = none) n3) 0 n (n3 0, -n3 1) = fo (stI i (fun b => ¬ T t 4 (fx (hk_A κ 2) b) = none) n3) 0 n (n3 0, -n3 1) := by
      refine fo_congr n 0 _ (fun b s g1 g2 => ?_)
      unfold stI
      have fb := fe b (by omega)
      by_cases hP : T t 4 (fx (hk_A κ 2) b) = none
      · rw [if_neg (fun z => z (by rw [fb]; exact hP)), if_neg (fun z => z hP)]
      · rw [if_pos (show ¬ T t 4 (fx (hk_A κ1 71) b) = none by rw [fb]; exact hP), if_pos hP]
    rw [ee] at e2
    exact callOk.scr h e1 e2 s1 s2 (by decide) (by decide) (by decide) (by decide)
  · obtain ⟨u, hu, g⟩ := H'.toR
    exact callOk.ask h (c_untrue_x N κ H'.toC v) (r_untrue_x N κ g v) rfl
end
