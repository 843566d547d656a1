/-! text: both sides -/
abbrev rFl : List (Nat × Nat) := [(69, 0), (69, 1), (69, 8), (69, 9), (69, 10), (69, 11), (69, 13), (69, 14), (69, 15), (69, 17), (69, 20), (69, 23), (69, 24)]
def rTxt (κ : hk_T) (t : Nat) (r : Sum Nat (Nat × (Nat → Nat × valT × valT))) (run : Option (Int32 × ra_H)) : Prop := match r with
  | .inl e => ∃ κ', run = some (-n3 6, hp κ') ∧ same [70, 75, 76, 77, 78, 79] rFl κ κ' ∧ hk_I κ' 69 8 = n3 0 ∧ hk_I κ' 69 13 = n3 e ∧ hk_I κ' 69 1 = -n3 6 ∧ ∀ k, hk_A κ' 70 k = if k = 6 then hk_A κ 70 6 + n3 1 else hk_A κ 70 k
  | .inr (nC, c) => ∃ κ', run = some (n3 t, hp κ') ∧ same [71, 75, 76, 77, 78, 79] rFl κ κ' ∧ hk_I κ' 69 8 = n3 0 ∧ hk_I κ' 69 13 = -n3 1 ∧ hk_I κ' 69 1 = n3 0 ∧ hk_A κ' 71 481 = n3 (t + 1) ∧ (∀ y, y ≠ 481 → ¬ (760 + 900 * t ≤ y ∧ y < 760 + 900 * (t + 1)) → hk_A κ' 71 y = hk_A κ 71 y) ∧ rTx (fun i => hk_A κ' 71 (760 + 900 * t + i)) (cTau c nC)
section
variable (N : Nat) (κ : hk_T)
theorem r_text99 {B : Nat → Nat} {n t nC j k f : Nat} {O G : Nat → Nat} {c : Nat → Nat × valT × valT} {sf se te : Nat → Nat} (h : rStt κ B n nC j k f O G c sf se te) (h12 : nC ≤ 12) (ht : t < 8) (h481 : hk_A κ 71 481 = n3 t) (hN : 1000 < N) : ∃ κ', nX12_text_99 N 69 (hp κ) = some (n3 t, hp κ') ∧ same [71] [(69, 1), (69, 8)] κ κ' ∧ hk_I κ' 69 8 = n3 0 ∧ hk_I κ' 69 1 = n3 0 ∧ hk_A κ' 71 481 = n3 (t + 1) ∧ (∀ y, y ≠ 481 → ¬ (760 + 900 * t ≤ y ∧ y < 760 + 900 * (t + 1)) → hk_A κ' 71 y = hk_A κ 71 y) ∧ rTx (fun i => hk_A κ' 71 (760 + 900 * t + i)) (cTau c nC) := by
  obtain ⟨hq, h15, hc⟩ := h
  have n4 := hq.1.1
  have jn := hq.2.1.1
  have fj := hq.2.2.2.2.2.2.2.1
  obtain ⟨κ1, e1⟩ : ∃ κ1, κ1 = hk_wA (hk_wI κ 69 8 (n3 0)) 71 (760 + 900 * t + 1) (n3 nC) := ⟨_, rfl⟩
  have s1 : same [71] [(69, 8)] κ κ1 := by rw [e1]; exact ((same.refl _ _ _).wI (by decide)).wA (by decide)
  have i15 : hk_I κ1 69 15 = n3 nC := by rw [s1.2.2.1 69 15 (by decide)]; exact h15
  obtain ⟨κ2, e2, s2, a1, a2⟩ := r_text149 N κ1 ht h12 i15 hN
  have i17 : hk_I κ2 69 17 = n3 f := by rw [s2.2.2.1 69 17 (by decide), s1.2.2.1 69 17 (by decide)]; exact hq.2.2.2.2.2.1
  have i481 : hk_A κ2 71 481 = n3 t := by
    rw [a2 481 (by omega), e1, A_ne (Or.inr (by omega))]
    exact h481
  obtain ⟨κ3, e3, s3, b1, b2, b3, b4⟩ := r_text184 N κ2 ht (by omega) i17 i481 hN
  have s12 : same [71] [(69, 1), (69, 8)] κ κ2 := (s1.weak (by decide) (by decide)).trans (s2.weak (by decide) (by decide))
  have w1 : hk_A κ1 71 (760 + 900 * t + 1) = n3 nC := by rw [e1, A_eq rfl]
  have old : ∀ y, y ≠ 760 + 900 * t + 1 → hk_A κ1 71 y = hk_A κ 71 y := fun y hy => by
    rw [e1, A_ne (Or.inr hy)]
    rfl
  have r75 : hk_A κ1 75 = hk_A κ 75 := s1.1 75 (by decide)
  have r76 : hk_A κ2 76 = hk_A κ 76 := s12.1 76 (by decide)
  have r77 : hk_A κ2 77 = hk_A κ 77 := s12.1 77 (by decide)
  refine ⟨κ3, ?_, s12.trans (s3.weak (by decide) (by decide)), ?_, b1, b3, fun y y1 y2 => ?_, ?_⟩
  · have f14 : ra_fI (hp (hk_wI κ 69 8 (n3 0))) 12 69 14 = some (n3 0) := by rw [← hq.2.2.1]; rfl
    have f481 : hk_A (hk_wI κ 69 8 (n3 0)) 71 481 = n3 t := h481
    have f15 : hk_I (hk_wI κ 69 8 (n3 0)) 69 15 = n3 nC := by rw [I_ne (by decide)]; exact h15
    have g14 : hk_I (hk_wI κ 69 8 (n3 0)) 69 14 = n3 0 := by rw [I_ne (by decide)]; exact hq.2.2.1
    rw [← e3, ← e2, e1]
    obtain ⟨κ0, e0⟩ : ∃ κ0, κ0 = hk_wI κ 69 8 (n3 0) := ⟨_, rfl⟩
    rw [← e0] at f481 f15 g14 ⊢
    have w0 : ra_fW (hp κ) 12 69 8 (.int (n3 0)) = some (hp κ0) := by
      rw [e0]
      simp (maxSteps := 400000) (disch := omega) only [n3_l, n3_add, n3_mul, n3_sub, n3_subn, n3_lt, n3_le, n3_eq, n3_eqn, n3_neq, n3_and, n3_or, n3_shl, n3_i, n3_cl, ↓hbd_0, ↓hbd_1, ↓hbd_2, hk_ob_0, hk_rd_0, hk_rd_1, hk_rd_2, hk_al_0, hk_al_1, h3r_0, h3r_1, hk_wi_0, hk_wj_0, h3w_0, h3w_1, h3v_0, hk_kI, hk_kJ, hk_kA, hk_kB, A_eq, A_ne, A_row, B_eq, B_ne, B_row, I_eq, I_ne, J_eq, J_ne, Option.bind_some, Option.some.injEq, if_true, if_false, eq_self, true_or, or_true, true_and, and_true, false_or, or_false, not_true_eq_false, not_false_eq_true, Classical.not_not, nar_b0, nar_b1, rz_0, rz_1, rz_i, ite01, Nat.add_zero, Nat.zero_add, Nat.one_mul, mul12, reduceIte, ra_z0, Nat.reduceEqDiff, Nat.reduceLT, Nat.reduceLeDiff, Nat.reduceAdd, Nat.reduceMul, Nat.reduceSub, Nat.reduceDiv, Nat.reduceMod, Bool.false_eq_true, false_and, and_false, reduceCtorEq]
    have w0' : ra_fW (hp κ) 12 69 8 (.int ((0 : Int32))) = some (hp κ0) := w0
    unfold nX12_text_99
    rw [w0', Option.bind_some]
    simp (maxSteps := 400000) (disch := omega) only [n3_l, n3_add, n3_mul, n3_sub, n3_subn, n3_lt, n3_le, n3_eq, n3_eqn, n3_neq, n3_and, n3_or, n3_shl, n3_i, n3_cl, ↓hbd_0, ↓hbd_1, ↓hbd_2, hk_ob_0, hk_rd_0, hk_rd_1, hk_rd_2, hk_al_0, hk_al_1, h3r_0, h3r_1, hk_wi_0, hk_wj_0, h3w_0, h3w_1, h3v_0, hk_kI, hk_kJ, hk_kA, hk_kB, A_eq, A_ne, A_row, B_eq, B_ne, B_row, I_eq, I_ne, J_eq, J_ne, Option.bind_some, Option.some.injEq, if_true, if_false, eq_self, true_or, or_true, true_and, and_true, false_or, or_false, not_true_eq_false, not_false_eq_true, Classical.not_not, nar_b0, nar_b1, rz_0, rz_1, rz_i, ite01, Nat.add_zero, Nat.zero_add, Nat.one_mul, mul12, reduceIte, ra_z0, Nat.reduceEqDiff, Nat.reduceLT, Nat.reduceLeDiff, Nat.reduceAdd, Nat.reduceMul, Nat.reduceSub, Nat.reduceDiv, Nat.reduceMod, Bool.false_eq_true, false_and, and_false, reduceCtorEq, g14, f481, f15]
  · rw [s3.2.2.1 69 8 (by decide), s2.2.2.1 69 8 (by decide), e1]
    show hk_I (hk_wI κ 69 8 (n3 0)) 69 8 = _
    exact I_eq
  · rw [b4 y y1 (by omega), a2 y (by omega), old y (by omega)]
  · have key : rSch (fun i => hk_A κ3 71 (760 + 900 * t + i)) nC f O G (fun x => (c x).1) sf se te := by
      refine ⟨h12, by omega, ?_, fun x hx => ?_, fun x hx => ?_⟩
      · show hk_A κ3 71 (760 + 900 * t + 1) = n3 nC
        rw [b4 _ (by omega) (by omega), a2 _ (by omega)]
        exact w1
      · obtain ⟨c1, c2, c3, c4, c5, c6, c7, c8, c9, -⟩ := hc x hx
        have cp : ∀ g, g < 8 → hk_A κ3 71 (760 + 900 * t + (2 + 8 * x + g)) = hk_A κ 75 (8 * x + g) := fun g hg => by
          rw [b4 _ (by omega) (by omega), show 760 + 900 * t + (2 + 8 * x + g) = 760 + 900 * t + 2 + (8 * x + g) by omega, a1 _ (by omega), r75]
        refine ⟨(cp 0 (by omega)).trans c1, (cp 3 (by omega)).trans c2, (cp 4 (by omega)).trans c3, (cp 5 (by omega)).trans c4, (cp 6 (by omega)).trans c5, c7, c8, c6⟩
      · obtain ⟨c1, c2⟩ := b2 x hx
        obtain ⟨d1, d2⟩ := hq.2.2.2.2.2.2.1 x hx
        refine ⟨?_, ?_⟩
        · show hk_A κ3 71 (760 + 900 * t + (98 + 2 * x)) = _
          rw [← Nat.add_assoc, c1, r76]
          exact d1
        · show hk_A κ3 71 (760 + 900 * t + (98 + 2 * x + 1)) = _
          rw [show 760 + 900 * t + (98 + 2 * x + 1) = 760 + 900 * t + 98 + 2 * x + 1 by omega, c2, r77]
          exact d2
    exact r_tx key (fun x hx => (hc x hx).2.2.2.2.2.2.2.2.2.1) (fun x hx => (hc x hx).2.2.2.2.2.2.2.2.2.2.1) (fun x hx => (hc x hx).2.2.2.2.2.2.2.2.2.2.2)
theorem r_text {B : Nat → Nat} {n t : Nat} (hT : rTape κ B n) (hW : rWd κ) (ht : t < 8) (h481 : hk_A κ 71 481 = n3 t) (hN : 1000 < N) : rTxt κ t (pScheme B n 12 0 (tkS B n 0) 0 (fun _ => (0, vOne, vOne))) (fX12_text N 69 (hp κ)) := by
  obtain ⟨κa, ea⟩ : ∃ κa, κa = hk_wI (hk_wI (hk_wI (hk_wI κ 69 0 (n3 0)) 69 10 (n3 0)) 69 14 (n3 0)) 69 13 (-n3 1) := ⟨_, rfl⟩
  have sa : same [] [(69, 0), (69, 10), (69, 13), (69, 14)] κ κa := by rw [ea]; exact ((((same.refl _ _ _).wI (by decide)).wI (by decide)).wI (by decide)).wI (by decide)
  have a10 : hk_I κa 69 10 = n3 0 := by rw [ea, I_ne (by decide), I_ne (by decide), I_eq]
  have a13 : hk_I κa 69 13 = -n3 1 := by rw [ea, I_eq]
  have a14 : hk_I κa 69 14 = n3 0 := by rw [ea, I_ne (by decide), I_eq]
  obtain ⟨κb, eb, sb, tb⟩ := r_goOn N κa (hT.same sa (by decide) (by decide)) (Nat.zero_le _) a10 hN
  obtain ⟨κ1, e1⟩ : ∃ κ1, κ1 = hk_wI (hk_wI (hk_wI κb 69 15 (n3 0)) 69 17 (n3 0)) 69 20 (n3 0) := ⟨_, rfl⟩
  have s1 : samJ [] [(69, 15), (69, 17), (69, 20)] κb κ1 := by rw [e1]; exact (((samJ.refl _ _ _).wI (by decide)).wI (by decide)).wI (by decide)
  have sab : same [] rFl κ κ1 := (sa.weak (by decide) (by decide)).trans ((sb.weak (by decide) (by decide)).trans (s1.1.weak (by decide) (by decide)))
  have i13 : hk_I κ1 69 13 = -n3 1 := by rw [s1.1.2.2.1 69 13 (by decide), sb.2.2.1 69 13 (by decide)]; exact a13
  have st : rStt κ1 B n 0 (tkS B n 0) 0 0 (fun _ => 0) (fun _ => 0) (fun _ => (0, vOne, vOne)) (fun _ => 0) (fun _ => 0) (fun _ => 0) := by
    refine ⟨⟨((hT.same sa (by decide) (by decide)).same sb (by decide) (by decide)).same s1.1 (by decide) (by decide), tb.same s1 (by decide) (by decide) (by decide), ?_, ?_, by omega, ?_, fun i hi => absurd hi (by omega), by omega, hW.same sab (by decide) (by decide)⟩, ?_, fun x hx => absurd hx (by omega)⟩
    · rw [s1.1.2.2.1 69 14 (by decide), sb.2.2.1 69 14 (by decide)]; exact a14
    · rw [e1, I_eq]
    · rw [e1, I_ne (by decide), I_eq]
    · rw [e1, I_ne (by decide), I_ne (by decide), I_eq]
  have run : fX12_text N 69 (hp κ) = (fX12_readClause N 69 (hp κ1)).bind fun h => nX12_text_53 N N 69 h := by
    have n8 : ¬ n3 t = (8 : Int32) := fun z => by have := (n3_eq (a := t) (b := 8) (by omega) (by omega)).mp z; omega
    obtain ⟨κ0, e0⟩ : ∃ κ0, κ0 = hk_wI κ 69 0 (n3 0) := ⟨_, rfl⟩
    have w0 : ra_fW (hp κ) 12 69 0 (.int ((0 : Int32))) = some (hp κ0) := by
      rw [e0]
      simp (maxSteps := 400000) (disch := omega) only [n3_l, n3_add, n3_mul, n3_sub, n3_subn, n3_lt, n3_le, n3_eq, n3_eqn, n3_neq, n3_and, n3_or, n3_shl, n3_i, n3_cl, ↓hbd_0, ↓hbd_1, ↓hbd_2, hk_ob_0, hk_rd_0, hk_rd_1, hk_rd_2, hk_al_0, hk_al_1, h3r_0, h3r_1, hk_wi_0, hk_wj_0, h3w_0, h3w_1, h3v_0, hk_kI, hk_kJ, hk_kA, hk_kB, A_eq, A_ne, A_row, B_eq, B_ne, B_row, I_eq, I_ne, J_eq, J_ne, Option.bind_some, Option.some.injEq, if_true, if_false, eq_self, true_or, or_true, true_and, and_true, false_or, or_false, not_true_eq_false, not_false_eq_true, Classical.not_not, nar_b0, nar_b1, rz_0, rz_1, rz_i, ite01, Nat.add_zero, Nat.zero_add, Nat.one_mul, mul12, reduceIte, ra_z0, Nat.reduceEqDiff, Nat.reduceLT, Nat.reduceLeDiff, Nat.reduceAdd, Nat.reduceMul, Nat.reduceSub, Nat.reduceDiv, Nat.reduceMod, Bool.false_eq_true, false_and, and_false, reduceCtorEq]
    have r481 : ra_aI (hp κ0) 0 71 (481 : Int32) = some (n3 t) := by
      have z : hk_A κ0 71 481 = n3 t := by rw [e0]; exact h481
      rw [← z]
      simp (maxSteps := 400000) (disch := omega) only [n3_l, n3_add, n3_mul, n3_sub, n3_subn, n3_lt, n3_le, n3_eq, n3_eqn, n3_neq, n3_and, n3_or, n3_shl, n3_i, n3_cl, ↓hbd_0, ↓hbd_1, ↓hbd_2, hk_ob_0, hk_rd_0, hk_rd_1, hk_rd_2, hk_al_0, hk_al_1, h3r_0, h3r_1, hk_wi_0, hk_wj_0, h3w_0, h3w_1, h3v_0, hk_kI, hk_kJ, hk_kA, hk_kB, A_eq, A_ne, A_row, B_eq, B_ne, B_row, I_eq, I_ne, J_eq, J_ne, Option.bind_some, Option.some.injEq, if_true, if_false, eq_self, true_or, or_true, true_and, and_true, false_or, or_false, not_true_eq_false, not_false_eq_true, Classical.not_not, nar_b0, nar_b1, rz_0, rz_1, rz_i, ite01, Nat.add_zero, Nat.zero_add, Nat.one_mul, mul12, reduceIte, ra_z0, Nat.reduceEqDiff, Nat.reduceLT, Nat.reduceLeDiff, Nat.reduceAdd, Nat.reduceMul, Nat.reduceSub, Nat.reduceDiv, Nat.reduceMod, Bool.false_eq_true, false_and, and_false, reduceCtorEq]
    have bg : fX12_begin N 69 (hp κ0) = some (hp κb) := by
      rw [ea, ← e0] at eb
      simp (maxSteps := 400000) (disch := omega) only [n3_l, n3_add, n3_mul, n3_sub, n3_subn, n3_lt, n3_le, n3_eq, n3_eqn, n3_neq, n3_and, n3_or, n3_shl, n3_i, n3_cl, ↓hbd_0, ↓hbd_1, ↓hbd_2, hk_ob_0, hk_rd_0, hk_rd_1, hk_rd_2, hk_al_0, hk_al_1, h3r_0, h3r_1, hk_wi_0, hk_wj_0, h3w_0, h3w_1, h3v_0, hk_kI, hk_kJ, hk_kA, hk_kB, A_eq, A_ne, A_row, B_eq, B_ne, B_row, I_eq, I_ne, J_eq, J_ne, Option.bind_some, Option.some.injEq, if_true, if_false, eq_self, true_or, or_true, true_and, and_true, false_or, or_false, not_true_eq_false, not_false_eq_true, Classical.not_not, nar_b0, nar_b1, rz_0, rz_1, rz_i, ite01, Nat.add_zero, Nat.zero_add, Nat.one_mul, mul12, reduceIte, ra_z0, Nat.reduceEqDiff, Nat.reduceLT, Nat.reduceLeDiff, Nat.reduceAdd, Nat.reduceMul, Nat.reduceSub, Nat.reduceDiv, Nat.reduceMod, Bool.false_eq_true, false_and, and_false, reduceCtorEq, fX12_begin, nX12_begin_0, eb]
    have w1 : ra_fW (hp κb) 12 69 15 (.int ((0 : Int32))) = some (hp (hk_wI κb 69 15 (n3 0))) := by simp (maxSteps := 400000) (disch := omega) only [n3_l, n3_add, n3_mul, n3_sub, n3_subn, n3_lt, n3_le, n3_eq, n3_eqn, n3_neq, n3_and, n3_or, n3_shl, n3_i, n3_cl, ↓hbd_0, ↓hbd_1, ↓hbd_2, hk_ob_0, hk_rd_0, hk_rd_1, hk_rd_2, hk_al_0, hk_al_1, h3r_0, h3r_1, hk_wi_0, hk_wj_0, h3w_0, h3w_1, h3v_0, hk_kI, hk_kJ, hk_kA, hk_kB, A_eq, A_ne, A_row, B_eq, B_ne, B_row, I_eq, I_ne, J_eq, J_ne, Option.bind_some, Option.some.injEq, if_true, if_false, eq_self, true_or, or_true, true_and, and_true, false_or, or_false, not_true_eq_false, not_false_eq_true, Classical.not_not, nar_b0, nar_b1, rz_0, rz_1, rz_i, ite01, Nat.add_zero, Nat.zero_add, Nat.one_mul, mul12, reduceIte, ra_z0, Nat.reduceEqDiff, Nat.reduceLT, Nat.reduceLeDiff, Nat.reduceAdd, Nat.reduceMul, Nat.reduceSub, Nat.reduceDiv, Nat.reduceMod, Bool.false_eq_true, false_and, and_false, reduceCtorEq]
    have w2 : ra_fW (hp (hk_wI κb 69 15 (n3 0))) 12 69 17 (.int ((0 : Int32))) = some (hp (hk_wI (hk_wI κb 69 15 (n3 0)) 69 17 (n3 0))) := by simp (maxSteps := 400000) (disch := omega) only [n3_l, n3_add, n3_mul, n3_sub, n3_subn, n3_lt, n3_le, n3_eq, n3_eqn, n3_neq, n3_and, n3_or, n3_shl, n3_i, n3_cl, ↓hbd_0, ↓hbd_1, ↓hbd_2, hk_ob_0, hk_rd_0, hk_rd_1, hk_rd_2, hk_al_0, hk_al_1, h3r_0, h3r_1, hk_wi_0, hk_wj_0, h3w_0, h3w_1, h3v_0, hk_kI, hk_kJ, hk_kA, hk_kB, A_eq, A_ne, A_row, B_eq, B_ne, B_row, I_eq, I_ne, J_eq, J_ne, Option.bind_some, Option.some.injEq, if_true, if_false, eq_self, true_or, or_true, true_and, and_true, false_or, or_false, not_true_eq_false, not_false_eq_true, Classical.not_not, nar_b0, nar_b1, rz_0, rz_1, rz_i, ite01, Nat.add_zero, Nat.zero_add, Nat.one_mul, mul12, reduceIte, ra_z0, Nat.reduceEqDiff, Nat.reduceLT, Nat.reduceLeDiff, Nat.reduceAdd, Nat.reduceMul, Nat.reduceSub, Nat.reduceDiv, Nat.reduceMod, Bool.false_eq_true, false_and, and_false, reduceCtorEq]
    have w3 : ra_fW (hp (hk_wI (hk_wI κb 69 15 (n3 0)) 69 17 (n3 0))) 12 69 20 (.int ((0 : Int32))) = some (hp κ1) := by
      rw [e1]
      simp (maxSteps := 400000) (disch := omega) only [n3_l, n3_add, n3_mul, n3_sub, n3_subn, n3_lt, n3_le, n3_eq, n3_eqn, n3_neq, n3_and, n3_or, n3_shl, n3_i, n3_cl, ↓hbd_0, ↓hbd_1, ↓hbd_2, hk_ob_0, hk_rd_0, hk_rd_1, hk_rd_2, hk_al_0, hk_al_1, h3r_0, h3r_1, hk_wi_0, hk_wj_0, h3w_0, h3w_1, h3v_0, hk_kI, hk_kJ, hk_kA, hk_kB, A_eq, A_ne, A_row, B_eq, B_ne, B_row, I_eq, I_ne, J_eq, J_ne, Option.bind_some, Option.some.injEq, if_true, if_false, eq_self, true_or, or_true, true_and, and_true, false_or, or_false, not_true_eq_false, not_false_eq_true, Classical.not_not, nar_b0, nar_b1, rz_0, rz_1, rz_i, ite01, Nat.add_zero, Nat.zero_add, Nat.one_mul, mul12, reduceIte, ra_z0, Nat.reduceEqDiff, Nat.reduceLT, Nat.reduceLeDiff, Nat.reduceAdd, Nat.reduceMul, Nat.reduceSub, Nat.reduceDiv, Nat.reduceMod, Bool.false_eq_true, false_and, and_false, reduceCtorEq]
    have f3 : ra_fR (hp κ0) 12 69 3 = some 71 := rfl
    have ob : fX12_text N 69 (hp κ) = nX12_text_0 N 69 (hp κ) := rfl
    rw [ob]
    unfold nX12_text_0
    rw [w0, Option.bind_some, f3, Option.bind_some, r481, Option.bind_some, if_neg n8, bg, Option.bind_some, w1, Option.bind_some, w2, Option.bind_some, w3, Option.bind_some]
  rw [run]
  have r := r_schemeL N κ1 hN 12 0 _ _ _ _ _ _ _ _ _ N κ1 (by omega) (by omega) (rSc.refl _) st
  have k481 : hk_A κ1 71 = hk_A κ 71 := sab.1 71 (by decide)
  cases hq : pScheme B n 12 0 (tkS B n 0) 0 (fun _ => (0, vOne, vOne)) with
  | inl e =>
    rw [hq] at r
    obtain ⟨κ2, e2, s2, b1, b2⟩ := r
    obtain ⟨κ3, e3⟩ : ∃ κ3, κ3 = hk_wI κ2 69 8 (n3 0) := ⟨_, rfl⟩
    have w3 : ra_fW (hp κ2) 12 69 8 (.int ((0 : Int32))) = some (hp κ3) := by
      rw [e3]
      simp (maxSteps := 400000) (disch := omega) only [n3_l, n3_add, n3_mul, n3_sub, n3_subn, n3_lt, n3_le, n3_eq, n3_eqn, n3_neq, n3_and, n3_or, n3_shl, n3_i, n3_cl, ↓hbd_0, ↓hbd_1, ↓hbd_2, hk_ob_0, hk_rd_0, hk_rd_1, hk_rd_2, hk_al_0, hk_al_1, h3r_0, h3r_1, hk_wi_0, hk_wj_0, h3w_0, h3w_1, h3v_0, hk_kI, hk_kJ, hk_kA, hk_kB, A_eq, A_ne, A_row, B_eq, B_ne, B_row, I_eq, I_ne, J_eq, J_ne, Option.bind_some, Option.some.injEq, if_true, if_false, eq_self, true_or, or_true, true_and, and_true, false_or, or_false, not_true_eq_false, not_false_eq_true, Classical.not_not, nar_b0, nar_b1, rz_0, rz_1, rz_i, ite01, Nat.add_zero, Nat.zero_add, Nat.one_mul, mul12, reduceIte, ra_z0, Nat.reduceEqDiff, Nat.reduceLT, Nat.reduceLeDiff, Nat.reduceAdd, Nat.reduceMul, Nat.reduceSub, Nat.reduceDiv, Nat.reduceMod, Bool.false_eq_true, false_and, and_false, reduceCtorEq]
    have f14 : ra_fI (hp κ3) 12 69 14 = some (n3 1) := by rw [e3, ← b1]; rfl
    have te : fX12_tell N 69 (-6 : Int32) (hp κ3) = _ := r_telln N κ3 6 (by omega) (by omega)
    have a70 : hk_A κ3 70 = hk_A κ 70 := by
      rw [e3]
      show hk_A κ2 70 = _
      rw [s2.1 70 (by decide), sab.1 70 (by decide)]
    have s3 : same [70, 75, 76, 77, 78, 79] rFl κ2 (hk_wA (hk_wI κ3 69 1 (-n3 6)) 70 6 (hk_A κ3 70 6 + n3 1)) := by
      have q : same [70, 75, 76, 77, 78, 79] rFl κ2 κ3 := by rw [e3]; exact (same.refl _ _ _).wI (by decide)
      exact (q.wI (by decide)).wA (by decide)
    refine ⟨_, ?_, (sab.weak (by decide) (by decide)).trans ((s2.weak (by decide) (by decide)).trans s3), ?_, ?_, ?_, fun k => ?_⟩
    · rw [e2]
      unfold nX12_text_99
      rw [w3, Option.bind_some, f14, Option.bind_some, if_neg (show ¬ n3 1 = (0 : Int32) by decide), te, Option.bind_some]
    · show hk_I (hk_wI κ3 69 1 (-n3 6)) 69 8 = _
      rw [I_ne (by decide), e3, I_eq]
    · show hk_I (hk_wI κ3 69 1 (-n3 6)) 69 13 = _
      rw [I_ne (by decide), e3, I_ne (by decide)]
      exact b2
    · show hk_I (hk_wI κ3 69 1 (-n3 6)) 69 1 = _
      exact I_eq
    · by_cases c : k = 6
      · rw [if_pos c, A_eq c, a70]
      · rw [if_neg c, A_ne (Or.inr c)]
        show hk_A κ3 70 k = _
        rw [a70]
  | inr tt =>
    obtain ⟨nC, c⟩ := tt
    rw [hq] at r
    obtain ⟨κ2, j, k, f, O, G, sf, se, te, e2, s2, p2, h12⟩ := r
    have a71 : hk_A κ2 71 = hk_A κ 71 := by rw [s2.1 71 (by decide), k481]
    obtain ⟨κ3, e3, s3, b1, b2, b3, b4, b5⟩ := r_text99 N κ2 p2 h12 ht (by rw [a71]; exact h481) hN
    refine ⟨κ3, e2.trans e3, (sab.weak (by decide) (by decide)).trans ((s2.weak (by decide) (by decide)).trans (s3.weak (by decide) (by decide))), b1, ?_, b2, b3, fun y y1 y2 => by rw [b4 y y1 y2, a71], b5⟩
    rw [s3.2.2.1 69 13 (by decide), s2.2.2.1 69 13 (by decide)]
    exact i13
theorem r_text_y (h481 : hk_A κ 71 481 = n3 8) : fX12_text N 69 (hp κ) = some (-n3 5, hp (hk_wA (hk_wI (hk_wI (hk_wI κ 69 0 (n3 0)) 69 8 (n3 0)) 69 1 (-n3 5)) 70 5 (hk_A κ 70 5 + n3 1))) := by
  have te := r_telln N (hk_wI (hk_wI κ 69 0 (n3 0)) 69 8 (n3 0)) 5 (by omega) (by omega)
  simp (maxSteps := 400000) (disch := omega) only [n3_l, n3_add, n3_mul, n3_sub, n3_subn, n3_lt, n3_le, n3_eq, n3_eqn, n3_neq, n3_and, n3_or, n3_shl, n3_i, n3_cl, ↓hbd_0, ↓hbd_1, ↓hbd_2, hk_ob_0, hk_rd_0, hk_rd_1, hk_rd_2, hk_al_0, hk_al_1, h3r_0, h3r_1, hk_wi_0, hk_wj_0, h3w_0, h3w_1, h3v_0, hk_kI, hk_kJ, hk_kA, hk_kB, A_eq, A_ne, A_row, B_eq, B_ne, B_row, I_eq, I_ne, J_eq, J_ne, Option.bind_some, Option.some.injEq, if_true, if_false, eq_self, true_or, or_true, true_and, and_true, false_or, or_false, not_true_eq_false, not_false_eq_true, Classical.not_not, nar_b0, nar_b1, rz_0, rz_1, rz_i, ite01, Nat.add_zero, Nat.zero_add, Nat.one_mul, mul12, reduceIte, ra_z0, Nat.reduceEqDiff, Nat.reduceLT, Nat.reduceLeDiff, Nat.reduceAdd, Nat.reduceMul, Nat.reduceSub, Nat.reduceDiv, Nat.reduceMod, Bool.false_eq_true, false_and, and_false, reduceCtorEq, fX12_text, nX12_text_99, nX12_text_80, nX12_text_0, h481, te]
end
