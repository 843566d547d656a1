/-! bound, binder's count, twice -/
section
variable (N : Nat) (κ : hk_T)
theorem r_boundOf {b s : Nat} (hb : b < 40) (hs : hk_A κ 71 (12 * b + 7) = n3 s) (h10 : s < 10) : fX12_boundOf N 69 (n3 b) (hp κ) = some (if hk_A κ 71 (12 * b + 2) < hk_A κ 71 (735 + 2 * s) then -n3 1 else if hk_A κ 71 (12 * b + 2) ≤ hk_A κ 71 (735 + 2 * s + 1) then n3 0 else n3 1, hp κ) := by
  simp (maxSteps := 400000) (disch := omega) only [n3_l, n3_add, n3_mul, n3_sub, n3_subn, n3_lt, n3_le, n3_eq, n3_eqn, n3_neq, n3_and, n3_or, n3_shl, n3_i, n3_cl, ↓hbd_0, ↓hbd_1, ↓hbd_2, hk_ob_0, hk_rd_0, hk_rd_1, hk_rd_2, hk_al_0, hk_al_1, h3r_0, h3r_1, hk_wi_0, hk_wj_0, h3w_0, h3w_1, h3v_0, hk_kI, hk_kJ, hk_kA, hk_kB, A_eq, A_ne, A_row, B_eq, B_ne, B_row, I_eq, I_ne, J_eq, J_ne, Option.bind_some, Option.some.injEq, if_true, if_false, eq_self, true_or, or_true, true_and, and_true, false_or, or_false, not_true_eq_false, not_false_eq_true, Classical.not_not, nar_b0, nar_b1, rz_0, rz_1, rz_i, ite01, Nat.add_zero, Nat.zero_add, Nat.one_mul, mul12, reduceIte, ra_z0, Nat.reduceEqDiff, Nat.reduceLT, Nat.reduceLeDiff, Nat.reduceAdd, Nat.reduceMul, Nat.reduceSub, Nat.reduceDiv, Nat.reduceMod, Bool.false_eq_true, false_and, and_false, reduceCtorEq, fX12_boundOf, nX12_boundOf_62, nX12_boundOf_0, hs]
  (repeat' split) <;> rfl
theorem c_twice {n : Nat} {w i : Int32} (hL : hk_I κ 1 13 = n3 n) (hn : n ≤ 40) (hN : 1000 < N) : fX11_twice N 0 w i (hp κ) = some (if vIn 0 2 w = true then pick w (fo (st2I i (fun a b => ¬ hk_A κ 2 (12 * a) = -n3 1 ∧ hk_A κ 2 (12 * a) = hk_A κ 2 (12 * b) ∧ hk_A κ 2 (12 * a + 1) = hk_A κ 2 (12 * b + 1)) (fun a b => if w = n3 1 then n3 a else n3 b) n) 0 n (n3 0, -n3 1)) else -n3 1, hp κ) := by
  unfold fX11_twice nX11_twice_0 nX11_twice_9
  simp (maxSteps := 400000) (disch := omega) only [n3_l, n3_add, n3_mul, n3_sub, n3_subn, n3_lt, n3_le, n3_eq, n3_eqn, n3_neq, n3_and, n3_or, n3_shl, n3_i, n3_cl, ↓hbd_0, ↓hbd_1, ↓hbd_2, hk_ob_0, hk_rd_0, hk_rd_1, hk_rd_2, hk_al_0, hk_al_1, h3r_0, h3r_1, hk_wi_0, hk_wj_0, h3w_0, h3w_1, h3v_0, hk_kI, hk_kJ, hk_kA, hk_kB, A_eq, A_ne, A_row, B_eq, B_ne, B_row, I_eq, I_ne, J_eq, J_ne, Option.bind_some, Option.some.injEq, if_true, if_false, eq_self, true_or, or_true, true_and, and_true, false_or, or_false, not_true_eq_false, not_false_eq_true, Classical.not_not, nar_b0, nar_b1, rz_0, rz_1, rz_i, ite01, Nat.add_zero, Nat.zero_add, Nat.one_mul, mul12, reduceIte, ra_z0, Nat.reduceEqDiff, Nat.reduceLT, Nat.reduceLeDiff, Nat.reduceAdd, Nat.reduceMul, Nat.reduceSub, Nat.reduceDiv, Nat.reduceMod, Bool.false_eq_true, false_and, and_false, reduceCtorEq, lt3, le3]
  by_cases hw : vIn 0 2 w = true
  · have hw' := vIn_iff.mp hw
    rw [if_neg (by omega), if_pos (by omega), if_pos hw, ← pick_c hw]
    refine srch2 (i := i) (w := decide (¬ w = n3 0)) (n := n) (fun m p a => nX11_twice_16 N m 0 w i p (n3 a) (hp κ)) (fun p => if w = n3 0 then some (p, hp κ) else some (-n3 1, hp κ)) (fun v => some (v, hp κ)) ?_ ?_ n 0 0 N (by omega) (by omega) (by have := Nat.mul_le_mul hn hn; omega)
    · intro m k a ha hk
      rw [nX11_twice_16]
      simp (maxSteps := 400000) (disch := omega) only [n3_l, n3_add, n3_mul, n3_sub, n3_subn, n3_lt, n3_le, n3_eq, n3_eqn, n3_neq, n3_and, n3_or, n3_shl, n3_i, n3_cl, ↓hbd_0, ↓hbd_1, ↓hbd_2, hk_ob_0, hk_rd_0, hk_rd_1, hk_rd_2, hk_al_0, hk_al_1, h3r_0, h3r_1, hk_wi_0, hk_wj_0, h3w_0, h3w_1, h3v_0, hk_kI, hk_kJ, hk_kA, hk_kB, A_eq, A_ne, A_row, B_eq, B_ne, B_row, I_eq, I_ne, J_eq, J_ne, Option.bind_some, Option.some.injEq, if_true, if_false, eq_self, true_or, or_true, true_and, and_true, false_or, or_false, not_true_eq_false, not_false_eq_true, Classical.not_not, nar_b0, nar_b1, rz_0, rz_1, rz_i, ite01, Nat.add_zero, Nat.zero_add, Nat.one_mul, mul12, reduceIte, ra_z0, Nat.reduceEqDiff, Nat.reduceLT, Nat.reduceLeDiff, Nat.reduceAdd, Nat.reduceMul, Nat.reduceSub, Nat.reduceDiv, Nat.reduceMod, Bool.false_eq_true, false_and, and_false, reduceCtorEq, hL, ha]
      refine srch (i := i) (w := decide (¬ w = n3 0)) (e := n) (fun m p b => nX11_twice_34 N (nX11_twice_16 N _) m 0 w i p (n3 a) (n3 b) (hp κ)) (fun p => nX11_twice_16 N _ 0 w i p (n3 (a + 1)) (hp κ)) (fun v => some (v, hp κ)) (fun b hb => val_ne (by omega) (by omega)) ?_ ?_ (n - (a + 1)) (a + 1) k N (by omega) (by omega) (by omega)
      · intro m' k' b hb hk'
        rw [nX11_twice_34]
        simp (maxSteps := 400000) (disch := omega) only [n3_l, n3_add, n3_mul, n3_sub, n3_subn, n3_lt, n3_le, n3_eq, n3_eqn, n3_neq, n3_and, n3_or, n3_shl, n3_i, n3_cl, ↓hbd_0, ↓hbd_1, ↓hbd_2, hk_ob_0, hk_rd_0, hk_rd_1, hk_rd_2, hk_al_0, hk_al_1, h3r_0, h3r_1, hk_wi_0, hk_wj_0, h3w_0, h3w_1, h3v_0, hk_kI, hk_kJ, hk_kA, hk_kB, A_eq, A_ne, A_row, B_eq, B_ne, B_row, I_eq, I_ne, J_eq, J_ne, Option.bind_some, Option.some.injEq, if_true, if_false, eq_self, true_or, or_true, true_and, and_true, false_or, or_false, not_true_eq_false, not_false_eq_true, Classical.not_not, nar_b0, nar_b1, rz_0, rz_1, rz_i, ite01, Nat.add_zero, Nat.zero_add, Nat.one_mul, mul12, reduceIte, ra_z0, Nat.reduceEqDiff, Nat.reduceLT, Nat.reduceLeDiff, Nat.reduceAdd, Nat.reduceMul, Nat.reduceSub, Nat.reduceDiv, Nat.reduceMod, Bool.false_eq_true, false_and, and_false, reduceCtorEq, hL, hb, h_sameMark, nX11_twice_81, nX11_twice_82, nX11_twice_85]
        have hz : (w ≤ n3 0) ↔ w = n3 0 := by rw [le3 (by omega), i_eq, n3_toInt (by omega)]; omega
        simp only [hz, decide_not, Bool.not_eq_eq_eq_not, Bool.not_true, decide_eq_false_iff_not]
        by_cases h0 : w = n3 0
        · simp only [h0, if_true, not_true_eq_false, false_and, if_false]
          (repeat' split) <;> first | rfl | contradiction
        · simp only [h0, if_false, not_false_eq_true, true_and]
          (repeat' split) <;> first | rfl | contradiction
      · intro m' k'
        rw [nX11_twice_34]
        simp (maxSteps := 400000) (disch := omega) only [n3_l, n3_add, n3_mul, n3_sub, n3_subn, n3_lt, n3_le, n3_eq, n3_eqn, n3_neq, n3_and, n3_or, n3_shl, n3_i, n3_cl, ↓hbd_0, ↓hbd_1, ↓hbd_2, hk_ob_0, hk_rd_0, hk_rd_1, hk_rd_2, hk_al_0, hk_al_1, h3r_0, h3r_1, hk_wi_0, hk_wj_0, h3w_0, h3w_1, h3v_0, hk_kI, hk_kJ, hk_kA, hk_kB, A_eq, A_ne, A_row, B_eq, B_ne, B_row, I_eq, I_ne, J_eq, J_ne, Option.bind_some, Option.some.injEq, if_true, if_false, eq_self, true_or, or_true, true_and, and_true, false_or, or_false, not_true_eq_false, not_false_eq_true, Classical.not_not, nar_b0, nar_b1, rz_0, rz_1, rz_i, ite01, Nat.add_zero, Nat.zero_add, Nat.one_mul, mul12, reduceIte, ra_z0, Nat.reduceEqDiff, Nat.reduceLT, Nat.reduceLeDiff, Nat.reduceAdd, Nat.reduceMul, Nat.reduceSub, Nat.reduceDiv, Nat.reduceMod, Bool.false_eq_true, false_and, and_false, reduceCtorEq, hL, Nat.lt_irrefl]
    · intro m k
      rw [nX11_twice_16]
      simp (maxSteps := 400000) (disch := omega) only [n3_l, n3_add, n3_mul, n3_sub, n3_subn, n3_lt, n3_le, n3_eq, n3_eqn, n3_neq, n3_and, n3_or, n3_shl, n3_i, n3_cl, ↓hbd_0, ↓hbd_1, ↓hbd_2, hk_ob_0, hk_rd_0, hk_rd_1, hk_rd_2, hk_al_0, hk_al_1, h3r_0, h3r_1, hk_wi_0, hk_wj_0, h3w_0, h3w_1, h3v_0, hk_kI, hk_kJ, hk_kA, hk_kB, A_eq, A_ne, A_row, B_eq, B_ne, B_row, I_eq, I_ne, J_eq, J_ne, Option.bind_some, Option.some.injEq, if_true, if_false, eq_self, true_or, or_true, true_and, and_true, false_or, or_false, not_true_eq_false, not_false_eq_true, Classical.not_not, nar_b0, nar_b1, rz_0, rz_1, rz_i, ite01, Nat.add_zero, Nat.zero_add, Nat.one_mul, mul12, reduceIte, ra_z0, Nat.reduceEqDiff, Nat.reduceLT, Nat.reduceLeDiff, Nat.reduceAdd, Nat.reduceMul, Nat.reduceSub, Nat.reduceDiv, Nat.reduceMod, Bool.false_eq_true, false_and, and_false, reduceCtorEq, hL, Nat.lt_irrefl, nX11_twice_106]
  · have hw' : ¬ (0 ≤ w.toInt ∧ w.toInt ≤ 2) := fun z => hw (vIn_iff.mpr z)
    rw [if_neg hw]
    split
    · rfl
    · rw [if_neg (by omega)]
theorem r_twice {n : Nat} {w i : Int32} (hL : hk_A κ 71 480 = n3 n) (hn : n ≤ 40) (hN : 1000 < N) : fX12_twice N 69 w i (hp κ) = some (if vIn 0 2 w = true then pick w (fo (st2I i (fun a b => ¬ hk_A κ 71 (12 * a) = -n3 1 ∧ hk_A κ 71 (12 * a) = hk_A κ 71 (12 * b) ∧ hk_A κ 71 (12 * a + 1) = hk_A κ 71 (12 * b + 1)) (fun a b => if w = n3 1 then n3 a else n3 b) n) 0 n (n3 0, -n3 1)) else -n3 1, hp (hk_wI κ 69 0 (n3 0))) := by
  unfold fX12_twice nX12_twice_0
  simp (maxSteps := 400000) (disch := omega) only [n3_l, n3_add, n3_mul, n3_sub, n3_subn, n3_lt, n3_le, n3_eq, n3_eqn, n3_neq, n3_and, n3_or, n3_shl, n3_i, n3_cl, ↓hbd_0, ↓hbd_1, ↓hbd_2, hk_ob_0, hk_rd_0, hk_rd_1, hk_rd_2, hk_al_0, hk_al_1, h3r_0, h3r_1, hk_wi_0, hk_wj_0, h3w_0, h3w_1, h3v_0, hk_kI, hk_kJ, hk_kA, hk_kB, A_eq, A_ne, A_row, B_eq, B_ne, B_row, I_eq, I_ne, J_eq, J_ne, Option.bind_some, Option.some.injEq, if_true, if_false, eq_self, true_or, or_true, true_and, and_true, false_or, or_false, not_true_eq_false, not_false_eq_true, Classical.not_not, nar_b0, nar_b1, rz_0, rz_1, rz_i, ite01, Nat.add_zero, Nat.zero_add, Nat.one_mul, mul12, reduceIte, ra_z0, Nat.reduceEqDiff, Nat.reduceLT, Nat.reduceLeDiff, Nat.reduceAdd, Nat.reduceMul, Nat.reduceSub, Nat.reduceDiv, Nat.reduceMod, Bool.false_eq_true, false_and, and_false, reduceCtorEq, r_in32, j_l]
  by_cases hw : vIn 0 2 w = true
  · rw [if_neg (fun z => z hw), if_pos hw]
    refine lp0 (fun m a (s : Int32 × Int32) => nX12_twice_27 N m 69 w i s.1 s.2 (n3 a) (hp (hk_wI κ 69 0 (n3 0)))) n _ (fun s => some (pick w s, hp (hk_wI κ 69 0 (n3 0)))) ?_ ?_ (by omega) (n3 0, -n3 1)
    · intro m a s ha
      rw [nX12_twice_27]
      simp (maxSteps := 400000) (disch := omega) only [n3_l, n3_add, n3_mul, n3_sub, n3_subn, n3_lt, n3_le, n3_eq, n3_eqn, n3_neq, n3_and, n3_or, n3_shl, n3_i, n3_cl, ↓hbd_0, ↓hbd_1, ↓hbd_2, hk_ob_0, hk_rd_0, hk_rd_1, hk_rd_2, hk_al_0, hk_al_1, h3r_0, h3r_1, hk_wi_0, hk_wj_0, h3w_0, h3w_1, h3v_0, hk_kI, hk_kJ, hk_kA, hk_kB, A_eq, A_ne, A_row, B_eq, B_ne, B_row, I_eq, I_ne, J_eq, J_ne, Option.bind_some, Option.some.injEq, if_true, if_false, eq_self, true_or, or_true, true_and, and_true, false_or, or_false, not_true_eq_false, not_false_eq_true, Classical.not_not, nar_b0, nar_b1, rz_0, rz_1, rz_i, ite01, Nat.add_zero, Nat.zero_add, Nat.one_mul, mul12, reduceIte, ra_z0, Nat.reduceEqDiff, Nat.reduceLT, Nat.reduceLeDiff, Nat.reduceAdd, Nat.reduceMul, Nat.reduceSub, Nat.reduceDiv, Nat.reduceMod, Bool.false_eq_true, false_and, and_false, reduceCtorEq, hL, ha]
      refine (lp (fun m b (s : Int32 × Int32) => nX12_twice_46 N (nX12_twice_27 N _) m 69 w i s.1 s.2 (n3 a) (n3 b) (hp (hk_wI κ 69 0 (n3 0)))) n _ (fun s => nX12_twice_27 N _ 69 w i s.1 s.2 (n3 (a + 1)) (hp (hk_wI κ 69 0 (n3 0)))) (fun _ _ => True) ?_ ?_ (n - (a + 1)) (a + 1) N s (by omega) (by omega) trivial).1
      · intro m' b s hb _
        refine ⟨?_, trivial⟩
        rw [nX12_twice_46]
        simp (maxSteps := 400000) (disch := omega) only [n3_l, n3_add, n3_mul, n3_sub, n3_subn, n3_lt, n3_le, n3_eq, n3_eqn, n3_neq, n3_and, n3_or, n3_shl, n3_i, n3_cl, ↓hbd_0, ↓hbd_1, ↓hbd_2, hk_ob_0, hk_rd_0, hk_rd_1, hk_rd_2, hk_al_0, hk_al_1, h3r_0, h3r_1, hk_wi_0, hk_wj_0, h3w_0, h3w_1, h3v_0, hk_kI, hk_kJ, hk_kA, hk_kB, A_eq, A_ne, A_row, B_eq, B_ne, B_row, I_eq, I_ne, J_eq, J_ne, Option.bind_some, Option.some.injEq, if_true, if_false, eq_self, true_or, or_true, true_and, and_true, false_or, or_false, not_true_eq_false, not_false_eq_true, Classical.not_not, nar_b0, nar_b1, rz_0, rz_1, rz_i, ite01, Nat.add_zero, Nat.zero_add, Nat.one_mul, mul12, reduceIte, ra_z0, Nat.reduceEqDiff, Nat.reduceLT, Nat.reduceLeDiff, Nat.reduceAdd, Nat.reduceMul, Nat.reduceSub, Nat.reduceDiv, Nat.reduceMod, Bool.false_eq_true, false_and, and_false, reduceCtorEq, hL, hb, r_hasMark, nX12_twice_140, nX12_twice_145, stI]
        by_cases c1 : hk_A κ 71 (12 * a) = -n3 1 <;> by_cases c2 : hk_A κ 71 (12 * a) = hk_A κ 71 (12 * b) <;> by_cases c3 : hk_A κ 71 (12 * a + 1) = hk_A κ 71 (12 * b + 1) <;> simp only [c1, c2, c3, if_true, if_false, not_true_eq_false, not_false_eq_true, true_and, and_true, false_and, and_false] <;> ((repeat' split) <;> first | rfl | contradiction | simp_all)
      · intro m' s _
        rw [nX12_twice_46]
        simp (maxSteps := 400000) (disch := omega) only [n3_l, n3_add, n3_mul, n3_sub, n3_subn, n3_lt, n3_le, n3_eq, n3_eqn, n3_neq, n3_and, n3_or, n3_shl, n3_i, n3_cl, ↓hbd_0, ↓hbd_1, ↓hbd_2, hk_ob_0, hk_rd_0, hk_rd_1, hk_rd_2, hk_al_0, hk_al_1, h3r_0, h3r_1, hk_wi_0, hk_wj_0, h3w_0, h3w_1, h3v_0, hk_kI, hk_kJ, hk_kA, hk_kB, A_eq, A_ne, A_row, B_eq, B_ne, B_row, I_eq, I_ne, J_eq, J_ne, Option.bind_some, Option.some.injEq, if_true, if_false, eq_self, true_or, or_true, true_and, and_true, false_or, or_false, not_true_eq_false, not_false_eq_true, Classical.not_not, nar_b0, nar_b1, rz_0, rz_1, rz_i, ite01, Nat.add_zero, Nat.zero_add, Nat.one_mul, mul12, reduceIte, ra_z0, Nat.reduceEqDiff, Nat.reduceLT, Nat.reduceLeDiff, Nat.reduceAdd, Nat.reduceMul, Nat.reduceSub, Nat.reduceDiv, Nat.reduceMod, Bool.false_eq_true, false_and, and_false, reduceCtorEq, hL, Nat.lt_irrefl]
    · intro m s
      rw [nX12_twice_27]
      simp (maxSteps := 400000) (disch := omega) only [n3_l, n3_add, n3_mul, n3_sub, n3_subn, n3_lt, n3_le, n3_eq, n3_eqn, n3_neq, n3_and, n3_or, n3_shl, n3_i, n3_cl, ↓hbd_0, ↓hbd_1, ↓hbd_2, hk_ob_0, hk_rd_0, hk_rd_1, hk_rd_2, hk_al_0, hk_al_1, h3r_0, h3r_1, hk_wi_0, hk_wj_0, h3w_0, h3w_1, h3v_0, hk_kI, hk_kJ, hk_kA, hk_kB, A_eq, A_ne, A_row, B_eq, B_ne, B_row, I_eq, I_ne, J_eq, J_ne, Option.bind_some, Option.some.injEq, if_true, if_false, eq_self, true_or, or_true, true_and, and_true, false_or, or_false, not_true_eq_false, not_false_eq_true, Classical.not_not, nar_b0, nar_b1, rz_0, rz_1, rz_i, ite01, Nat.add_zero, Nat.zero_add, Nat.one_mul, mul12, reduceIte, ra_z0, Nat.reduceEqDiff, Nat.reduceLT, Nat.reduceLeDiff, Nat.reduceAdd, Nat.reduceMul, Nat.reduceSub, Nat.reduceDiv, Nat.reduceMod, Bool.false_eq_true, false_and, and_false, reduceCtorEq, hL, Nat.lt_irrefl, nX12_twice_167, pick]
      split <;> rfl
  · rw [if_pos hw, if_neg hw]
/-! runs: pairs in one order, or in both -/
def sm (g : Nat → Int32) : Nat → Nat → Int32
  | _, 0 => 0
  | i, d + 1 => g i + sm g (i + 1) d
theorem fo_sm (g : Nat → Int32) : ∀ (d i : Nat) (s : Int32), fo (fun b s => s + g b) i d s = s + sm g i d := by
  intro d
  induction d with
  | zero => intro i s; exact (Int32.add_zero s).symm
  | succ d ih =>
    intro i s
    show fo _ (i + 1) d (s + g i) = _
    rw [ih, sm, Int32.add_assoc]
theorem sm_last (g : Nat → Int32) : ∀ (d i : Nat), sm g i (d + 1) = sm g i d + g (i + d) := by
  intro d
  induction d with
  | zero => intro i; show g i + 0 = 0 + g i; rw [Int32.add_zero, Int32.zero_add]
  | succ d ih =>
    intro i
    rw [sm, ih (i + 1), sm, Int32.add_assoc]
    congr 3
    omega
theorem sm_congr {g g' : Nat → Int32} : ∀ (d i : Nat), (∀ j, i ≤ j → j < i + d → g j = g' j) → sm g i d = sm g' i d := by
  intro d
  induction d with
  | zero => intro i _; rfl
  | succ d ih =>
    intro i h
    rw [sm, sm, h i (Nat.le_refl _) (by omega), ih (i + 1) (fun j h1 h2 => h j (by omega) (by omega))]
theorem sm_add (g g' : Nat → Int32) : ∀ (d i : Nat), sm (fun j => g j + g' j) i d = sm g i d + sm g' i d := by
  intro d
  induction d with
  | zero => intro i; rfl
  | succ d ih =>
    intro i
    rw [sm, sm, sm, ih]
    ac_rfl
/-- all pairs in both orders, or each once -/
theorem sm_pairs (g : Nat → Nat → Int32) (h0 : ∀ a, g a a = 0) : ∀ n, sm (fun a => sm (g a) 0 n) 0 n = sm (fun a => sm (fun b => g a b + g b a) (a + 1) (n - (a + 1))) 0 n := by
  intro n
  induction n with
  | zero => rfl
  | succ n ih =>
    rw [sm_last (fun a => sm (g a) 0 (n + 1)) n 0, sm_last (fun a => sm (fun b => g a b + g b a) (a + 1) (n + 1 - (a + 1))) n 0]
    rw [Nat.zero_add, Nat.sub_self]
    show _ = _ + (0 : Int32)
    rw [Int32.add_zero]
    have e1 : sm (fun a => sm (g a) 0 (n + 1)) 0 n = sm (fun a => sm (g a) 0 n) 0 n + sm (fun a => g a n) 0 n := by
      rw [← sm_add]
      exact sm_congr n 0 (fun j _ _ => by rw [sm_last, Nat.zero_add])
    have e2 : sm (fun a => sm (fun b => g a b + g b a) (a + 1) (n + 1 - (a + 1))) 0 n = sm (fun a => sm (fun b => g a b + g b a) (a + 1) (n - (a + 1))) 0 n + sm (fun a => g a n + g n a) 0 n := by
      rw [← sm_add]
      refine sm_congr n 0 (fun j _ h2 => ?_)
      rw [show n + 1 - (j + 1) = (n - (j + 1)) + 1 by omega, sm_last, show j + 1 + (n - (j + 1)) = n by omega]
    rw [e1, e2, ih, sm_add, sm_last, Nat.zero_add, h0, Int32.add_zero, Int32.add_assoc]
/-- what an ordered pair gives -/
def runG (F : Nat → Int32) (l : Int32) (a b : Nat) : Int32 := if F (12 * a) = l ∧ F (12 * b) = l ∧ n3 0 < F (12 * a + 5) ∧ n3 0 < F (12 * b + 5) ∧ F (12 * b + 1) < F (12 * a + 1) then (if F (12 * b + 6) < F (12 * a + 6) then n3 1 else if F (12 * a + 6) < F (12 * b + 6) then -n3 1 else n3 0) else n3 0
theorem runG_0 (F : Nat → Int32) (l : Int32) (a : Nat) : runG F l a a = 0 := by
  unfold runG
  rw [if_neg (fun z => by have := i_lt.mp z.2.2.2.2; omega)]
  rfl
theorem cmp_mul (x y p q : Int32) : sp_cmp x y * sp_cmp p q = (if y < x then (if q < p then n3 1 else if p < q then -n3 1 else n3 0) else n3 0) + (if x < y then (if p < q then n3 1 else if q < p then -n3 1 else n3 0) else n3 0) := by
  unfold sp_cmp
  simp only [i_lt, i_eq]
  rcases Int.lt_trichotomy x.toInt y.toInt with h | h | h <;> rcases Int.lt_trichotomy p.toInt q.toInt with g | g | g
  all_goals
    have e1 : ¬ x.toInt < x.toInt := Int.lt_irrefl _
    first
    | simp only [h, g, Int.lt_irrefl, if_true, if_false, show ¬ y.toInt < x.toInt by omega, show ¬ q.toInt < p.toInt by omega]; rfl
    | simp only [h, g, Int.lt_irrefl, if_true, if_false, show ¬ y.toInt < x.toInt by omega, show ¬ p.toInt < q.toInt by omega, show ¬ p.toInt = q.toInt by omega]; rfl
    | simp only [h, g, Int.lt_irrefl, if_true, if_false, show ¬ x.toInt < y.toInt by omega, show ¬ x.toInt = y.toInt by omega, show ¬ q.toInt < p.toInt by omega]; rfl
    | simp only [h, g, Int.lt_irrefl, if_true, if_false, show ¬ x.toInt < y.toInt by omega, show ¬ x.toInt = y.toInt by omega, show ¬ p.toInt < q.toInt by omega, show ¬ p.toInt = q.toInt by omega]; rfl
    | simp only [h, g, Int.lt_irrefl, if_true, if_false]; rfl
theorem c_runs {n : Nat} {l : Int32} (hB : hk_I κ 1 13 = n3 n) (hn : n ≤ 40) (hp0 : ∀ b, b < n → (n3 0 < hk_A κ 2 (12 * b + 5) ↔ hk_A κ 2 (12 * b + 5) ≠ n3 0)) (hN : 1000 < N) : fX11_runs N 0 l (hp κ) = some (if vIn 0 8 l = true then sm (fun a => sm (runG (hk_A κ 2) l a) 0 n) 0 n else -n3 1000, hp κ) := by
  unfold fX11_runs nX11_runs_0 nX11_runs_10
  simp (maxSteps := 400000) (disch := omega) only [n3_l, n3_add, n3_mul, n3_sub, n3_subn, n3_lt, n3_le, n3_eq, n3_eqn, n3_neq, n3_and, n3_or, n3_shl, n3_i, n3_cl, ↓hbd_0, ↓hbd_1, ↓hbd_2, hk_ob_0, hk_rd_0, hk_rd_1, hk_rd_2, hk_al_0, hk_al_1, h3r_0, h3r_1, hk_wi_0, hk_wj_0, h3w_0, h3w_1, h3v_0, hk_kI, hk_kJ, hk_kA, hk_kB, A_eq, A_ne, A_row, B_eq, B_ne, B_row, I_eq, I_ne, J_eq, J_ne, Option.bind_some, Option.some.injEq, if_true, if_false, eq_self, true_or, or_true, true_and, and_true, false_or, or_false, not_true_eq_false, not_false_eq_true, Classical.not_not, nar_b0, nar_b1, rz_0, rz_1, rz_i, ite01, Nat.add_zero, Nat.zero_add, Nat.one_mul, mul12, reduceIte, ra_z0, Nat.reduceEqDiff, Nat.reduceLT, Nat.reduceLeDiff, Nat.reduceAdd, Nat.reduceMul, Nat.reduceSub, Nat.reduceDiv, Nat.reduceMod, Bool.false_eq_true, false_and, and_false, reduceCtorEq, lt3]
  by_cases hw : vIn 0 8 l = true
  · have hw' := vIn_iff.mp hw
    rw [if_neg (by omega), if_pos (by omega), if_pos hw, sm_pairs _ (runG_0 _ _), ← Int32.zero_add (sm _ 0 n), ← fo_sm]
    refine lp0 (fun m a s => nX11_runs_18 N m 0 l s (n3 a) (hp κ)) n _ (fun s => some (s, hp κ)) ?_ ?_ (by omega) _
    · intro m a s ha
      rw [nX11_runs_18]
      simp (maxSteps := 400000) (disch := omega) only [n3_l, n3_add, n3_mul, n3_sub, n3_subn, n3_lt, n3_le, n3_eq, n3_eqn, n3_neq, n3_and, n3_or, n3_shl, n3_i, n3_cl, ↓hbd_0, ↓hbd_1, ↓hbd_2, hk_ob_0, hk_rd_0, hk_rd_1, hk_rd_2, hk_al_0, hk_al_1, h3r_0, h3r_1, hk_wi_0, hk_wj_0, h3w_0, h3w_1, h3v_0, hk_kI, hk_kJ, hk_kA, hk_kB, A_eq, A_ne, A_row, B_eq, B_ne, B_row, I_eq, I_ne, J_eq, J_ne, Option.bind_some, Option.some.injEq, if_true, if_false, eq_self, true_or, or_true, true_and, and_true, false_or, or_false, not_true_eq_false, not_false_eq_true, Classical.not_not, nar_b0, nar_b1, rz_0, rz_1, rz_i, ite01, Nat.add_zero, Nat.zero_add, Nat.one_mul, mul12, reduceIte, ra_z0, Nat.reduceEqDiff, Nat.reduceLT, Nat.reduceLeDiff, Nat.reduceAdd, Nat.reduceMul, Nat.reduceSub, Nat.reduceDiv, Nat.reduceMod, Bool.false_eq_true, false_and, and_false, reduceCtorEq, hB, ha]
      rw [← fo_sm]
      refine (lp (fun m b s => nX11_runs_34 N (nX11_runs_18 N _) m 0 l s (n3 a) (n3 b) (hp κ)) n _ (fun s => nX11_runs_18 N _ 0 l s (n3 (a + 1)) (hp κ)) (fun b _ => a < b) ?_ ?_ (n - (a + 1)) (a + 1) N s (by omega) (by omega) (by omega)).1
      · intro m' b s hb hI
        refine ⟨?_, by omega⟩
        rw [nX11_runs_34]
        simp (maxSteps := 400000) (disch := omega) only [n3_l, n3_add, n3_mul, n3_sub, n3_subn, n3_lt, n3_le, n3_eq, n3_eqn, n3_neq, n3_and, n3_or, n3_shl, n3_i, n3_cl, ↓hbd_0, ↓hbd_1, ↓hbd_2, hk_ob_0, hk_rd_0, hk_rd_1, hk_rd_2, hk_al_0, hk_al_1, h3r_0, h3r_1, hk_wi_0, hk_wj_0, h3w_0, h3w_1, h3v_0, hk_kI, hk_kJ, hk_kA, hk_kB, A_eq, A_ne, A_row, B_eq, B_ne, B_row, I_eq, I_ne, J_eq, J_ne, Option.bind_some, Option.some.injEq, if_true, if_false, eq_self, true_or, or_true, true_and, and_true, false_or, or_false, not_true_eq_false, not_false_eq_true, Classical.not_not, nar_b0, nar_b1, rz_0, rz_1, rz_i, ite01, Nat.add_zero, Nat.zero_add, Nat.one_mul, mul12, reduceIte, ra_z0, Nat.reduceEqDiff, Nat.reduceLT, Nat.reduceLeDiff, Nat.reduceAdd, Nat.reduceMul, Nat.reduceSub, Nat.reduceDiv, Nat.reduceMod, Bool.false_eq_true, false_and, and_false, reduceCtorEq, hB, hb, h_hasHole, h_rise, nX11_runs_84, ne_eq]
        have p1 := hp0 a ha
        have p2 := hp0 b hb
        simp only [ne_eq] at p1 p2
        unfold runG
        simp only [p1, p2]
        by_cases c1 : hk_A κ 2 (12 * a + 5) = n3 0 <;> by_cases c2 : hk_A κ 2 (12 * a) = l <;> by_cases c3 : hk_A κ 2 (12 * b + 5) = n3 0 <;> by_cases c4 : hk_A κ 2 (12 * b) = l <;> simp (maxSteps := 400000) (disch := omega) only [n3_l, n3_add, n3_mul, n3_sub, n3_subn, n3_lt, n3_le, n3_eq, n3_eqn, n3_neq, n3_and, n3_or, n3_shl, n3_i, n3_cl, ↓hbd_0, ↓hbd_1, ↓hbd_2, hk_ob_0, hk_rd_0, hk_rd_1, hk_rd_2, hk_al_0, hk_al_1, h3r_0, h3r_1, hk_wi_0, hk_wj_0, h3w_0, h3w_1, h3v_0, hk_kI, hk_kJ, hk_kA, hk_kB, A_eq, A_ne, A_row, B_eq, B_ne, B_row, I_eq, I_ne, J_eq, J_ne, Option.bind_some, Option.some.injEq, if_true, if_false, eq_self, true_or, or_true, true_and, and_true, false_or, or_false, not_true_eq_false, not_false_eq_true, Classical.not_not, nar_b0, nar_b1, rz_0, rz_1, rz_i, ite01, Nat.add_zero, Nat.zero_add, Nat.one_mul, mul12, reduceIte, ra_z0, Nat.reduceEqDiff, Nat.reduceLT, Nat.reduceLeDiff, Nat.reduceAdd, Nat.reduceMul, Nat.reduceSub, Nat.reduceDiv, Nat.reduceMod, Bool.false_eq_true, false_and, and_false, reduceCtorEq, c1, c2, c3, c4, cmp_mul]
      · intro m' s _
        rw [nX11_runs_34]
        simp (maxSteps := 400000) (disch := omega) only [n3_l, n3_add, n3_mul, n3_sub, n3_subn, n3_lt, n3_le, n3_eq, n3_eqn, n3_neq, n3_and, n3_or, n3_shl, n3_i, n3_cl, ↓hbd_0, ↓hbd_1, ↓hbd_2, hk_ob_0, hk_rd_0, hk_rd_1, hk_rd_2, hk_al_0, hk_al_1, h3r_0, h3r_1, hk_wi_0, hk_wj_0, h3w_0, h3w_1, h3v_0, hk_kI, hk_kJ, hk_kA, hk_kB, A_eq, A_ne, A_row, B_eq, B_ne, B_row, I_eq, I_ne, J_eq, J_ne, Option.bind_some, Option.some.injEq, if_true, if_false, eq_self, true_or, or_true, true_and, and_true, false_or, or_false, not_true_eq_false, not_false_eq_true, Classical.not_not, nar_b0, nar_b1, rz_0, rz_1, rz_i, ite01, Nat.add_zero, Nat.zero_add, Nat.one_mul, mul12, reduceIte, ra_z0, Nat.reduceEqDiff, Nat.reduceLT, Nat.reduceLeDiff, Nat.reduceAdd, Nat.reduceMul, Nat.reduceSub, Nat.reduceDiv, Nat.reduceMod, Bool.false_eq_true, false_and, and_false, reduceCtorEq, hB, Nat.lt_irrefl]
    · intro m s
      rw [nX11_runs_18]
      simp (maxSteps := 400000) (disch := omega) only [n3_l, n3_add, n3_mul, n3_sub, n3_subn, n3_lt, n3_le, n3_eq, n3_eqn, n3_neq, n3_and, n3_or, n3_shl, n3_i, n3_cl, ↓hbd_0, ↓hbd_1, ↓hbd_2, hk_ob_0, hk_rd_0, hk_rd_1, hk_rd_2, hk_al_0, hk_al_1, h3r_0, h3r_1, hk_wi_0, hk_wj_0, h3w_0, h3w_1, h3v_0, hk_kI, hk_kJ, hk_kA, hk_kB, A_eq, A_ne, A_row, B_eq, B_ne, B_row, I_eq, I_ne, J_eq, J_ne, Option.bind_some, Option.some.injEq, if_true, if_false, eq_self, true_or, or_true, true_and, and_true, false_or, or_false, not_true_eq_false, not_false_eq_true, Classical.not_not, nar_b0, nar_b1, rz_0, rz_1, rz_i, ite01, Nat.add_zero, Nat.zero_add, Nat.one_mul, mul12, reduceIte, ra_z0, Nat.reduceEqDiff, Nat.reduceLT, Nat.reduceLeDiff, Nat.reduceAdd, Nat.reduceMul, Nat.reduceSub, Nat.reduceDiv, Nat.reduceMod, Bool.false_eq_true, false_and, and_false, reduceCtorEq, hB, Nat.lt_irrefl]
  · have hw' : ¬ (0 ≤ l.toInt ∧ l.toInt ≤ 8) := fun z => hw (vIn_iff.mpr z)
    rw [if_neg hw]
    split
    · rfl
    · rw [if_neg (by omega)]
theorem r_runs {n : Nat} {l : Int32} (hB : hk_A κ 71 480 = n3 n) (hn : n ≤ 40) (hN : 1000 < N) : fX12_runs N 69 l (hp κ) = some (if vIn 0 8 l = true then sm (fun a => sm (runG (hk_A κ 71) l a) 0 n) 0 n else -n3 1000, hp (hk_wI κ 69 0 (n3 0))) := by
  unfold fX12_runs nX12_runs_0
  simp (maxSteps := 400000) (disch := omega) only [n3_l, n3_add, n3_mul, n3_sub, n3_subn, n3_lt, n3_le, n3_eq, n3_eqn, n3_neq, n3_and, n3_or, n3_shl, n3_i, n3_cl, ↓hbd_0, ↓hbd_1, ↓hbd_2, hk_ob_0, hk_rd_0, hk_rd_1, hk_rd_2, hk_al_0, hk_al_1, h3r_0, h3r_1, hk_wi_0, hk_wj_0, h3w_0, h3w_1, h3v_0, hk_kI, hk_kJ, hk_kA, hk_kB, A_eq, A_ne, A_row, B_eq, B_ne, B_row, I_eq, I_ne, J_eq, J_ne, Option.bind_some, Option.some.injEq, if_true, if_false, eq_self, true_or, or_true, true_and, and_true, false_or, or_false, not_true_eq_false, not_false_eq_true, Classical.not_not, nar_b0, nar_b1, rz_0, rz_1, rz_i, ite01, Nat.add_zero, Nat.zero_add, Nat.one_mul, mul12, reduceIte, ra_z0, Nat.reduceEqDiff, Nat.reduceLT, Nat.reduceLeDiff, Nat.reduceAdd, Nat.reduceMul, Nat.reduceSub, Nat.reduceDiv, Nat.reduceMod, Bool.false_eq_true, false_and, and_false, reduceCtorEq, r_in32, j_l]
  by_cases hw : vIn 0 8 l = true
  · rw [if_neg (fun z => z hw), if_pos hw, ← Int32.zero_add (sm _ 0 n), ← fo_sm]
    refine lp0 (fun m a s => nX12_runs_25 N m 69 l s (n3 a) (hp (hk_wI κ 69 0 (n3 0)))) n _ (fun s => some (s, hp (hk_wI κ 69 0 (n3 0)))) ?_ ?_ (by omega) _
    · intro m a s ha
      rw [nX12_runs_25]
      simp (maxSteps := 400000) (disch := omega) only [n3_l, n3_add, n3_mul, n3_sub, n3_subn, n3_lt, n3_le, n3_eq, n3_eqn, n3_neq, n3_and, n3_or, n3_shl, n3_i, n3_cl, ↓hbd_0, ↓hbd_1, ↓hbd_2, hk_ob_0, hk_rd_0, hk_rd_1, hk_rd_2, hk_al_0, hk_al_1, h3r_0, h3r_1, hk_wi_0, hk_wj_0, h3w_0, h3w_1, h3v_0, hk_kI, hk_kJ, hk_kA, hk_kB, A_eq, A_ne, A_row, B_eq, B_ne, B_row, I_eq, I_ne, J_eq, J_ne, Option.bind_some, Option.some.injEq, if_true, if_false, eq_self, true_or, or_true, true_and, and_true, false_or, or_false, not_true_eq_false, not_false_eq_true, Classical.not_not, nar_b0, nar_b1, rz_0, rz_1, rz_i, ite01, Nat.add_zero, Nat.zero_add, Nat.one_mul, mul12, reduceIte, ra_z0, Nat.reduceEqDiff, Nat.reduceLT, Nat.reduceLeDiff, Nat.reduceAdd, Nat.reduceMul, Nat.reduceSub, Nat.reduceDiv, Nat.reduceMod, Bool.false_eq_true, false_and, and_false, reduceCtorEq, hB, ha]
      rw [← fo_sm]
      refine lp0 (fun m b s => nX12_runs_40 N (nX12_runs_25 N _) m 69 l s (n3 a) (n3 b) (hp (hk_wI κ 69 0 (n3 0)))) n _ (fun s => nX12_runs_25 N _ 69 l s (n3 (a + 1)) (hp (hk_wI κ 69 0 (n3 0)))) ?_ ?_ (by omega) s
      · intro m' b s hb
        rw [nX12_runs_40]
        simp (maxSteps := 400000) (disch := omega) only [n3_l, n3_add, n3_mul, n3_sub, n3_subn, n3_lt, n3_le, n3_eq, n3_eqn, n3_neq, n3_and, n3_or, n3_shl, n3_i, n3_cl, ↓hbd_0, ↓hbd_1, ↓hbd_2, hk_ob_0, hk_rd_0, hk_rd_1, hk_rd_2, hk_al_0, hk_al_1, h3r_0, h3r_1, hk_wi_0, hk_wj_0, h3w_0, h3w_1, h3v_0, hk_kI, hk_kJ, hk_kA, hk_kB, A_eq, A_ne, A_row, B_eq, B_ne, B_row, I_eq, I_ne, J_eq, J_ne, Option.bind_some, Option.some.injEq, if_true, if_false, eq_self, true_or, or_true, true_and, and_true, false_or, or_false, not_true_eq_false, not_false_eq_true, Classical.not_not, nar_b0, nar_b1, rz_0, rz_1, rz_i, ite01, Nat.add_zero, Nat.zero_add, Nat.one_mul, mul12, reduceIte, ra_z0, Nat.reduceEqDiff, Nat.reduceLT, Nat.reduceLeDiff, Nat.reduceAdd, Nat.reduceMul, Nat.reduceSub, Nat.reduceDiv, Nat.reduceMod, Bool.false_eq_true, false_and, and_false, reduceCtorEq, hB, hb, nX12_runs_189, nX12_runs_191]
        unfold runG
        have l1 : ∀ x y : Int32, (x ≤ y) ↔ ¬ y < x := fun x y => by rw [i_le, i_lt]; omega
        simp only [l1]
        by_cases c1 : hk_A κ 71 (12 * a) = l <;> by_cases c2 : hk_A κ 71 (12 * b) = l <;> by_cases c3 : n3 0 < hk_A κ 71 (12 * a + 5) <;> by_cases c4 : n3 0 < hk_A κ 71 (12 * b + 5) <;> by_cases c5 : hk_A κ 71 (12 * b + 1) < hk_A κ 71 (12 * a + 1) <;> simp (maxSteps := 400000) (disch := omega) only [n3_l, n3_add, n3_mul, n3_sub, n3_subn, n3_lt, n3_le, n3_eq, n3_eqn, n3_neq, n3_and, n3_or, n3_shl, n3_i, n3_cl, ↓hbd_0, ↓hbd_1, ↓hbd_2, hk_ob_0, hk_rd_0, hk_rd_1, hk_rd_2, hk_al_0, hk_al_1, h3r_0, h3r_1, hk_wi_0, hk_wj_0, h3w_0, h3w_1, h3v_0, hk_kI, hk_kJ, hk_kA, hk_kB, A_eq, A_ne, A_row, B_eq, B_ne, B_row, I_eq, I_ne, J_eq, J_ne, Option.bind_some, Option.some.injEq, if_true, if_false, eq_self, true_or, or_true, true_and, and_true, false_or, or_false, not_true_eq_false, not_false_eq_true, Classical.not_not, nar_b0, nar_b1, rz_0, rz_1, rz_i, ite01, Nat.add_zero, Nat.zero_add, Nat.one_mul, mul12, reduceIte, ra_z0, Nat.reduceEqDiff, Nat.reduceLT, Nat.reduceLeDiff, Nat.reduceAdd, Nat.reduceMul, Nat.reduceSub, Nat.reduceDiv, Nat.reduceMod, Bool.false_eq_true, false_and, and_false, reduceCtorEq, c1, c2, c3, c4, c5]
        (repeat' split) <;> first | contradiction | simp (maxSteps := 400000) (disch := omega) only [n3_l, n3_add, n3_mul, n3_sub, n3_subn, n3_lt, n3_le, n3_eq, n3_eqn, n3_neq, n3_and, n3_or, n3_shl, n3_i, n3_cl, ↓hbd_0, ↓hbd_1, ↓hbd_2, hk_ob_0, hk_rd_0, hk_rd_1, hk_rd_2, hk_al_0, hk_al_1, h3r_0, h3r_1, hk_wi_0, hk_wj_0, h3w_0, h3w_1, h3v_0, hk_kI, hk_kJ, hk_kA, hk_kB, A_eq, A_ne, A_row, B_eq, B_ne, B_row, I_eq, I_ne, J_eq, J_ne, Option.bind_some, Option.some.injEq, if_true, if_false, eq_self, true_or, or_true, true_and, and_true, false_or, or_false, not_true_eq_false, not_false_eq_true, Classical.not_not, nar_b0, nar_b1, rz_0, rz_1, rz_i, ite01, Nat.add_zero, Nat.zero_add, Nat.one_mul, mul12, reduceIte, ra_z0, Nat.reduceEqDiff, Nat.reduceLT, Nat.reduceLeDiff, Nat.reduceAdd, Nat.reduceMul, Nat.reduceSub, Nat.reduceDiv, Nat.reduceMod, Bool.false_eq_true, false_and, and_false, reduceCtorEq]
      · intro m' s
        rw [nX12_runs_40]
        simp (maxSteps := 400000) (disch := omega) only [n3_l, n3_add, n3_mul, n3_sub, n3_subn, n3_lt, n3_le, n3_eq, n3_eqn, n3_neq, n3_and, n3_or, n3_shl, n3_i, n3_cl, ↓hbd_0, ↓hbd_1, ↓hbd_2, hk_ob_0, hk_rd_0, hk_rd_1, hk_rd_2, hk_al_0, hk_al_1, h3r_0, h3r_1, hk_wi_0, hk_wj_0, h3w_0, h3w_1, h3v_0, hk_kI, hk_kJ, hk_kA, hk_kB, A_eq, A_ne, A_row, B_eq, B_ne, B_row, I_eq, I_ne, J_eq, J_ne, Option.bind_some, Option.some.injEq, if_true, if_false, eq_self, true_or, or_true, true_and, and_true, false_or, or_false, not_true_eq_false, not_false_eq_true, Classical.not_not, nar_b0, nar_b1, rz_0, rz_1, rz_i, ite01, Nat.add_zero, Nat.zero_add, Nat.one_mul, mul12, reduceIte, ra_z0, Nat.reduceEqDiff, Nat.reduceLT, Nat.reduceLeDiff, Nat.reduceAdd, Nat.reduceMul, Nat.reduceSub, Nat.reduceDiv, Nat.reduceMod, Bool.false_eq_true, false_and, and_false, reduceCtorEq, hB, Nat.lt_irrefl]
    · intro m s
      rw [nX12_runs_25]
      simp (maxSteps := 400000) (disch := omega) only [n3_l, n3_add, n3_mul, n3_sub, n3_subn, n3_lt, n3_le, n3_eq, n3_eqn, n3_neq, n3_and, n3_or, n3_shl, n3_i, n3_cl, ↓hbd_0, ↓hbd_1, ↓hbd_2, hk_ob_0, hk_rd_0, hk_rd_1, hk_rd_2, hk_al_0, hk_al_1, h3r_0, h3r_1, hk_wi_0, hk_wj_0, h3w_0, h3w_1, h3v_0, hk_kI, hk_kJ, hk_kA, hk_kB, A_eq, A_ne, A_row, B_eq, B_ne, B_row, I_eq, I_ne, J_eq, J_ne, Option.bind_some, Option.some.injEq, if_true, if_false, eq_self, true_or, or_true, true_and, and_true, false_or, or_false, not_true_eq_false, not_false_eq_true, Classical.not_not, nar_b0, nar_b1, rz_0, rz_1, rz_i, ite01, Nat.add_zero, Nat.zero_add, Nat.one_mul, mul12, reduceIte, ra_z0, Nat.reduceEqDiff, Nat.reduceLT, Nat.reduceLeDiff, Nat.reduceAdd, Nat.reduceMul, Nat.reduceSub, Nat.reduceDiv, Nat.reduceMod, Bool.false_eq_true, false_and, and_false, reduceCtorEq, hB, Nat.lt_irrefl]
  · rw [if_pos hw, if_neg hw]
end
