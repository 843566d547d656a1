/-! a set is weighed -/
theorem or_eq {s l : Nat} : s ||| 2 ^ l = s ↔ s.testBit l = true := by
  constructor
  · intro h
    have h3 : (s ||| 2 ^ l).testBit l = true := by rw [tb_or, decide_eq_true rfl, Bool.or_true]
    rw [h] at h3
    exact h3
  · intro h
    apply Nat.eq_of_testBit_eq
    intro j
    rw [tb_or]
    by_cases e : l = j
    · rw [← e, h]; rfl
    · rw [decide_eq_false e, Bool.or_false]
section
variable (N : Nat) (κ : hk_T)
theorem c_weighLoop {L n s ms sz d8 d9 m : Nat} {g : Nat → Nat} {S : Nat → Int} {W : Nat → Nat} {wg : Nat → Int} {r0 : Int × Nat × Nat}
    (h8 : hk_P κ 8 = d8) (h9 : hk_P κ 9 = d9) (k8 : 101 ≤ d8) (k9 : 101 ≤ d9) (c8 : hk_D κ d8 = dC 0 n (fun x => z3 (S x))) (c9 : hk_D κ d9 = dC 0 n (fun x => n3 (W x))) (hL : L ≤ 12) (hn : 2 ^ L ≤ n) (hn2 : n ≤ 4096) (hs : s < 2 ^ L) (hms : ms < 2 ^ L) (hsz : sz ≤ L) (hg : ∀ i, i < sz → g i < L ∧ hk_A κ 52 i = n3 (2 ^ g i) ∧ hk_A κ 53 i = z3 (wg (g i)))
    (hS : ∀ x, -2000000 ≤ S x ∧ S x ≤ 2000000) (hW : ∀ x, W x ≤ 1000000000) (hwg : ∀ l, -2000 ≤ wg l ∧ wg l ≤ 2000) (hr : -10000000 ≤ r0.1 ∧ r0.1 ≤ 10000000 ∧ r0.2.1 ≤ 1000000000) (hm : sz < m) :
    nX3_weighSet_66 N m 40 (n3 s) (n3 sz) (n3 ms) (z3 r0.1) (n3 r0.2.1) (n3 r0.2.2) (n3 0) (hp κ) = (fun r : Int × Nat × Nat => nX3_weighSet_66 N 1 40 (n3 s) (n3 sz) (n3 ms) (z3 r.1) (n3 r.2.1) (n3 r.2.2) (n3 sz) (hp κ)) (fo (fun i => st3 (fun l => ¬ (¬ s.testBit l = true ∧ (s ||| 2 ^ l) &&& ms = ms)) (fun l => wg l + S (s ||| 2 ^ l)) (fun l => W (s ||| 2 ^ l)) 1000000000 (g i)) 0 sz r0) := by
  have h12 : 2 ^ L ≤ 2 ^ 12 := Nat.pow_le_pow_right (by omega) hL
  refine (lp (fun m i (r : Int × Nat × Nat) => nX3_weighSet_66 N m 40 (n3 s) (n3 sz) (n3 ms) (z3 r.1) (n3 r.2.1) (n3 r.2.2) (n3 i) (hp κ)) sz (fun i => st3 (fun l => ¬ (¬ s.testBit l = true ∧ (s ||| 2 ^ l) &&& ms = ms)) (fun l => wg l + S (s ||| 2 ^ l)) (fun l => W (s ||| 2 ^ l)) 1000000000 (g i)) (fun r : Int × Nat × Nat => nX3_weighSet_66 N 1 40 (n3 s) (n3 sz) (n3 ms) (z3 r.1) (n3 r.2.1) (n3 r.2.2) (n3 sz) (hp κ)) (fun _ r => -10000000 ≤ r.1 ∧ r.1 ≤ 10000000 ∧ r.2.1 ≤ 1000000000) ?_ ?_ sz 0 m r0 (by omega) hm hr).1
  · rintro m i ⟨x, y, B⟩ hi ⟨b1, b2, b3⟩
    dsimp only at b1 b2 b3
    obtain ⟨g1, g2, g3⟩ := hg i hi
    have lt := or_lt hs g1
    have p2 : 2 ^ g i < 2 ^ 12 := Nat.pow_lt_pow_right (by omega) (by omega)
    have q1 := hS (s ||| 2 ^ g i)
    have q2 := hW (s ||| 2 ^ g i)
    have q3 := hwg (g i)
    have ma : (s ||| 2 ^ g i) &&& ms ≤ ms := Nat.and_le_right
    have e8 := d_r κ (i := s ||| 2 ^ g i) k8 c8 (by omega) (by omega)
    have e9 := d_r κ (i := s ||| 2 ^ g i) k9 c9 (by omega) (by omega)
    constructor
    · by_cases t1 : s.testBit (g i) = true
      · have est : st3 (fun l => ¬ (¬ s.testBit l = true ∧ (s ||| 2 ^ l) &&& ms = ms)) (fun l => wg l + S (s ||| 2 ^ l)) (fun l => W (s ||| 2 ^ l)) 1000000000 (g i) (x, y, B) = (x, y, B) := by
          unfold st3; exact if_pos (fun z => z.1 t1)
        have eo := or_eq.mpr t1
        rw [est, nX3_weighSet_66]
        simp (maxSteps := 400000) (disch := omega) only [n3_l, n3_add, n3_mul, n3_sub, n3_subn, n3_lt, n3_le, n3_eq, n3_eqn, n3_neq, n3_and, n3_or, n3_shl, n3_i, n3_cl, ↓hbd_0, ↓hbd_1, ↓hbd_2, hk_ob_0, hk_rd_0, hk_rd_1, hk_rd_2, hk_al_0, hk_al_1, h3r_0, h3r_1, hk_wi_0, hk_wj_0, h3w_0, h3w_1, h3v_0, hk_kI, hk_kJ, hk_kA, hk_kB, A_eq, A_ne, A_row, B_eq, B_ne, B_row, I_eq, I_ne, J_eq, J_ne, Option.bind_some, Option.some.injEq, if_true, if_false, eq_self, true_or, or_true, true_and, and_true, false_or, or_false, not_true_eq_false, not_false_eq_true, Classical.not_not, nar_b0, nar_b1, rz_0, rz_1, rz_i, ite01, Nat.add_zero, Nat.zero_add, Nat.one_mul, mul12, reduceIte, ra_z0, Nat.reduceEqDiff, Nat.reduceLT, Nat.reduceLeDiff, Nat.reduceAdd, Nat.reduceMul, Nat.reduceSub, Nat.reduceDiv, Nat.reduceMod, Bool.false_eq_true, false_and, and_false, reduceCtorEq, hi, g2, eo, nX3_weighSet_176]
      · have eo : ¬ s ||| 2 ^ g i = s := fun z => t1 (or_eq.mp z)
        by_cases t2 : (s ||| 2 ^ g i) &&& ms = ms
        · by_cases t3 : x < wg (g i) + S (s ||| 2 ^ g i)
          · have est : st3 (fun l => ¬ (¬ s.testBit l = true ∧ (s ||| 2 ^ l) &&& ms = ms)) (fun l => wg l + S (s ||| 2 ^ l)) (fun l => W (s ||| 2 ^ l)) 1000000000 (g i) (x, y, B) = (wg (g i) + S (s ||| 2 ^ g i), W (s ||| 2 ^ g i), 2 ^ g i) := by
              unfold st3; rw [if_neg (fun z => z ⟨t1, t2⟩)]; exact if_pos t3
            have hle : ¬ z3 (wg (g i) + S (s ||| 2 ^ g i)) ≤ z3 x := by rw [i_le, z3_toInt (by omega) (by omega), z3_toInt (by omega) (by omega)]; omega
            rw [est, nX3_weighSet_66]
            simp (maxSteps := 400000) (disch := omega) only [n3_l, n3_add, n3_mul, n3_sub, n3_subn, n3_lt, n3_le, n3_eq, n3_eqn, n3_neq, n3_and, n3_or, n3_shl, n3_i, n3_cl, ↓hbd_0, ↓hbd_1, ↓hbd_2, hk_ob_0, hk_rd_0, hk_rd_1, hk_rd_2, hk_al_0, hk_al_1, h3r_0, h3r_1, hk_wi_0, hk_wj_0, h3w_0, h3w_1, h3v_0, hk_kI, hk_kJ, hk_kA, hk_kB, A_eq, A_ne, A_row, B_eq, B_ne, B_row, I_eq, I_ne, J_eq, J_ne, Option.bind_some, Option.some.injEq, if_true, if_false, eq_self, true_or, or_true, true_and, and_true, false_or, or_false, not_true_eq_false, not_false_eq_true, Classical.not_not, nar_b0, nar_b1, rz_0, rz_1, rz_i, ite01, Nat.add_zero, Nat.zero_add, Nat.one_mul, mul12, reduceIte, ra_z0, Nat.reduceEqDiff, Nat.reduceLT, Nat.reduceLeDiff, Nat.reduceAdd, Nat.reduceMul, Nat.reduceSub, Nat.reduceDiv, Nat.reduceMod, Bool.false_eq_true, false_and, and_false, reduceCtorEq, hi, g2, eo, t2, g3, h8, h9, e8, e9, z3_add, hle, nX3_weighSet_176]
          · have hle : z3 (wg (g i) + S (s ||| 2 ^ g i)) ≤ z3 x := by rw [i_le, z3_toInt (by omega) (by omega), z3_toInt (by omega) (by omega)]; omega
            by_cases t4 : wg (g i) + S (s ||| 2 ^ g i) = x
            · have est : st3 (fun l => ¬ (¬ s.testBit l = true ∧ (s ||| 2 ^ l) &&& ms = ms)) (fun l => wg l + S (s ||| 2 ^ l)) (fun l => W (s ||| 2 ^ l)) 1000000000 (g i) (x, y, B) = (x, min (y + W (s ||| 2 ^ g i)) 1000000000, B ||| 2 ^ g i) := by
                unfold st3; rw [if_neg (fun z => z ⟨t1, t2⟩), if_neg t3]; exact if_pos t4
              have he : z3 (wg (g i) + S (s ||| 2 ^ g i)) = z3 x := by rw [t4]
              have hmin : (if 1000000000 < y + W (s ||| 2 ^ g i) then n3 1000000000 else n3 (y + W (s ||| 2 ^ g i))) = n3 (min (y + W (s ||| 2 ^ g i)) 1000000000) := by
                split
                · rw [Nat.min_eq_right (by omega)]
                · rw [Nat.min_eq_left (by omega)]
              rw [est, nX3_weighSet_66]
              have hxx : z3 x ≤ z3 x := by rw [i_le]; exact Int.le_refl _
              simp (maxSteps := 400000) (disch := omega) only [n3_l, n3_add, n3_mul, n3_sub, n3_subn, n3_lt, n3_le, n3_eq, n3_eqn, n3_neq, n3_and, n3_or, n3_shl, n3_i, n3_cl, ↓hbd_0, ↓hbd_1, ↓hbd_2, hk_ob_0, hk_rd_0, hk_rd_1, hk_rd_2, hk_al_0, hk_al_1, h3r_0, h3r_1, hk_wi_0, hk_wj_0, h3w_0, h3w_1, h3v_0, hk_kI, hk_kJ, hk_kA, hk_kB, A_eq, A_ne, A_row, B_eq, B_ne, B_row, I_eq, I_ne, J_eq, J_ne, Option.bind_some, Option.some.injEq, if_true, if_false, eq_self, true_or, or_true, true_and, and_true, false_or, or_false, not_true_eq_false, not_false_eq_true, Classical.not_not, nar_b0, nar_b1, rz_0, rz_1, rz_i, ite01, Nat.add_zero, Nat.zero_add, Nat.one_mul, mul12, reduceIte, ra_z0, Nat.reduceEqDiff, Nat.reduceLT, Nat.reduceLeDiff, Nat.reduceAdd, Nat.reduceMul, Nat.reduceSub, Nat.reduceDiv, Nat.reduceMod, Bool.false_eq_true, false_and, and_false, reduceCtorEq, hi, g2, eo, t2, g3, h8, h9, e8, e9, z3_add, he, hxx, nX3_weighSet_176]
              rw [← hmin]
            · have est : st3 (fun l => ¬ (¬ s.testBit l = true ∧ (s ||| 2 ^ l) &&& ms = ms)) (fun l => wg l + S (s ||| 2 ^ l)) (fun l => W (s ||| 2 ^ l)) 1000000000 (g i) (x, y, B) = (x, y, B) := by
                unfold st3; rw [if_neg (fun z => z ⟨t1, t2⟩), if_neg t3]; exact if_neg t4
              have he : ¬ z3 (wg (g i) + S (s ||| 2 ^ g i)) = z3 x := by rw [z3_eq (by omega) (by omega) (by omega) (by omega)]; exact t4
              rw [est, nX3_weighSet_66]
              simp (maxSteps := 400000) (disch := omega) only [n3_l, n3_add, n3_mul, n3_sub, n3_subn, n3_lt, n3_le, n3_eq, n3_eqn, n3_neq, n3_and, n3_or, n3_shl, n3_i, n3_cl, ↓hbd_0, ↓hbd_1, ↓hbd_2, hk_ob_0, hk_rd_0, hk_rd_1, hk_rd_2, hk_al_0, hk_al_1, h3r_0, h3r_1, hk_wi_0, hk_wj_0, h3w_0, h3w_1, h3v_0, hk_kI, hk_kJ, hk_kA, hk_kB, A_eq, A_ne, A_row, B_eq, B_ne, B_row, I_eq, I_ne, J_eq, J_ne, Option.bind_some, Option.some.injEq, if_true, if_false, eq_self, true_or, or_true, true_and, and_true, false_or, or_false, not_true_eq_false, not_false_eq_true, Classical.not_not, nar_b0, nar_b1, rz_0, rz_1, rz_i, ite01, Nat.add_zero, Nat.zero_add, Nat.one_mul, mul12, reduceIte, ra_z0, Nat.reduceEqDiff, Nat.reduceLT, Nat.reduceLeDiff, Nat.reduceAdd, Nat.reduceMul, Nat.reduceSub, Nat.reduceDiv, Nat.reduceMod, Bool.false_eq_true, false_and, and_false, reduceCtorEq, hi, g2, eo, t2, g3, h8, h9, e8, e9, z3_add, hle, he, nX3_weighSet_176]
        · have est : st3 (fun l => ¬ (¬ s.testBit l = true ∧ (s ||| 2 ^ l) &&& ms = ms)) (fun l => wg l + S (s ||| 2 ^ l)) (fun l => W (s ||| 2 ^ l)) 1000000000 (g i) (x, y, B) = (x, y, B) := by
            unfold st3; exact if_pos (fun z => t2 z.2)
          rw [est, nX3_weighSet_66]
          simp (maxSteps := 400000) (disch := omega) only [n3_l, n3_add, n3_mul, n3_sub, n3_subn, n3_lt, n3_le, n3_eq, n3_eqn, n3_neq, n3_and, n3_or, n3_shl, n3_i, n3_cl, ↓hbd_0, ↓hbd_1, ↓hbd_2, hk_ob_0, hk_rd_0, hk_rd_1, hk_rd_2, hk_al_0, hk_al_1, h3r_0, h3r_1, hk_wi_0, hk_wj_0, h3w_0, h3w_1, h3v_0, hk_kI, hk_kJ, hk_kA, hk_kB, A_eq, A_ne, A_row, B_eq, B_ne, B_row, I_eq, I_ne, J_eq, J_ne, Option.bind_some, Option.some.injEq, if_true, if_false, eq_self, true_or, or_true, true_and, and_true, false_or, or_false, not_true_eq_false, not_false_eq_true, Classical.not_not, nar_b0, nar_b1, rz_0, rz_1, rz_i, ite01, Nat.add_zero, Nat.zero_add, Nat.one_mul, mul12, reduceIte, ra_z0, Nat.reduceEqDiff, Nat.reduceLT, Nat.reduceLeDiff, Nat.reduceAdd, Nat.reduceMul, Nat.reduceSub, Nat.reduceDiv, Nat.reduceMod, Bool.false_eq_true, false_and, and_false, reduceCtorEq, hi, g2, eo, t2, nX3_weighSet_176]
    · unfold st3
      split
      · exact ⟨b1, b2, b3⟩
      · split
        · dsimp only; omega
        · split
          · dsimp only; omega
          · exact ⟨b1, b2, b3⟩
  · rintro m ⟨x, y, B⟩ hI
    rw [nX3_weighSet_66, nX3_weighSet_66]
    simp (maxSteps := 400000) (disch := omega) only [n3_l, n3_add, n3_mul, n3_sub, n3_subn, n3_lt, n3_le, n3_eq, n3_eqn, n3_neq, n3_and, n3_or, n3_shl, n3_i, n3_cl, ↓hbd_0, ↓hbd_1, ↓hbd_2, hk_ob_0, hk_rd_0, hk_rd_1, hk_rd_2, hk_al_0, hk_al_1, h3r_0, h3r_1, hk_wi_0, hk_wj_0, h3w_0, h3w_1, h3v_0, hk_kI, hk_kJ, hk_kA, hk_kB, A_eq, A_ne, A_row, B_eq, B_ne, B_row, I_eq, I_ne, J_eq, J_ne, Option.bind_some, Option.some.injEq, if_true, if_false, eq_self, true_or, or_true, true_and, and_true, false_or, or_false, not_true_eq_false, not_false_eq_true, Classical.not_not, nar_b0, nar_b1, rz_0, rz_1, rz_i, ite01, Nat.add_zero, Nat.zero_add, Nat.one_mul, mul12, reduceIte, ra_z0, Nat.reduceEqDiff, Nat.reduceLT, Nat.reduceLeDiff, Nat.reduceAdd, Nat.reduceMul, Nat.reduceSub, Nat.reduceDiv, Nat.reduceMod, Bool.false_eq_true, false_and, and_false, reduceCtorEq, Nat.lt_irrefl]
end
