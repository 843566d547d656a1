/-! the reference's reader on the heap: words, parts -/
theorem enW_inj : ∀ k, k < 21 → ∀ k', k' < 21 → enW k = enW k' → k = k' := by decide +kernel
theorem isW_one {B : Nat → Nat} {n j k k' : Nat} (hj : j ≤ n) (hk : k < 21) (hk' : k' < 21) (h : isW B n k j) (h' : isW B n k' j) : k = k' := by
  have e1 := (word_eq hj h.1 hk).mpr h
  have e2 := (word_eq hj h.1 hk').mpr h'
  rw [e1] at e2
  have lt : ∀ k, k < 21 → enW k < 9223372036854775808 := by decide +kernel
  exact enW_inj k hk k' hk' ((j3_eq (lt k hk) (lt k' hk')).mp e2)
theorem tk_digits {B : Nat → Nat} {n j : Nat} (h : tkK B n j = 2) : j < n ∧ ∀ i, j ≤ i → i < tkE B n j → isD (B i) := by
  unfold tkK at h
  by_cases c : n ≤ j
  · rw [if_pos c] at h; omega
  · rw [if_neg c] at h
    by_cases cl : isL (B j)
    · rw [if_pos cl] at h; omega
    · rw [if_neg cl] at h
      by_cases cd : isD (B j)
      · refine ⟨by omega, ?_⟩
        have e : tkE B n j = scn (fun i => isD (B i)) n j := by unfold tkE; rw [if_neg c, if_neg cl, if_pos cd]
        rw [e]
        exact (scn_is (fun i => isD (B i)) (show j ≤ n by omega)).2.2.1
      · rw [if_neg cd] at h
        omega
theorem numR_lt {B : Nat → Nat} {n j : Nat} (h : tkK B n j = 2) : numR B j (tkE B n j) ≤ 10000010 := numR_le B (fun i z => by omega) j _ (tk_digits h).2
section
variable (N : Nat) (κ : hk_T)
theorem r_which {B : Nat → Nat} {n j r c k0 : Nat} (h : rTok κ B n j) (hc : k0 + c ≤ 21) (rd : ∀ g, g < c → ra_aJ (hp κ) r (n3 g) = some (j3 (enW (k0 + g)))) (hN : 1000 < N) : fX12_which N 69 r (n3 c) (hp κ) = some (if low (fun g => isW B n (k0 + g) j) c < c then n3 (low (fun g => isW B n (k0 + g) j) c) else -n3 1, hp κ) := by
  have loop : ∀ s i m, s + i = c → s < m → nX12_which_5 N m 69 r (n3 c) (if low (fun g => isW B n (k0 + g) j) i < i then n3 (low (fun g => isW B n (k0 + g) j) i) else -n3 1) (n3 i) (hp κ) = some (if low (fun g => isW B n (k0 + g) j) c < c then n3 (low (fun g => isW B n (k0 + g) j) c) else -n3 1, hp κ) := by
    intro s
    induction s with
    | zero =>
      intro i m hi hm
      obtain ⟨m, rfl⟩ : ∃ q, m = q + 1 := ⟨m - 1, by omega⟩
      have e : i = c := by omega
      subst e
      rw [nX12_which_5]
      simp (maxSteps := 400000) (disch := omega) only [n3_l, n3_add, n3_mul, n3_sub, n3_subn, n3_lt, n3_le, n3_eq, n3_eqn, n3_neq, n3_and, n3_or, n3_shl, n3_i, n3_cl, ↓hbd_0, ↓hbd_1, ↓hbd_2, hk_ob_0, hk_rd_0, hk_rd_1, hk_rd_2, hk_al_0, hk_al_1, h3r_0, h3r_1, hk_wi_0, hk_wj_0, h3w_0, h3w_1, h3v_0, hk_kI, hk_kJ, hk_kA, hk_kB, A_eq, A_ne, A_row, B_eq, B_ne, B_row, I_eq, I_ne, J_eq, J_ne, Option.bind_some, Option.some.injEq, if_true, if_false, eq_self, true_or, or_true, true_and, and_true, false_or, or_false, not_true_eq_false, not_false_eq_true, Classical.not_not, nar_b0, nar_b1, rz_0, rz_1, rz_i, ite01, Nat.add_zero, Nat.zero_add, Nat.one_mul, mul12, reduceIte, ra_z0, Nat.reduceEqDiff, Nat.reduceLT, Nat.reduceLeDiff, Nat.reduceAdd, Nat.reduceMul, Nat.reduceSub, Nat.reduceDiv, Nat.reduceMod, Bool.false_eq_true, false_and, and_false, reduceCtorEq, Nat.lt_irrefl]
    | succ s ih =>
      intro i m hi hm
      obtain ⟨m, rfl⟩ : ∃ q, m = q + 1 := ⟨m - 1, by omega⟩
      have ci : i < c := by omega
      have r1 := ih (i + 1) m (by omega) (by omega)
      have w := r_isWord N κ (k := k0 + i) h (by omega) rfl
      have rdi := rd i ci
      obtain ⟨l1, l2, l3⟩ := low_is (fun g => isW B n (k0 + g) j) i
      rw [nX12_which_5]
      by_cases cw : isW B n (k0 + i) j
      · have nl : ¬ low (fun g => isW B n (k0 + g) j) i < i := fun z => by
          have a := isW_one h.1 (by omega) (by omega) (l2 z) cw
          omega
        have e : low (fun g => isW B n (k0 + g) j) (i + 1) = i := by
          rw [low, if_neg nl, if_pos cw]
        rw [e, if_pos (by omega)] at r1
        rw [if_pos cw] at w
        simp (maxSteps := 400000) (disch := omega) only [n3_l, n3_add, n3_mul, n3_sub, n3_subn, n3_lt, n3_le, n3_eq, n3_eqn, n3_neq, n3_and, n3_or, n3_shl, n3_i, n3_cl, ↓hbd_0, ↓hbd_1, ↓hbd_2, hk_ob_0, hk_rd_0, hk_rd_1, hk_rd_2, hk_al_0, hk_al_1, h3r_0, h3r_1, hk_wi_0, hk_wj_0, h3w_0, h3w_1, h3v_0, hk_kI, hk_kJ, hk_kA, hk_kB, A_eq, A_ne, A_row, B_eq, B_ne, B_row, I_eq, I_ne, J_eq, J_ne, Option.bind_some, Option.some.injEq, if_true, if_false, eq_self, true_or, or_true, true_and, and_true, false_or, or_false, not_true_eq_false, not_false_eq_true, Classical.not_not, nar_b0, nar_b1, rz_0, rz_1, rz_i, ite01, Nat.add_zero, Nat.zero_add, Nat.one_mul, mul12, reduceIte, ra_z0, Nat.reduceEqDiff, Nat.reduceLT, Nat.reduceLeDiff, Nat.reduceAdd, Nat.reduceMul, Nat.reduceSub, Nat.reduceDiv, Nat.reduceMod, Bool.false_eq_true, false_and, and_false, reduceCtorEq, ci, rdi, w, nX12_which_28]
        exact r1
      · have e : (if low (fun g => isW B n (k0 + g) j) (i + 1) < i + 1 then n3 (low (fun g => isW B n (k0 + g) j) (i + 1)) else -n3 1) = if low (fun g => isW B n (k0 + g) j) i < i then n3 (low (fun g => isW B n (k0 + g) j) i) else -n3 1 := by
          by_cases cl : low (fun g => isW B n (k0 + g) j) i < i
          · have e1 : low (fun g => isW B n (k0 + g) j) (i + 1) = low (fun g => isW B n (k0 + g) j) i := by rw [low, if_pos cl]
            rw [e1, if_pos cl, if_pos (by omega)]
          · have e1 : low (fun g => isW B n (k0 + g) j) (i + 1) = i + 1 := by rw [low, if_neg cl, if_neg cw]
            rw [e1, if_neg cl, if_neg (by omega)]
        rw [e] at r1
        rw [if_neg cw] at w
        simp (maxSteps := 400000) (disch := omega) only [n3_l, n3_add, n3_mul, n3_sub, n3_subn, n3_lt, n3_le, n3_eq, n3_eqn, n3_neq, n3_and, n3_or, n3_shl, n3_i, n3_cl, ↓hbd_0, ↓hbd_1, ↓hbd_2, hk_ob_0, hk_rd_0, hk_rd_1, hk_rd_2, hk_al_0, hk_al_1, h3r_0, h3r_1, hk_wi_0, hk_wj_0, h3w_0, h3w_1, h3v_0, hk_kI, hk_kJ, hk_kA, hk_kB, A_eq, A_ne, A_row, B_eq, B_ne, B_row, I_eq, I_ne, J_eq, J_ne, Option.bind_some, Option.some.injEq, if_true, if_false, eq_self, true_or, or_true, true_and, and_true, false_or, or_false, not_true_eq_false, not_false_eq_true, Classical.not_not, nar_b0, nar_b1, rz_0, rz_1, rz_i, ite01, Nat.add_zero, Nat.zero_add, Nat.one_mul, mul12, reduceIte, ra_z0, Nat.reduceEqDiff, Nat.reduceLT, Nat.reduceLeDiff, Nat.reduceAdd, Nat.reduceMul, Nat.reduceSub, Nat.reduceDiv, Nat.reduceMod, Bool.false_eq_true, false_and, and_false, reduceCtorEq, ci, rdi, w, nX12_which_28]
        exact r1
  have r0 := loop c 0 N (by omega) (by omega)
  rw [if_neg (Nat.not_lt_zero _)] at r0
  unfold fX12_which nX12_which_0
  simp (maxSteps := 400000) (disch := omega) only [n3_l, n3_add, n3_mul, n3_sub, n3_subn, n3_lt, n3_le, n3_eq, n3_eqn, n3_neq, n3_and, n3_or, n3_shl, n3_i, n3_cl, ↓hbd_0, ↓hbd_1, ↓hbd_2, hk_ob_0, hk_rd_0, hk_rd_1, hk_rd_2, hk_al_0, hk_al_1, h3r_0, h3r_1, hk_wi_0, hk_wj_0, h3w_0, h3w_1, h3v_0, hk_kI, hk_kJ, hk_kA, hk_kB, A_eq, A_ne, A_row, B_eq, B_ne, B_row, I_eq, I_ne, J_eq, J_ne, Option.bind_some, Option.some.injEq, if_true, if_false, eq_self, true_or, or_true, true_and, and_true, false_or, or_false, not_true_eq_false, not_false_eq_true, Classical.not_not, nar_b0, nar_b1, rz_0, rz_1, rz_i, ite01, Nat.add_zero, Nat.zero_add, Nat.one_mul, mul12, reduceIte, ra_z0, Nat.reduceEqDiff, Nat.reduceLT, Nat.reduceLeDiff, Nat.reduceAdd, Nat.reduceMul, Nat.reduceSub, Nat.reduceDiv, Nat.reduceMod, Bool.false_eq_true, false_and, and_false, reduceCtorEq]
  exact r0
theorem r_partAt {B : Nat → Nat} {n j : Nat} (h : rTok κ B n j) (hW : rWd κ) (hN : 1000 < N) : fX12_partAt N 69 (hp κ) = some (if facA B n j < 12 then n3 (facA B n j + 1) else -n3 1, hp κ) := by
  have w := r_which N κ (r := 80) (c := 12) (k0 := 5) h (by omega) (fun g hg => by
    rw [← hW.1 g hg]
    simp (maxSteps := 400000) (disch := omega) only [n3_l, n3_add, n3_mul, n3_sub, n3_subn, n3_lt, n3_le, n3_eq, n3_eqn, n3_neq, n3_and, n3_or, n3_shl, n3_i, n3_cl, j3_l, j3_add, j3_mul, j3_sub, j3_lt, j3_le, j3_eq, j3_n, lg3_le, lg3_lt, lg3_eq, r_in3, ↓hbd_0, ↓hbd_1, ↓hbd_2, hk_ob_0, hk_rd_0, hk_rd_1, hk_rd_2, hk_al_0, hk_al_1, h3r_0, h3r_1, hk_wi_0, hk_wj_0, h3w_0, h3w_1, h3v_0, hk_kI, hk_kJ, hk_kA, hk_kB, A_eq, A_ne, A_row, B_eq, B_ne, B_row, I_eq, I_ne, J_eq, J_ne, Option.bind_some, Option.some.injEq, if_true, if_false, eq_self, true_or, or_true, true_and, and_true, false_or, or_false, not_true_eq_false, not_false_eq_true, Classical.not_not, nar_b0, nar_b1, rz_0, rz_1, rz_i, ite01, Nat.add_zero, Nat.zero_add, Nat.one_mul, mul12, reduceIte, ra_z0, Nat.reduceEqDiff, Nat.reduceLT, Nat.reduceLeDiff, Nat.reduceAdd, Nat.reduceMul, Nat.reduceSub, Nat.reduceDiv, Nat.reduceMod, Bool.false_eq_true, false_and, and_false, reduceCtorEq]) hN
  have e : low (fun g => isW B n (5 + g) j) 12 = facA B n j := rfl
  rw [e] at w
  by_cases c : facA B n j < 12
  · rw [if_pos c] at w ⊢
    have nm : ¬ n3 (facA B n j) = -n3 1 := fun z => (n3_eqn (by omega) (by omega) (by omega)).mp z
    simp (maxSteps := 400000) (disch := omega) only [n3_l, n3_add, n3_mul, n3_sub, n3_subn, n3_lt, n3_le, n3_eq, n3_eqn, n3_neq, n3_and, n3_or, n3_shl, n3_i, n3_cl, ↓hbd_0, ↓hbd_1, ↓hbd_2, hk_ob_0, hk_rd_0, hk_rd_1, hk_rd_2, hk_al_0, hk_al_1, h3r_0, h3r_1, hk_wi_0, hk_wj_0, h3w_0, h3w_1, h3v_0, hk_kI, hk_kJ, hk_kA, hk_kB, A_eq, A_ne, A_row, B_eq, B_ne, B_row, I_eq, I_ne, J_eq, J_ne, Option.bind_some, Option.some.injEq, if_true, if_false, eq_self, true_or, or_true, true_and, and_true, false_or, or_false, not_true_eq_false, not_false_eq_true, Classical.not_not, nar_b0, nar_b1, rz_0, rz_1, rz_i, ite01, Nat.add_zero, Nat.zero_add, Nat.one_mul, mul12, reduceIte, ra_z0, Nat.reduceEqDiff, Nat.reduceLT, Nat.reduceLeDiff, Nat.reduceAdd, Nat.reduceMul, Nat.reduceSub, Nat.reduceDiv, Nat.reduceMod, Bool.false_eq_true, false_and, and_false, reduceCtorEq, fX12_partAt, nX12_partAt_23, nX12_partAt_0, w, nm]
  · rw [if_neg c] at w ⊢
    simp (maxSteps := 400000) (disch := omega) only [n3_l, n3_add, n3_mul, n3_sub, n3_subn, n3_lt, n3_le, n3_eq, n3_eqn, n3_neq, n3_and, n3_or, n3_shl, n3_i, n3_cl, ↓hbd_0, ↓hbd_1, ↓hbd_2, hk_ob_0, hk_rd_0, hk_rd_1, hk_rd_2, hk_al_0, hk_al_1, h3r_0, h3r_1, hk_wi_0, hk_wj_0, h3w_0, h3w_1, h3v_0, hk_kI, hk_kJ, hk_kA, hk_kB, A_eq, A_ne, A_row, B_eq, B_ne, B_row, I_eq, I_ne, J_eq, J_ne, Option.bind_some, Option.some.injEq, if_true, if_false, eq_self, true_or, or_true, true_and, and_true, false_or, or_false, not_true_eq_false, not_false_eq_true, Classical.not_not, nar_b0, nar_b1, rz_0, rz_1, rz_i, ite01, Nat.add_zero, Nat.zero_add, Nat.one_mul, mul12, reduceIte, ra_z0, Nat.reduceEqDiff, Nat.reduceLT, Nat.reduceLeDiff, Nat.reduceAdd, Nat.reduceMul, Nat.reduceSub, Nat.reduceDiv, Nat.reduceMod, Bool.false_eq_true, false_and, and_false, reduceCtorEq, fX12_partAt, nX12_partAt_23, nX12_partAt_0, w]
theorem r_leafT {B : Nat → Nat} {n j k b f o g : Nat} {O G : Nat → Nat} {P : List (Nat × Nat)} (h : rP0 κ B n j k b f O G P) (hk : k < 50) (hf : f + P.length < 400) (hN : 1000 < N) : ∃ κ', fX12_leaf N 69 (n3 1) (n3 o) (n3 g) (hp κ) = some (hp κ') ∧ rSg κ κ' ∧ rP0 κ' B n (nxt B n j) (k + 1) b (f + 1) (up9 O f o) (up9 G f g) P := by
  obtain ⟨κ1, e1, s1, p1⟩ := rP0_must N κ h hN
  obtain ⟨κ2, e2, s2, p2⟩ := rP0_emit N κ1 (o := o) (g := g) p1 hf
  obtain ⟨s3, p3⟩ := rP0_leaf κ2 p2 hk
  have h20 := h.2.2.2.1
  have h14 := p1.2.2.1
  have i20 := p2.2.2.2.1
  refine ⟨_, ?_, s1.trans (s2.trans s3), p3⟩
  simp (maxSteps := 400000) (disch := omega) only [n3_l, n3_add, n3_mul, n3_sub, n3_subn, n3_lt, n3_le, n3_eq, n3_eqn, n3_neq, n3_and, n3_or, n3_shl, n3_i, n3_cl, ↓hbd_0, ↓hbd_1, ↓hbd_2, hk_ob_0, hk_rd_0, hk_rd_1, hk_rd_2, hk_al_0, hk_al_1, h3r_0, h3r_1, hk_wi_0, hk_wj_0, h3w_0, h3w_1, h3v_0, hk_kI, hk_kJ, hk_kA, hk_kB, A_eq, A_ne, A_row, B_eq, B_ne, B_row, I_eq, I_ne, J_eq, J_ne, Option.bind_some, Option.some.injEq, if_true, if_false, eq_self, true_or, or_true, true_and, and_true, false_or, or_false, not_true_eq_false, not_false_eq_true, Classical.not_not, nar_b0, nar_b1, rz_0, rz_1, rz_i, ite01, Nat.add_zero, Nat.zero_add, Nat.one_mul, mul12, reduceIte, ra_z0, Nat.reduceEqDiff, Nat.reduceLT, Nat.reduceLeDiff, Nat.reduceAdd, Nat.reduceMul, Nat.reduceSub, Nat.reduceDiv, Nat.reduceMod, Bool.false_eq_true, false_and, and_false, reduceCtorEq, fX12_leaf, nX12_leaf_45, nX12_leaf_19, nX12_leaf_18, nX12_leaf_0, h20, hk, e1, h14, e2, i20]
theorem r_leafF {B : Nat → Nat} {n j k b f : Nat} {x o g : Int32} {O G : Nat → Nat} {P : List (Nat × Nat)} (h : rP0 κ B n j k b f O G P) (hx : x = n3 0 ∨ x = n3 1 ∧ ¬ k < 50) : ∃ κ', fX12_leaf N 69 x o g (hp κ) = some (hp κ') ∧ rSb κ κ' ∧ hk_I κ' 69 14 = n3 1 ∧ hk_I κ' 69 13 = n3 j ∧ rC κ' f O G P := by
  obtain ⟨κ1, e1, s1, b1, b2, b3⟩ := rP0_bad N κ h
  have h20 := h.2.2.2.1
  have k50 := h.2.2.2.2.1
  refine ⟨κ1, ?_, s1, b1, b2, b3⟩
  rcases hx with hx | ⟨hx, hk⟩
  · simp (maxSteps := 400000) (disch := omega) only [n3_l, n3_add, n3_mul, n3_sub, n3_subn, n3_lt, n3_le, n3_eq, n3_eqn, n3_neq, n3_and, n3_or, n3_shl, n3_i, n3_cl, ↓hbd_0, ↓hbd_1, ↓hbd_2, hk_ob_0, hk_rd_0, hk_rd_1, hk_rd_2, hk_al_0, hk_al_1, h3r_0, h3r_1, hk_wi_0, hk_wj_0, h3w_0, h3w_1, h3v_0, hk_kI, hk_kJ, hk_kA, hk_kB, A_eq, A_ne, A_row, B_eq, B_ne, B_row, I_eq, I_ne, J_eq, J_ne, Option.bind_some, Option.some.injEq, if_true, if_false, eq_self, true_or, or_true, true_and, and_true, false_or, or_false, not_true_eq_false, not_false_eq_true, Classical.not_not, nar_b0, nar_b1, rz_0, rz_1, rz_i, ite01, Nat.add_zero, Nat.zero_add, Nat.one_mul, mul12, reduceIte, ra_z0, Nat.reduceEqDiff, Nat.reduceLT, Nat.reduceLeDiff, Nat.reduceAdd, Nat.reduceMul, Nat.reduceSub, Nat.reduceDiv, Nat.reduceMod, Bool.false_eq_true, false_and, and_false, reduceCtorEq, fX12_leaf, nX12_leaf_45, nX12_leaf_19, nX12_leaf_18, nX12_leaf_0, hx, e1, b1]
  · simp (maxSteps := 400000) (disch := omega) only [n3_l, n3_add, n3_mul, n3_sub, n3_subn, n3_lt, n3_le, n3_eq, n3_eqn, n3_neq, n3_and, n3_or, n3_shl, n3_i, n3_cl, ↓hbd_0, ↓hbd_1, ↓hbd_2, hk_ob_0, hk_rd_0, hk_rd_1, hk_rd_2, hk_al_0, hk_al_1, h3r_0, h3r_1, hk_wi_0, hk_wj_0, h3w_0, h3w_1, h3v_0, hk_kI, hk_kJ, hk_kA, hk_kB, A_eq, A_ne, A_row, B_eq, B_ne, B_row, I_eq, I_ne, J_eq, J_ne, Option.bind_some, Option.some.injEq, if_true, if_false, eq_self, true_or, or_true, true_and, and_true, false_or, or_false, not_true_eq_false, not_false_eq_true, Classical.not_not, nar_b0, nar_b1, rz_0, rz_1, rz_i, ite01, Nat.add_zero, Nat.zero_add, Nat.one_mul, mul12, reduceIte, ra_z0, Nat.reduceEqDiff, Nat.reduceLT, Nat.reduceLeDiff, Nat.reduceAdd, Nat.reduceMul, Nat.reduceSub, Nat.reduceDiv, Nat.reduceMod, Bool.false_eq_true, false_and, and_false, reduceCtorEq, fX12_leaf, nX12_leaf_45, nX12_leaf_19, nX12_leaf_18, nX12_leaf_0, hx, h20, hk, e1, b1]
theorem r_openT {B : Nat → Nat} {n j k b f o : Nat} {O G : Nat → Nat} {P : List (Nat × Nat)} (h : rP0 κ B n j k b f O G P) (hb : b < 8) (hf : f + P.length < 400) (ho : 20 ≤ o ∧ o ≤ 31) (hN : 1000 < N) : ∃ κ', fX12_openBracket N 69 (n3 o) (hp κ) = some (hp κ') ∧ rSg κ κ' ∧ rP0 κ' B n (nxt B n j) k (b + 1) f O G ((o, 0) :: P) := by
  obtain ⟨κ1, e1, s1, p1⟩ := rP0_must N κ h hN
  obtain ⟨s2, p2⟩ := rP0_open κ1 (b' := b + 1) p1
  obtain ⟨κ2, e2⟩ : ∃ κ2, κ2 = hk_wI κ1 69 24 (n3 (b + 1)) := ⟨_, rfl⟩
  rw [← e2] at s2 p2
  obtain ⟨κ3, e3, s3, p3⟩ := rP0_push N κ2 (o := o) (g := 0) p2 hf ho (by omega)
  have h24 := h.2.2.2.2.2.2.1
  have h14 := p1.2.2.1
  have i24 := p1.2.2.2.2.2.2.1
  refine ⟨κ3, ?_, s1.trans (s2.trans s3), p3⟩
  simp (maxSteps := 400000) (disch := omega) only [n3_l, n3_add, n3_mul, n3_sub, n3_subn, n3_lt, n3_le, n3_eq, n3_eqn, n3_neq, n3_and, n3_or, n3_shl, n3_i, n3_cl, ↓hbd_0, ↓hbd_1, ↓hbd_2, hk_ob_0, hk_rd_0, hk_rd_1, hk_rd_2, hk_al_0, hk_al_1, h3r_0, h3r_1, hk_wi_0, hk_wj_0, h3w_0, h3w_1, h3v_0, hk_kI, hk_kJ, hk_kA, hk_kB, A_eq, A_ne, A_row, B_eq, B_ne, B_row, I_eq, I_ne, J_eq, J_ne, Option.bind_some, Option.some.injEq, if_true, if_false, eq_self, true_or, or_true, true_and, and_true, false_or, or_false, not_true_eq_false, not_false_eq_true, Classical.not_not, nar_b0, nar_b1, rz_0, rz_1, rz_i, ite01, Nat.add_zero, Nat.zero_add, Nat.one_mul, mul12, reduceIte, ra_z0, Nat.reduceEqDiff, Nat.reduceLT, Nat.reduceLeDiff, Nat.reduceAdd, Nat.reduceMul, Nat.reduceSub, Nat.reduceDiv, Nat.reduceMod, Bool.false_eq_true, false_and, and_false, reduceCtorEq, fX12_openBracket, nX12_openBracket_41, nX12_openBracket_15, nX12_openBracket_0, h24, hb, e1, h14, i24, ← e2, e3]
theorem r_openF {B : Nat → Nat} {n j k b f : Nat} {o : Int32} {O G : Nat → Nat} {P : List (Nat × Nat)} (h : rP0 κ B n j k b f O G P) (hb : ¬ b < 8) (hb4 : b ≤ 400) : ∃ κ', fX12_openBracket N 69 o (hp κ) = some (hp κ') ∧ rSb κ κ' ∧ hk_I κ' 69 14 = n3 1 ∧ hk_I κ' 69 13 = n3 j ∧ rC κ' f O G P := by
  obtain ⟨κ1, e1, s1, b1, b2, b3⟩ := rP0_bad N κ h
  have h24 := h.2.2.2.2.2.2.1
  refine ⟨κ1, ?_, s1, b1, b2, b3⟩
  simp (maxSteps := 400000) (disch := omega) only [n3_l, n3_add, n3_mul, n3_sub, n3_subn, n3_lt, n3_le, n3_eq, n3_eqn, n3_neq, n3_and, n3_or, n3_shl, n3_i, n3_cl, ↓hbd_0, ↓hbd_1, ↓hbd_2, hk_ob_0, hk_rd_0, hk_rd_1, hk_rd_2, hk_al_0, hk_al_1, h3r_0, h3r_1, hk_wi_0, hk_wj_0, h3w_0, h3w_1, h3v_0, hk_kI, hk_kJ, hk_kA, hk_kB, A_eq, A_ne, A_row, B_eq, B_ne, B_row, I_eq, I_ne, J_eq, J_ne, Option.bind_some, Option.some.injEq, if_true, if_false, eq_self, true_or, or_true, true_and, and_true, false_or, or_false, not_true_eq_false, not_false_eq_true, Classical.not_not, nar_b0, nar_b1, rz_0, rz_1, rz_i, ite01, Nat.add_zero, Nat.zero_add, Nat.one_mul, mul12, reduceIte, ra_z0, Nat.reduceEqDiff, Nat.reduceLT, Nat.reduceLeDiff, Nat.reduceAdd, Nat.reduceMul, Nat.reduceSub, Nat.reduceDiv, Nat.reduceMod, Bool.false_eq_true, false_and, and_false, reduceCtorEq, fX12_openBracket, nX12_openBracket_41, nX12_openBracket_15, nX12_openBracket_0, h24, hb, e1, b1]
/-- what a turn comes to -/
def rSt (κ : hk_T) (B : Nat → Nat) (n f : Nat) (O G : Nat → Nat) (P : List (Nat × Nat)) (r : Option (Sum Nat rMs)) (run : Option (Int32 × ra_H)) : Prop := match r with
  | none => True
  | some (.inl e) => ∃ κ' t, run = some (t, hp κ') ∧ rSb κ κ' ∧ hk_I κ' 69 14 = n3 1 ∧ hk_I κ' 69 13 = n3 e ∧ rC κ' f O G P
  | some (.inr (t, j', k', f', O', G', P')) => ∃ κ', run = some (n3 t, hp κ') ∧ rSg κ κ' ∧ rP κ' B n j' k' f' O' G' P'
theorem r_readPart {B : Nat → Nat} {n j k f : Nat} {O G : Nat → Nat} {P : List (Nat × Nat)} (h : rP κ B n j k f O G P) (hN : 1000 < N) : rSt κ B n f O G P (mPart B n j k f O G P) (fX12_readPart N 69 (hp κ)) := by
  obtain ⟨h, hl⟩ := h
  have is := r_isSign N κ (c := 91) h.1 h.2.1 (by omega)
  have jn := h.2.1.1
  have n4 := h.1.1
  have bl := brk_le P
  unfold mPart
  by_cases cs : sg B n 91 j
  · rw [if_pos cs] at is ⊢
    have jl := sg_lt cs
    have nx := (nxt_le (B := B) jn).2 jl
    by_cases cb : brk P < 8
    · rw [if_pos cb]
      obtain ⟨κ1, e1, s1, p1⟩ := r_openT N κ (o := 31) h cb (by omega) (by omega) hN
      refine ⟨κ1, ?_, s1, ?_, by show f + (P.length + 1) ≤ _; omega⟩
      · simp (maxSteps := 400000) (disch := omega) only [n3_l, n3_add, n3_mul, n3_sub, n3_subn, n3_lt, n3_le, n3_eq, n3_eqn, n3_neq, n3_and, n3_or, n3_shl, n3_i, n3_cl, ↓hbd_0, ↓hbd_1, ↓hbd_2, hk_ob_0, hk_rd_0, hk_rd_1, hk_rd_2, hk_al_0, hk_al_1, h3r_0, h3r_1, hk_wi_0, hk_wj_0, h3w_0, h3w_1, h3v_0, hk_kI, hk_kJ, hk_kA, hk_kB, A_eq, A_ne, A_row, B_eq, B_ne, B_row, I_eq, I_ne, J_eq, J_ne, Option.bind_some, Option.some.injEq, if_true, if_false, eq_self, true_or, or_true, true_and, and_true, false_or, or_false, not_true_eq_false, not_false_eq_true, Classical.not_not, nar_b0, nar_b1, rz_0, rz_1, rz_i, ite01, Nat.add_zero, Nat.zero_add, Nat.one_mul, mul12, reduceIte, ra_z0, Nat.reduceEqDiff, Nat.reduceLT, Nat.reduceLeDiff, Nat.reduceAdd, Nat.reduceMul, Nat.reduceSub, Nat.reduceDiv, Nat.reduceMod, Bool.false_eq_true, false_and, and_false, reduceCtorEq, fX12_readPart, nX12_readPart_85, nX12_readPart_72, nX12_readPart_62, nX12_readPart_57, nX12_readPart_46, nX12_readPart_45, nX12_readPart_0, is, e1]
      · rw [brk, if_pos (by omega)]
        exact p1
    · rw [if_neg cb]
      obtain ⟨κ1, e1, s1, b1, b2, b3⟩ := r_openF N κ (o := n3 31) h cb (by omega)
      refine ⟨κ1, n3 1, ?_, s1, b1, b2, b3⟩
      simp (maxSteps := 400000) (disch := omega) only [n3_l, n3_add, n3_mul, n3_sub, n3_subn, n3_lt, n3_le, n3_eq, n3_eqn, n3_neq, n3_and, n3_or, n3_shl, n3_i, n3_cl, ↓hbd_0, ↓hbd_1, ↓hbd_2, hk_ob_0, hk_rd_0, hk_rd_1, hk_rd_2, hk_al_0, hk_al_1, h3r_0, h3r_1, hk_wi_0, hk_wj_0, h3w_0, h3w_1, h3v_0, hk_kI, hk_kJ, hk_kA, hk_kB, A_eq, A_ne, A_row, B_eq, B_ne, B_row, I_eq, I_ne, J_eq, J_ne, Option.bind_some, Option.some.injEq, if_true, if_false, eq_self, true_or, or_true, true_and, and_true, false_or, or_false, not_true_eq_false, not_false_eq_true, Classical.not_not, nar_b0, nar_b1, rz_0, rz_1, rz_i, ite01, Nat.add_zero, Nat.zero_add, Nat.one_mul, mul12, reduceIte, ra_z0, Nat.reduceEqDiff, Nat.reduceLT, Nat.reduceLeDiff, Nat.reduceAdd, Nat.reduceMul, Nat.reduceSub, Nat.reduceDiv, Nat.reduceMod, Bool.false_eq_true, false_and, and_false, reduceCtorEq, fX12_readPart, nX12_readPart_85, nX12_readPart_72, nX12_readPart_62, nX12_readPart_57, nX12_readPart_46, nX12_readPart_45, nX12_readPart_0, is, e1]
  · rw [if_neg cs] at is ⊢
    have pt := r_partAt N κ h.2.1 h.2.2.2.2.2.2.2 hN
    have h11 := h.2.1.2.2.2.1
    have h12 := h.2.1.2.2.2.2
    have k3 : tkK B n j ≤ 3 := tkK_le
    have l1000 : (1000 : Int64) = j3 1000 := rfl
    by_cases cn : numA B n j
    · have nf : ¬ facA B n j < 12 := fun z => facA_num z cn
      rw [if_neg nf] at pt
      have tk2 := cn.1
      have nv := cn.2
      have tvE : tkV B n j = numC B j (tkE B n j) := by unfold tkV; rw [if_pos tk2]
      have trE : tkR B n j = j3 (tkV B n j) := by
        unfold tkR
        rw [if_neg (by omega), if_pos tk2, (num_eq B j (tkE B n j)).1 (by rw [← tvE]; exact nv), tvE]
      rw [trE] at h12
      rw [tk2] at h11
      have i32 : (j3 (tkV B n j)).toInt32 = n3 (tkV B n j) := j3_32 _
      by_cases ck : k < 50
      · rw [if_pos ⟨Or.inl cn, ck⟩, if_pos cn, if_pos cn]
        have jl := numA_lt cn
        have nx := (nxt_le (B := B) jn).2 jl
        obtain ⟨κ1, e1, s1, p1⟩ := r_leafT N κ (o := 0) (g := tkV B n j) h ck (by omega) hN
        refine ⟨κ1, ?_, s1, p1, by omega⟩
        simp (maxSteps := 400000) (disch := omega) only [n3_l, n3_add, n3_mul, n3_sub, n3_subn, n3_lt, n3_le, n3_eq, n3_eqn, n3_neq, n3_and, n3_or, n3_shl, n3_i, n3_cl, j3_l, j3_add, j3_mul, j3_sub, j3_lt, j3_le, j3_eq, j3_n, lg3_le, lg3_lt, lg3_eq, r_in3, ↓hbd_0, ↓hbd_1, ↓hbd_2, hk_ob_0, hk_rd_0, hk_rd_1, hk_rd_2, hk_al_0, hk_al_1, h3r_0, h3r_1, hk_wi_0, hk_wj_0, h3w_0, h3w_1, h3v_0, hk_kI, hk_kJ, hk_kA, hk_kB, A_eq, A_ne, A_row, B_eq, B_ne, B_row, I_eq, I_ne, J_eq, J_ne, Option.bind_some, Option.some.injEq, if_true, if_false, eq_self, true_or, or_true, true_and, and_true, false_or, or_false, not_true_eq_false, not_false_eq_true, Classical.not_not, nar_b0, nar_b1, rz_0, rz_1, rz_i, ite01, Nat.add_zero, Nat.zero_add, Nat.one_mul, mul12, reduceIte, ra_z0, Nat.reduceEqDiff, Nat.reduceLT, Nat.reduceLeDiff, Nat.reduceAdd, Nat.reduceMul, Nat.reduceSub, Nat.reduceDiv, Nat.reduceMod, Bool.false_eq_true, false_and, and_false, reduceCtorEq, fX12_readPart, nX12_readPart_85, nX12_readPart_72, nX12_readPart_62, nX12_readPart_57, nX12_readPart_46, nX12_readPart_45, nX12_readPart_0, is, pt, h11, h12, l1000, nv, i32, e1]
      · rw [if_neg (fun z => ck z.2)]
        obtain ⟨κ1, e1, s1, b1, b2, b3⟩ := r_leafF N κ (x := n3 1) (o := n3 0) (g := n3 (tkV B n j)) h (Or.inr ⟨rfl, ck⟩)
        refine ⟨κ1, n3 3, ?_, s1, b1, b2, b3⟩
        simp (maxSteps := 400000) (disch := omega) only [n3_l, n3_add, n3_mul, n3_sub, n3_subn, n3_lt, n3_le, n3_eq, n3_eqn, n3_neq, n3_and, n3_or, n3_shl, n3_i, n3_cl, j3_l, j3_add, j3_mul, j3_sub, j3_lt, j3_le, j3_eq, j3_n, lg3_le, lg3_lt, lg3_eq, r_in3, ↓hbd_0, ↓hbd_1, ↓hbd_2, hk_ob_0, hk_rd_0, hk_rd_1, hk_rd_2, hk_al_0, hk_al_1, h3r_0, h3r_1, hk_wi_0, hk_wj_0, h3w_0, h3w_1, h3v_0, hk_kI, hk_kJ, hk_kA, hk_kB, A_eq, A_ne, A_row, B_eq, B_ne, B_row, I_eq, I_ne, J_eq, J_ne, Option.bind_some, Option.some.injEq, if_true, if_false, eq_self, true_or, or_true, true_and, and_true, false_or, or_false, not_true_eq_false, not_false_eq_true, Classical.not_not, nar_b0, nar_b1, rz_0, rz_1, rz_i, ite01, Nat.add_zero, Nat.zero_add, Nat.one_mul, mul12, reduceIte, ra_z0, Nat.reduceEqDiff, Nat.reduceLT, Nat.reduceLeDiff, Nat.reduceAdd, Nat.reduceMul, Nat.reduceSub, Nat.reduceDiv, Nat.reduceMod, Bool.false_eq_true, false_and, and_false, reduceCtorEq, fX12_readPart, nX12_readPart_85, nX12_readPart_72, nX12_readPart_62, nX12_readPart_57, nX12_readPart_46, nX12_readPart_45, nX12_readPart_0, is, pt, h11, h12, l1000, nv, i32, e1]
    · have dg : ∀ x : Int32, (x = n3 (facA B n j + 1) ∧ facA B n j < 12 ∨ x = -n3 1) → fX12_partAt N 69 (hp κ) = some (x, hp κ) → fX12_readPart N 69 (hp κ) = nX12_readPart_45 N 69 x (hp κ) := by
        intro x hx pt
        by_cases c2 : tkK B n j = 2
        · have nv : ¬ tkV B n j ≤ 1000 := fun z => cn ⟨c2, z⟩
          have tvE : tkV B n j = numC B j (tkE B n j) := by unfold tkV; rw [if_pos c2]
          have gt := (num_eq B j (tkE B n j)).2 (by rw [← tvE]; exact nv)
          have trE : tkR B n j = j3 (numR B j (tkE B n j)) := by
            unfold tkR
            rw [if_neg (by omega), if_pos c2]
          have nl := numR_lt c2
          rw [trE] at h12
          rw [c2] at h11
          have ng : ¬ numR B j (tkE B n j) ≤ 1000 := by omega
          unfold fX12_readPart nX12_readPart_0
          simp (maxSteps := 400000) (disch := omega) only [n3_l, n3_add, n3_mul, n3_sub, n3_subn, n3_lt, n3_le, n3_eq, n3_eqn, n3_neq, n3_and, n3_or, n3_shl, n3_i, n3_cl, j3_l, j3_add, j3_mul, j3_sub, j3_lt, j3_le, j3_eq, j3_n, lg3_le, lg3_lt, lg3_eq, r_in3, ↓hbd_0, ↓hbd_1, ↓hbd_2, hk_ob_0, hk_rd_0, hk_rd_1, hk_rd_2, hk_al_0, hk_al_1, h3r_0, h3r_1, hk_wi_0, hk_wj_0, h3w_0, h3w_1, h3v_0, hk_kI, hk_kJ, hk_kA, hk_kB, A_eq, A_ne, A_row, B_eq, B_ne, B_row, I_eq, I_ne, J_eq, J_ne, Option.bind_some, Option.some.injEq, if_true, if_false, eq_self, true_or, or_true, true_and, and_true, false_or, or_false, not_true_eq_false, not_false_eq_true, Classical.not_not, nar_b0, nar_b1, rz_0, rz_1, rz_i, ite01, Nat.add_zero, Nat.zero_add, Nat.one_mul, mul12, reduceIte, ra_z0, Nat.reduceEqDiff, Nat.reduceLT, Nat.reduceLeDiff, Nat.reduceAdd, Nat.reduceMul, Nat.reduceSub, Nat.reduceDiv, Nat.reduceMod, Bool.false_eq_true, false_and, and_false, reduceCtorEq, is, pt, h11, h12, l1000, ng]
        · unfold fX12_readPart nX12_readPart_0
          simp (maxSteps := 400000) (disch := omega) only [n3_l, n3_add, n3_mul, n3_sub, n3_subn, n3_lt, n3_le, n3_eq, n3_eqn, n3_neq, n3_and, n3_or, n3_shl, n3_i, n3_cl, j3_l, j3_add, j3_mul, j3_sub, j3_lt, j3_le, j3_eq, j3_n, lg3_le, lg3_lt, lg3_eq, r_in3, ↓hbd_0, ↓hbd_1, ↓hbd_2, hk_ob_0, hk_rd_0, hk_rd_1, hk_rd_2, hk_al_0, hk_al_1, h3r_0, h3r_1, hk_wi_0, hk_wj_0, h3w_0, h3w_1, h3v_0, hk_kI, hk_kJ, hk_kA, hk_kB, A_eq, A_ne, A_row, B_eq, B_ne, B_row, I_eq, I_ne, J_eq, J_ne, Option.bind_some, Option.some.injEq, if_true, if_false, eq_self, true_or, or_true, true_and, and_true, false_or, or_false, not_true_eq_false, not_false_eq_true, Classical.not_not, nar_b0, nar_b1, rz_0, rz_1, rz_i, ite01, Nat.add_zero, Nat.zero_add, Nat.one_mul, mul12, reduceIte, ra_z0, Nat.reduceEqDiff, Nat.reduceLT, Nat.reduceLeDiff, Nat.reduceAdd, Nat.reduceMul, Nat.reduceSub, Nat.reduceDiv, Nat.reduceMod, Bool.false_eq_true, false_and, and_false, reduceCtorEq, is, pt, h11, c2]
      by_cases cf : facA B n j < 12
      · rw [if_pos cf] at pt
        have st := dg _ (Or.inl ⟨rfl, cf⟩) pt
        have nm : ¬ n3 (facA B n j + 1) = -n3 1 := fun z => (n3_eqn (by omega) (by omega) (by omega)).mp z
        by_cases ck : k < 50
        · rw [if_pos ⟨Or.inr cf, ck⟩, if_neg cn, if_neg cn]
          have jl := facA_lt cf
          have nx := (nxt_le (B := B) jn).2 jl
          obtain ⟨κ1, e1, s1, p1⟩ := r_leafT N κ (o := facA B n j + 1) (g := 0) h ck (by omega) hN
          refine ⟨κ1, ?_, s1, p1, by omega⟩
          rw [st]
          simp (maxSteps := 400000) (disch := omega) only [n3_l, n3_add, n3_mul, n3_sub, n3_subn, n3_lt, n3_le, n3_eq, n3_eqn, n3_neq, n3_and, n3_or, n3_shl, n3_i, n3_cl, ↓hbd_0, ↓hbd_1, ↓hbd_2, hk_ob_0, hk_rd_0, hk_rd_1, hk_rd_2, hk_al_0, hk_al_1, h3r_0, h3r_1, hk_wi_0, hk_wj_0, h3w_0, h3w_1, h3v_0, hk_kI, hk_kJ, hk_kA, hk_kB, A_eq, A_ne, A_row, B_eq, B_ne, B_row, I_eq, I_ne, J_eq, J_ne, Option.bind_some, Option.some.injEq, if_true, if_false, eq_self, true_or, or_true, true_and, and_true, false_or, or_false, not_true_eq_false, not_false_eq_true, Classical.not_not, nar_b0, nar_b1, rz_0, rz_1, rz_i, ite01, Nat.add_zero, Nat.zero_add, Nat.one_mul, mul12, reduceIte, ra_z0, Nat.reduceEqDiff, Nat.reduceLT, Nat.reduceLeDiff, Nat.reduceAdd, Nat.reduceMul, Nat.reduceSub, Nat.reduceDiv, Nat.reduceMod, Bool.false_eq_true, false_and, and_false, reduceCtorEq, nX12_readPart_45, nX12_readPart_46, nX12_readPart_57, nX12_readPart_62, nX12_readPart_72, nX12_readPart_85, nm, e1]
        · rw [if_neg (fun z => ck z.2)]
          obtain ⟨κ1, e1, s1, b1, b2, b3⟩ := r_leafF N κ (x := n3 1) (o := n3 (facA B n j + 1)) (g := n3 0) h (Or.inr ⟨rfl, ck⟩)
          refine ⟨κ1, n3 3, ?_, s1, b1, b2, b3⟩
          rw [st]
          simp (maxSteps := 400000) (disch := omega) only [n3_l, n3_add, n3_mul, n3_sub, n3_subn, n3_lt, n3_le, n3_eq, n3_eqn, n3_neq, n3_and, n3_or, n3_shl, n3_i, n3_cl, ↓hbd_0, ↓hbd_1, ↓hbd_2, hk_ob_0, hk_rd_0, hk_rd_1, hk_rd_2, hk_al_0, hk_al_1, h3r_0, h3r_1, hk_wi_0, hk_wj_0, h3w_0, h3w_1, h3v_0, hk_kI, hk_kJ, hk_kA, hk_kB, A_eq, A_ne, A_row, B_eq, B_ne, B_row, I_eq, I_ne, J_eq, J_ne, Option.bind_some, Option.some.injEq, if_true, if_false, eq_self, true_or, or_true, true_and, and_true, false_or, or_false, not_true_eq_false, not_false_eq_true, Classical.not_not, nar_b0, nar_b1, rz_0, rz_1, rz_i, ite01, Nat.add_zero, Nat.zero_add, Nat.one_mul, mul12, reduceIte, ra_z0, Nat.reduceEqDiff, Nat.reduceLT, Nat.reduceLeDiff, Nat.reduceAdd, Nat.reduceMul, Nat.reduceSub, Nat.reduceDiv, Nat.reduceMod, Bool.false_eq_true, false_and, and_false, reduceCtorEq, nX12_readPart_45, nX12_readPart_46, nX12_readPart_57, nX12_readPart_62, nX12_readPart_72, nX12_readPart_85, nm, e1]
      · rw [if_neg cf] at pt
        have st := dg _ (Or.inr rfl) pt
        rw [if_neg (fun z => z.1.elim cn cf)]
        obtain ⟨κ1, e1, s1, b1, b2, b3⟩ := r_leafF N κ (x := n3 0) (o := n3 0) (g := n3 0) h (Or.inl rfl)
        refine ⟨κ1, n3 3, ?_, s1, b1, b2, b3⟩
        rw [st]
        simp (maxSteps := 400000) (disch := omega) only [n3_l, n3_add, n3_mul, n3_sub, n3_subn, n3_lt, n3_le, n3_eq, n3_eqn, n3_neq, n3_and, n3_or, n3_shl, n3_i, n3_cl, ↓hbd_0, ↓hbd_1, ↓hbd_2, hk_ob_0, hk_rd_0, hk_rd_1, hk_rd_2, hk_al_0, hk_al_1, h3r_0, h3r_1, hk_wi_0, hk_wj_0, h3w_0, h3w_1, h3v_0, hk_kI, hk_kJ, hk_kA, hk_kB, A_eq, A_ne, A_row, B_eq, B_ne, B_row, I_eq, I_ne, J_eq, J_ne, Option.bind_some, Option.some.injEq, if_true, if_false, eq_self, true_or, or_true, true_and, and_true, false_or, or_false, not_true_eq_false, not_false_eq_true, Classical.not_not, nar_b0, nar_b1, rz_0, rz_1, rz_i, ite01, Nat.add_zero, Nat.zero_add, Nat.one_mul, mul12, reduceIte, ra_z0, Nat.reduceEqDiff, Nat.reduceLT, Nat.reduceLeDiff, Nat.reduceAdd, Nat.reduceMul, Nat.reduceSub, Nat.reduceDiv, Nat.reduceMod, Bool.false_eq_true, false_and, and_false, reduceCtorEq, nX12_readPart_45, nX12_readPart_46, nX12_readPart_57, nX12_readPart_62, nX12_readPart_72, nX12_readPart_85, e1]
end
