/-! the stack's row on the heap -/
def srP (n : Nat) (z : Nat → Nat) (b : Nat) : Prop := ∃ i, i < n ∧ z i = b
theorem srP_step {i q : Nat} {z g : Nat → Nat} (h : LL (srP i z) (fun b => b) i g) (hq : q ≤ i) (h1 : ∀ k, q ≤ k → k < i → z i < g k) (h2 : 0 < q → ¬ z i < g (q - 1)) (hd : ∀ j, j < i → z j ≠ z i) : LL (srP (i + 1) z) (fun b => b) (i + 1) (insG g q (z i)) := by
  have hne : ∀ k, k < i → g k ≠ z i := by
    intro k hk
    obtain ⟨j, hj, e⟩ := h.1 k hk
    rw [← e]
    exact hd j hj
  obtain ⟨l1, l2, l3⟩ := LL_ins (b := z i) h hq h1 (by
    intro k hk
    have a1 := h2 (by omega)
    have a2 := hne (q - 1) (by omega)
    by_cases e : k = q - 1
    · rw [e]; omega
    · have := h.2.2 k (q - 1) (by omega) (by omega)
      dsimp only at this
      omega)
  refine ⟨?_, ?_, l3⟩
  · intro k hk
    rcases l1 k hk with ⟨j, hj, e⟩ | e
    · exact ⟨j, by omega, e⟩
    · exact ⟨i, by omega, e.symm⟩
  · rintro b ⟨j, hj, e⟩
    by_cases c : j = i
    · exact l2 b (Or.inr (by rw [← e, c]))
    · exact l2 b (Or.inl ⟨j, by omega, e⟩)
def stp (dm : Nat → Nat) (F : Nat → Int32) (a b : Nat) : Nat := (if dm a < dm b then dm b - dm a else dm a - dm b) + if F (12 * a + 7) = F (12 * b + 7) then 0 else 2
theorem stp_le {dm : Nat → Nat} (h : ∀ b, dm b ≤ 9) (F : Nat → Int32) (a b : Nat) : stp dm F a b ≤ 20 := by
  have := h a
  have := h b
  unfold stp
  split <;> split <;> omega
section
variable (N : Nat) (κ : hk_T)
theorem c_sortStack {n : Nat} {z : Nat → Nat} (hS : hk_I κ 1 16 = n3 n) (hn : n ≤ 9) (hz : ∀ i, i < n → hk_A κ 11 i = n3 (z i)) (h40 : ∀ i, i < n → z i < 40) (hd : ∀ i j, i < j → j < n → z i ≠ z j) (hN : 1000 < N) :
    ∃ κ' g, fX6_sortStack N 61 (hp κ) = some (hp κ') ∧ same [62] [] κ κ' ∧ (∀ i, i < n → hk_A κ' 62 i = n3 (g i)) ∧ LL (srP n z) (fun b => b) n g := by
  unfold fX6_sortStack nX6_sortStack_0
  simp (maxSteps := 400000) (disch := omega) only [n3_l, n3_add, n3_mul, n3_sub, n3_subn, n3_lt, n3_le, n3_eq, n3_eqn, n3_neq, n3_and, n3_or, n3_shl, n3_i, n3_cl, ↓hbd_0, ↓hbd_1, ↓hbd_2, hk_ob_0, hk_rd_0, hk_rd_1, hk_rd_2, hk_al_0, hk_al_1, h3r_0, h3r_1, hk_wi_0, hk_wj_0, h3w_0, h3w_1, h3v_0, hk_kI, hk_kJ, hk_kA, hk_kB, A_eq, A_ne, A_row, B_eq, B_ne, B_row, I_eq, I_ne, J_eq, J_ne, Option.bind_some, Option.some.injEq, if_true, if_false, eq_self, true_or, or_true, true_and, and_true, false_or, or_false, not_true_eq_false, not_false_eq_true, Classical.not_not, nar_b0, nar_b1, rz_0, rz_1, rz_i, ite01, Nat.add_zero, Nat.zero_add, Nat.one_mul, mul12, reduceIte, ra_z0, Nat.reduceEqDiff, Nat.reduceLT, Nat.reduceLeDiff, Nat.reduceAdd, Nat.reduceMul, Nat.reduceSub, Nat.reduceDiv, Nat.reduceMod, Bool.false_eq_true, false_and, and_false, reduceCtorEq]
  obtain ⟨m', ⟨s', g⟩, e, i1, i3, i4⟩ := lpx (fun m b (s : hk_T × (Nat → Nat)) => nX6_sortStack_2 N m 61 (n3 b) (hp s.1)) n (fun b r => same [62] [] κ r.1 ∧ (∀ i, i < b → hk_A r.1 62 i = n3 (r.2 i)) ∧ LL (srP b z) (fun b => b) b r.2) (by
    rintro m b ⟨r, g⟩ hb ⟨i1, i3, i4⟩
    dsimp only at i1 i3 i4 ⊢
    have hB' : hk_I r 1 16 = n3 n := by rw [i1.2.2.1 1 16 (by decide)]; exact hS
    have hzb : z b < 40 := h40 b hb
    have gs : ∀ i, i < b → g i < 40 := by
      intro i hi
      obtain ⟨j, hj, e⟩ := i4.1 i hi
      rw [← e]
      exact h40 j (by omega)
    obtain ⟨q, r', a1, a2, a3, a4, a5, a6, a7⟩ := ins_loop (fun m' p r' => nX6_sortStack_15 N (nX6_sortStack_2 N m) m' 61 (n3 b) (n3 p) (hp r')) 62 (fun p r' => nX6_sortStack_59 N (nX6_sortStack_2 N m) 61 (n3 b) (n3 p) (hp r')) r b g (fun x => z b < x) i3 (by
      intro m' r' hs'
      rw [nX6_sortStack_15]
      simp (maxSteps := 400000) (disch := omega) only [n3_l, n3_add, n3_mul, n3_sub, n3_subn, n3_lt, n3_le, n3_eq, n3_eqn, n3_neq, n3_and, n3_or, n3_shl, n3_i, n3_cl, ↓hbd_0, ↓hbd_1, ↓hbd_2, hk_ob_0, hk_rd_0, hk_rd_1, hk_rd_2, hk_al_0, hk_al_1, h3r_0, h3r_1, hk_wi_0, hk_wj_0, h3w_0, h3w_1, h3v_0, hk_kI, hk_kJ, hk_kA, hk_kB, A_eq, A_ne, A_row, B_eq, B_ne, B_row, I_eq, I_ne, J_eq, J_ne, Option.bind_some, Option.some.injEq, if_true, if_false, eq_self, true_or, or_true, true_and, and_true, false_or, or_false, not_true_eq_false, not_false_eq_true, Classical.not_not, nar_b0, nar_b1, rz_0, rz_1, rz_i, ite01, Nat.add_zero, Nat.zero_add, Nat.one_mul, mul12, reduceIte, ra_z0, Nat.reduceEqDiff, Nat.reduceLT, Nat.reduceLeDiff, Nat.reduceAdd, Nat.reduceMul, Nat.reduceSub, Nat.reduceDiv, Nat.reduceMod, Bool.false_eq_true, false_and, and_false, reduceCtorEq, Nat.le_refl]) (by
      intro m' p r' hs' hp0 hpz hv
      have w4 := gs (p - 1) (by omega)
      have hp' : ¬ p ≤ 0 := by omega
      have v11 : hk_A r' 11 b = n3 (z b) := by rw [hs'.1 11 (by decide), i1.1 11 (by decide), hz b hb]
      rw [nX6_sortStack_15]
      simp (maxSteps := 400000) (disch := omega) only [n3_l, n3_add, n3_mul, n3_sub, n3_subn, n3_lt, n3_le, n3_eq, n3_eqn, n3_neq, n3_and, n3_or, n3_shl, n3_i, n3_cl, ↓hbd_0, ↓hbd_1, ↓hbd_2, hk_ob_0, hk_rd_0, hk_rd_1, hk_rd_2, hk_al_0, hk_al_1, h3r_0, h3r_1, hk_wi_0, hk_wj_0, h3w_0, h3w_1, h3v_0, hk_kI, hk_kJ, hk_kA, hk_kB, A_eq, A_ne, A_row, B_eq, B_ne, B_row, I_eq, I_ne, J_eq, J_ne, Option.bind_some, Option.some.injEq, if_true, if_false, eq_self, true_or, or_true, true_and, and_true, false_or, or_false, not_true_eq_false, not_false_eq_true, Classical.not_not, nar_b0, nar_b1, rz_0, rz_1, rz_i, ite01, Nat.add_zero, Nat.zero_add, Nat.one_mul, mul12, reduceIte, ra_z0, Nat.reduceEqDiff, Nat.reduceLT, Nat.reduceLeDiff, Nat.reduceAdd, Nat.reduceMul, Nat.reduceSub, Nat.reduceDiv, Nat.reduceMod, Bool.false_eq_true, false_and, and_false, reduceCtorEq, hp', hv, v11]
      by_cases c2 : g (p - 1) ≤ z b
      · rw [if_pos c2, if_neg (by omega)]
      · rw [if_neg c2, if_pos (by omega)]) b N r (Nat.le_refl _) (by omega) (same.refl _ _ _) i3 (fun i h1 h2 => by omega) (fun i h1 h2 => by omega)
    have v11 : hk_A r' 11 b = n3 (z b) := by rw [a3.1 11 (by decide), i1.1 11 (by decide), hz b hb]
    refine ⟨(hk_wA r' 62 q (n3 (z b)), insG g q (z b)), ?_, ?_, ?_, ?_⟩
    · rw [nX6_sortStack_2]
      simp (maxSteps := 400000) (disch := omega) only [n3_l, n3_add, n3_mul, n3_sub, n3_subn, n3_lt, n3_le, n3_eq, n3_eqn, n3_neq, n3_and, n3_or, n3_shl, n3_i, n3_cl, ↓hbd_0, ↓hbd_1, ↓hbd_2, hk_ob_0, hk_rd_0, hk_rd_1, hk_rd_2, hk_al_0, hk_al_1, h3r_0, h3r_1, hk_wi_0, hk_wj_0, h3w_0, h3w_1, h3v_0, hk_kI, hk_kJ, hk_kA, hk_kB, A_eq, A_ne, A_row, B_eq, B_ne, B_row, I_eq, I_ne, J_eq, J_ne, Option.bind_some, Option.some.injEq, if_true, if_false, eq_self, true_or, or_true, true_and, and_true, false_or, or_false, not_true_eq_false, not_false_eq_true, Classical.not_not, nar_b0, nar_b1, rz_0, rz_1, rz_i, ite01, Nat.add_zero, Nat.zero_add, Nat.one_mul, mul12, reduceIte, ra_z0, Nat.reduceEqDiff, Nat.reduceLT, Nat.reduceLeDiff, Nat.reduceAdd, Nat.reduceMul, Nat.reduceSub, Nat.reduceDiv, Nat.reduceMod, Bool.false_eq_true, false_and, and_false, reduceCtorEq, hB', hb]
      rw [a2]
      unfold nX6_sortStack_59
      simp (maxSteps := 400000) (disch := omega) only [n3_l, n3_add, n3_mul, n3_sub, n3_subn, n3_lt, n3_le, n3_eq, n3_eqn, n3_neq, n3_and, n3_or, n3_shl, n3_i, n3_cl, ↓hbd_0, ↓hbd_1, ↓hbd_2, hk_ob_0, hk_rd_0, hk_rd_1, hk_rd_2, hk_al_0, hk_al_1, h3r_0, h3r_1, hk_wi_0, hk_wj_0, h3w_0, h3w_1, h3v_0, hk_kI, hk_kJ, hk_kA, hk_kB, A_eq, A_ne, A_row, B_eq, B_ne, B_row, I_eq, I_ne, J_eq, J_ne, Option.bind_some, Option.some.injEq, if_true, if_false, eq_self, true_or, or_true, true_and, and_true, false_or, or_false, not_true_eq_false, not_false_eq_true, Classical.not_not, nar_b0, nar_b1, rz_0, rz_1, rz_i, ite01, Nat.add_zero, Nat.zero_add, Nat.one_mul, mul12, reduceIte, ra_z0, Nat.reduceEqDiff, Nat.reduceLT, Nat.reduceLeDiff, Nat.reduceAdd, Nat.reduceMul, Nat.reduceSub, Nat.reduceDiv, Nat.reduceMod, Bool.false_eq_true, false_and, and_false, reduceCtorEq, v11]
    · exact (i1.trans (a3.weak (by decide) (by decide))).wA (by decide)
    · intro i hi
      dsimp only
      unfold insG
      by_cases c1 : i < q
      · rw [if_pos c1, A_ne (Or.inr (by omega))]; exact a4 i c1
      · rw [if_neg c1]
        by_cases c2 : i = q
        · rw [if_pos c2, A_eq c2]
        · rw [if_neg c2, A_ne (Or.inr c2)]; exact a5 i (by omega) (by omega)
    · exact srP_step i4 a1 a6 a7 (fun j hj => hd j b hj hb)) n 0 N (κ, fun _ => 0) (by omega) (by omega) ⟨same.refl _ _ _, fun i hi => by omega, ⟨fun i hi => by omega, fun b hb => by obtain ⟨j, hj, -⟩ := hb; omega, fun i j _ hj => by omega⟩⟩
  dsimp only at i1 i3 i4
  refine ⟨s', g, ?_, i1, i3, i4⟩
  rw [e, nX6_sortStack_2]
  simp (maxSteps := 400000) (disch := omega) only [n3_l, n3_add, n3_mul, n3_sub, n3_subn, n3_lt, n3_le, n3_eq, n3_eqn, n3_neq, n3_and, n3_or, n3_shl, n3_i, n3_cl, ↓hbd_0, ↓hbd_1, ↓hbd_2, hk_ob_0, hk_rd_0, hk_rd_1, hk_rd_2, hk_al_0, hk_al_1, h3r_0, h3r_1, hk_wi_0, hk_wj_0, h3w_0, h3w_1, h3v_0, hk_kI, hk_kJ, hk_kA, hk_kB, A_eq, A_ne, A_row, B_eq, B_ne, B_row, I_eq, I_ne, J_eq, J_ne, Option.bind_some, Option.some.injEq, if_true, if_false, eq_self, true_or, or_true, true_and, and_true, false_or, or_false, not_true_eq_false, not_false_eq_true, Classical.not_not, nar_b0, nar_b1, rz_0, rz_1, rz_i, ite01, Nat.add_zero, Nat.zero_add, Nat.one_mul, mul12, reduceIte, ra_z0, Nat.reduceEqDiff, Nat.reduceLT, Nat.reduceLeDiff, Nat.reduceAdd, Nat.reduceMul, Nat.reduceSub, Nat.reduceDiv, Nat.reduceMod, Bool.false_eq_true, false_and, and_false, reduceCtorEq, i1.2.2.1 1 16 (by decide), hS, Nat.lt_irrefl]
theorem r_sortRow {n : Nat} {z : Nat → Nat} (hn : n ≤ 9) (hz : ∀ i, i < n → hk_A κ 71 (725 + i) = n3 (z i)) (h40 : ∀ i, i < n → z i < 40) (hd : ∀ i j, i < j → j < n → z i ≠ z j) (hN : 1000 < N) :
    ∃ κ' g, nX12_rowAll_2 N N 69 (n3 n) (n3 0) (hp κ) = nX12_rowAll_81 N N 69 (n3 n) (n3 (2 ^ n - 1)) (hp κ') ∧ same [99] [] κ κ' ∧ (∀ i, i < n → hk_A κ' 99 i = n3 (g i)) ∧ LL (srP n z) (fun b => b) n g := by
  obtain ⟨m', ⟨s', g⟩, e, i1, i3, i4⟩ := lpx (fun m b (s : hk_T × (Nat → Nat)) => nX12_rowAll_2 N m 69 (n3 n) (n3 b) (hp s.1)) n (fun b r => same [99] [] κ r.1 ∧ (∀ i, i < b → hk_A r.1 99 i = n3 (r.2 i)) ∧ LL (srP b z) (fun b => b) b r.2) (by
    rintro m b ⟨r, g⟩ hb ⟨i1, i3, i4⟩
    dsimp only at i1 i3 i4 ⊢
    have hzb : z b < 40 := h40 b hb
    have v71 : hk_A r 71 (725 + b) = n3 (z b) := by rw [i1.1 71 (by decide), hz b hb]
    have gs : ∀ i, i < b → g i < 40 := by
      intro i hi
      obtain ⟨j, hj, e⟩ := i4.1 i hi
      rw [← e]
      exact h40 j (by omega)
    obtain ⟨q, r', a1, a2, a3, a4, a5, a6, a7⟩ := ins_loop (fun m' p r' => nX12_rowAll_21 N (nX12_rowAll_2 N m) m' 69 (n3 n) (n3 b) (n3 (z b)) (n3 p) (hp r')) 99 (fun p r' => nX12_rowAll_61 N (nX12_rowAll_2 N m) 69 (n3 n) (n3 b) (n3 (z b)) (n3 p) (hp r')) r b g (fun x => z b < x) i3 (by
      intro m' r' hs'
      rw [nX12_rowAll_21]
      simp (maxSteps := 400000) (disch := omega) only [n3_l, n3_add, n3_mul, n3_sub, n3_subn, n3_lt, n3_le, n3_eq, n3_eqn, n3_neq, n3_and, n3_or, n3_shl, n3_i, n3_cl, ↓hbd_0, ↓hbd_1, ↓hbd_2, hk_ob_0, hk_rd_0, hk_rd_1, hk_rd_2, hk_al_0, hk_al_1, h3r_0, h3r_1, hk_wi_0, hk_wj_0, h3w_0, h3w_1, h3v_0, hk_kI, hk_kJ, hk_kA, hk_kB, A_eq, A_ne, A_row, B_eq, B_ne, B_row, I_eq, I_ne, J_eq, J_ne, Option.bind_some, Option.some.injEq, if_true, if_false, eq_self, true_or, or_true, true_and, and_true, false_or, or_false, not_true_eq_false, not_false_eq_true, Classical.not_not, nar_b0, nar_b1, rz_0, rz_1, rz_i, ite01, Nat.add_zero, Nat.zero_add, Nat.one_mul, mul12, reduceIte, ra_z0, Nat.reduceEqDiff, Nat.reduceLT, Nat.reduceLeDiff, Nat.reduceAdd, Nat.reduceMul, Nat.reduceSub, Nat.reduceDiv, Nat.reduceMod, Bool.false_eq_true, false_and, and_false, reduceCtorEq, Nat.le_refl]) (by
      intro m' p r' hs' hp0 hpz hv
      have w4 := gs (p - 1) (by omega)
      have hp' : ¬ p ≤ 0 := by omega
      rw [nX12_rowAll_21]
      simp (maxSteps := 400000) (disch := omega) only [n3_l, n3_add, n3_mul, n3_sub, n3_subn, n3_lt, n3_le, n3_eq, n3_eqn, n3_neq, n3_and, n3_or, n3_shl, n3_i, n3_cl, ↓hbd_0, ↓hbd_1, ↓hbd_2, hk_ob_0, hk_rd_0, hk_rd_1, hk_rd_2, hk_al_0, hk_al_1, h3r_0, h3r_1, hk_wi_0, hk_wj_0, h3w_0, h3w_1, h3v_0, hk_kI, hk_kJ, hk_kA, hk_kB, A_eq, A_ne, A_row, B_eq, B_ne, B_row, I_eq, I_ne, J_eq, J_ne, Option.bind_some, Option.some.injEq, if_true, if_false, eq_self, true_or, or_true, true_and, and_true, false_or, or_false, not_true_eq_false, not_false_eq_true, Classical.not_not, nar_b0, nar_b1, rz_0, rz_1, rz_i, ite01, Nat.add_zero, Nat.zero_add, Nat.one_mul, mul12, reduceIte, ra_z0, Nat.reduceEqDiff, Nat.reduceLT, Nat.reduceLeDiff, Nat.reduceAdd, Nat.reduceMul, Nat.reduceSub, Nat.reduceDiv, Nat.reduceMod, Bool.false_eq_true, false_and, and_false, reduceCtorEq, hp', hv]
      by_cases c2 : g (p - 1) ≤ z b
      · rw [if_pos c2, if_neg (by omega)]
      · rw [if_neg c2, if_pos (by omega)]) b N r (Nat.le_refl _) (by omega) (same.refl _ _ _) i3 (fun i h1 h2 => by omega) (fun i h1 h2 => by omega)
    refine ⟨(hk_wA r' 99 q (n3 (z b)), insG g q (z b)), ?_, ?_, ?_, ?_⟩
    · rw [nX12_rowAll_2]
      simp (maxSteps := 400000) (disch := omega) only [n3_l, n3_add, n3_mul, n3_sub, n3_subn, n3_lt, n3_le, n3_eq, n3_eqn, n3_neq, n3_and, n3_or, n3_shl, n3_i, n3_cl, ↓hbd_0, ↓hbd_1, ↓hbd_2, hk_ob_0, hk_rd_0, hk_rd_1, hk_rd_2, hk_al_0, hk_al_1, h3r_0, h3r_1, hk_wi_0, hk_wj_0, h3w_0, h3w_1, h3v_0, hk_kI, hk_kJ, hk_kA, hk_kB, A_eq, A_ne, A_row, B_eq, B_ne, B_row, I_eq, I_ne, J_eq, J_ne, Option.bind_some, Option.some.injEq, if_true, if_false, eq_self, true_or, or_true, true_and, and_true, false_or, or_false, not_true_eq_false, not_false_eq_true, Classical.not_not, nar_b0, nar_b1, rz_0, rz_1, rz_i, ite01, Nat.add_zero, Nat.zero_add, Nat.one_mul, mul12, reduceIte, ra_z0, Nat.reduceEqDiff, Nat.reduceLT, Nat.reduceLeDiff, Nat.reduceAdd, Nat.reduceMul, Nat.reduceSub, Nat.reduceDiv, Nat.reduceMod, Bool.false_eq_true, false_and, and_false, reduceCtorEq, hb, v71]
      rw [a2]
      unfold nX12_rowAll_61
      simp (maxSteps := 400000) (disch := omega) only [n3_l, n3_add, n3_mul, n3_sub, n3_subn, n3_lt, n3_le, n3_eq, n3_eqn, n3_neq, n3_and, n3_or, n3_shl, n3_i, n3_cl, ↓hbd_0, ↓hbd_1, ↓hbd_2, hk_ob_0, hk_rd_0, hk_rd_1, hk_rd_2, hk_al_0, hk_al_1, h3r_0, h3r_1, hk_wi_0, hk_wj_0, h3w_0, h3w_1, h3v_0, hk_kI, hk_kJ, hk_kA, hk_kB, A_eq, A_ne, A_row, B_eq, B_ne, B_row, I_eq, I_ne, J_eq, J_ne, Option.bind_some, Option.some.injEq, if_true, if_false, eq_self, true_or, or_true, true_and, and_true, false_or, or_false, not_true_eq_false, not_false_eq_true, Classical.not_not, nar_b0, nar_b1, rz_0, rz_1, rz_i, ite01, Nat.add_zero, Nat.zero_add, Nat.one_mul, mul12, reduceIte, ra_z0, Nat.reduceEqDiff, Nat.reduceLT, Nat.reduceLeDiff, Nat.reduceAdd, Nat.reduceMul, Nat.reduceSub, Nat.reduceDiv, Nat.reduceMod, Bool.false_eq_true, false_and, and_false, reduceCtorEq]
    · exact (i1.trans (a3.weak (by decide) (by decide))).wA (by decide)
    · intro i hi
      dsimp only
      unfold insG
      by_cases c1 : i < q
      · rw [if_pos c1, A_ne (Or.inr (by omega))]; exact a4 i c1
      · rw [if_neg c1]
        by_cases c2 : i = q
        · rw [if_pos c2, A_eq c2]
        · rw [if_neg c2, A_ne (Or.inr c2)]; exact a5 i (by omega) (by omega)
    · exact srP_step i4 a1 a6 a7 (fun j hj => hd j b hj hb)) n 0 N (κ, fun _ => 0) (by omega) (by omega) ⟨same.refl _ _ _, fun i hi => by omega, ⟨fun i hi => by omega, fun b hb => by obtain ⟨j, hj, -⟩ := hb; omega, fun i j _ hj => by omega⟩⟩
  dsimp only at i1 i3 i4 e
  refine ⟨s', g, ?_, i1, i3, i4⟩
  have hp2 := Nat.two_pow_pos n
  rw [e, nX12_rowAll_2]
  simp (maxSteps := 400000) (disch := omega) only [n3_l, n3_add, n3_mul, n3_sub, n3_subn, n3_lt, n3_le, n3_eq, n3_eqn, n3_neq, n3_and, n3_or, n3_shl, n3_i, n3_cl, ↓hbd_0, ↓hbd_1, ↓hbd_2, hk_ob_0, hk_rd_0, hk_rd_1, hk_rd_2, hk_al_0, hk_al_1, h3r_0, h3r_1, hk_wi_0, hk_wj_0, h3w_0, h3w_1, h3v_0, hk_kI, hk_kJ, hk_kA, hk_kB, A_eq, A_ne, A_row, B_eq, B_ne, B_row, I_eq, I_ne, J_eq, J_ne, Option.bind_some, Option.some.injEq, if_true, if_false, eq_self, true_or, or_true, true_and, and_true, false_or, or_false, not_true_eq_false, not_false_eq_true, Classical.not_not, nar_b0, nar_b1, rz_0, rz_1, rz_i, ite01, Nat.add_zero, Nat.zero_add, Nat.one_mul, mul12, reduceIte, ra_z0, Nat.reduceEqDiff, Nat.reduceLT, Nat.reduceLeDiff, Nat.reduceAdd, Nat.reduceMul, Nat.reduceSub, Nat.reduceDiv, Nat.reduceMod, Bool.false_eq_true, false_and, and_false, reduceCtorEq, Nat.lt_irrefl, n3_shl]
theorem sub_lt0 {a b : Nat} (ha : a < 1000000) (hb : b < 1000000) : n3 a - n3 b < n3 0 ↔ a < b := by
  rw [Int32.lt_iff_toInt_lt, toInt_n3sub ha hb, n3_toInt (by omega)]; omega
theorem neg_sub3 (a b : Nat) : -(n3 a - n3 b) = n3 b - n3 a := Int32.neg_sub
theorem r_apart {dm : Nat → Nat} {n a b : Nat} (hn : n ≤ 40) (ha : a < n) (hb : b < n) (hdm : ∀ b, b < n → hk_A κ 71 (12 * b + 8) = n3 (dm b)) (h9 : ∀ b, dm b ≤ 9) : fX12_apart N 69 (n3 a) (n3 b) (hp κ) = some (n3 (stp dm (hk_A κ 71) a b), hp κ) := by
  have e1 := hdm a ha
  have e2 := hdm b hb
  have d1 := h9 a
  have d2 := h9 b
  unfold stp
  unfold fX12_apart nX12_apart_0 nX12_apart_36 nX12_apart_68
  by_cases c : dm a < dm b <;> by_cases c2 : hk_A κ 71 (12 * a + 7) = hk_A κ 71 (12 * b + 7) <;>
  simp (maxSteps := 400000) (disch := omega) only [n3_l, n3_add, n3_mul, n3_sub, n3_subn, n3_lt, n3_le, n3_eq, n3_eqn, n3_neq, n3_and, n3_or, n3_shl, n3_i, n3_cl, ↓hbd_0, ↓hbd_1, ↓hbd_2, hk_ob_0, hk_rd_0, hk_rd_1, hk_rd_2, hk_al_0, hk_al_1, h3r_0, h3r_1, hk_wi_0, hk_wj_0, h3w_0, h3w_1, h3v_0, hk_kI, hk_kJ, hk_kA, hk_kB, A_eq, A_ne, A_row, B_eq, B_ne, B_row, I_eq, I_ne, J_eq, J_ne, Option.bind_some, Option.some.injEq, if_true, if_false, eq_self, true_or, or_true, true_and, and_true, false_or, or_false, not_true_eq_false, not_false_eq_true, Classical.not_not, nar_b0, nar_b1, rz_0, rz_1, rz_i, ite01, Nat.add_zero, Nat.zero_add, Nat.one_mul, mul12, reduceIte, ra_z0, Nat.reduceEqDiff, Nat.reduceLT, Nat.reduceLeDiff, Nat.reduceAdd, Nat.reduceMul, Nat.reduceSub, Nat.reduceDiv, Nat.reduceMod, Bool.false_eq_true, false_and, and_false, reduceCtorEq, e1, e2, sub_lt0, neg_sub3, c, c2, Nat.not_lt_zero]
theorem c_measureSteps {dm g : Nat → Nat} {n nB : Nat} (hS : hk_I κ 1 16 = n3 n) (hn : n ≤ 9) (hB : nB ≤ 40) (hg : ∀ i, i < n → hk_A κ 62 i = n3 (g i)) (h40 : ∀ i, i < n → g i < nB) (hdm : ∀ b, b < nB → hk_A κ 2 (12 * b + 8) = n3 (dm b)) (h9 : ∀ b, dm b ≤ 9) (hN : 1000 < N) :
    ∃ κ', fX6_measureSteps N 61 (hp κ) = some (hp κ') ∧ same [63] [] κ κ' ∧ ∀ i j, i < n → j < n → hk_A κ' 63 (9 * i + j) = n3 (stp dm (hk_A κ 2) (g i) (g j)) := by
  unfold fX6_measureSteps nX6_measureSteps_0
  simp (maxSteps := 400000) (disch := omega) only [n3_l, n3_add, n3_mul, n3_sub, n3_subn, n3_lt, n3_le, n3_eq, n3_eqn, n3_neq, n3_and, n3_or, n3_shl, n3_i, n3_cl, ↓hbd_0, ↓hbd_1, ↓hbd_2, hk_ob_0, hk_rd_0, hk_rd_1, hk_rd_2, hk_al_0, hk_al_1, h3r_0, h3r_1, hk_wi_0, hk_wj_0, h3w_0, h3w_1, h3v_0, hk_kI, hk_kJ, hk_kA, hk_kB, A_eq, A_ne, A_row, B_eq, B_ne, B_row, I_eq, I_ne, J_eq, J_ne, Option.bind_some, Option.some.injEq, if_true, if_false, eq_self, true_or, or_true, true_and, and_true, false_or, or_false, not_true_eq_false, not_false_eq_true, Classical.not_not, nar_b0, nar_b1, rz_0, rz_1, rz_i, ite01, Nat.add_zero, Nat.zero_add, Nat.one_mul, mul12, reduceIte, ra_z0, Nat.reduceEqDiff, Nat.reduceLT, Nat.reduceLeDiff, Nat.reduceAdd, Nat.reduceMul, Nat.reduceSub, Nat.reduceDiv, Nat.reduceMod, Bool.false_eq_true, false_and, and_false, reduceCtorEq]
  obtain ⟨m', s', e, i1, i2⟩ := lpx (fun m i (s : hk_T) => nX6_measureSteps_2 N m 61 (n3 i) (hp s)) n (fun i r => same [63] [] κ r ∧ ∀ i' j, i' < i → j < n → hk_A r 63 (9 * i' + j) = n3 (stp dm (hk_A κ 2) (g i') (g j))) (by
    rintro m i r hi ⟨i1, i2⟩
    have hS' : hk_I r 1 16 = n3 n := by rw [i1.2.2.1 1 16 (by decide)]; exact hS
    obtain ⟨m'', s'', e', k1, k2⟩ := lpx (fun m' j (s : hk_T) => nX6_measureSteps_15 N (nX6_measureSteps_2 N m) m' 61 (n3 i) (n3 j) (hp s)) n (fun j r' => same [63] [] κ r' ∧ ∀ i' j', i' < i ∧ j' < n ∨ i' = i ∧ j' < j → hk_A r' 63 (9 * i' + j') = n3 (stp dm (hk_A κ 2) (g i') (g j'))) (by
      rintro m' j r' hj ⟨k1, k2⟩
      have hS' : hk_I r' 1 16 = n3 n := by rw [k1.2.2.1 1 16 (by decide)]; exact hS
      have u1 : hk_A r' 62 i = n3 (g i) := by rw [k1.1 62 (by decide)]; exact hg i hi
      have u2 : hk_A r' 62 j = n3 (g j) := by rw [k1.1 62 (by decide)]; exact hg j hj
      have e2 : hk_A r' 2 = hk_A κ 2 := k1.1 2 (by decide)
      have b1 := h40 i hi
      have b2 := h40 j hj
      have w1 := hdm (g i) b1
      have w2 := hdm (g j) b2
      have d1 := h9 (g i)
      have d2 := h9 (g j)
      refine ⟨hk_wA r' 63 (9 * i + j) (n3 (stp dm (hk_A κ 2) (g i) (g j))), ?_, k1.wA (by decide), ?_⟩
      · rw [nX6_measureSteps_15]
        have da := h_dampApart N r' (a := g i) (b := g j) (by omega) (by omega)
        rw [e2, w1, w2, dAbs (h9 _) (h9 _)] at da
        have f1 := h_factOf N r' (b := g i) (f := 7) (by omega) (by omega)
        have f2 := h_factOf N r' (b := g j) (f := 7) (by omega) (by omega)
        rw [e2] at f1 f2
        have ix : i * 9 + j = 9 * i + j := by omega
        by_cases c2 : hk_A κ 2 (12 * g i + 7) = hk_A κ 2 (12 * g j + 7)
        · simp (maxSteps := 400000) (disch := omega) only [n3_l, n3_add, n3_mul, n3_sub, n3_subn, n3_lt, n3_le, n3_eq, n3_eqn, n3_neq, n3_and, n3_or, n3_shl, n3_i, n3_cl, ↓hbd_0, ↓hbd_1, ↓hbd_2, hk_ob_0, hk_rd_0, hk_rd_1, hk_rd_2, hk_al_0, hk_al_1, h3r_0, h3r_1, hk_wi_0, hk_wj_0, h3w_0, h3w_1, h3v_0, hk_kI, hk_kJ, hk_kA, hk_kB, A_eq, A_ne, A_row, B_eq, B_ne, B_row, I_eq, I_ne, J_eq, J_ne, Option.bind_some, Option.some.injEq, if_true, if_false, eq_self, true_or, or_true, true_and, and_true, false_or, or_false, not_true_eq_false, not_false_eq_true, Classical.not_not, nar_b0, nar_b1, rz_0, rz_1, rz_i, ite01, Nat.add_zero, Nat.zero_add, Nat.one_mul, mul12, reduceIte, ra_z0, Nat.reduceEqDiff, Nat.reduceLT, Nat.reduceLeDiff, Nat.reduceAdd, Nat.reduceMul, Nat.reduceSub, Nat.reduceDiv, Nat.reduceMod, Bool.false_eq_true, false_and, and_false, reduceCtorEq, hS', hj, u1, u2, f1, f2, da, c2, stp, nX6_measureSteps_64, nX6_measureSteps_103, ix]
        · simp (maxSteps := 400000) (disch := omega) only [n3_l, n3_add, n3_mul, n3_sub, n3_subn, n3_lt, n3_le, n3_eq, n3_eqn, n3_neq, n3_and, n3_or, n3_shl, n3_i, n3_cl, ↓hbd_0, ↓hbd_1, ↓hbd_2, hk_ob_0, hk_rd_0, hk_rd_1, hk_rd_2, hk_al_0, hk_al_1, h3r_0, h3r_1, hk_wi_0, hk_wj_0, h3w_0, h3w_1, h3v_0, hk_kI, hk_kJ, hk_kA, hk_kB, A_eq, A_ne, A_row, B_eq, B_ne, B_row, I_eq, I_ne, J_eq, J_ne, Option.bind_some, Option.some.injEq, if_true, if_false, eq_self, true_or, or_true, true_and, and_true, false_or, or_false, not_true_eq_false, not_false_eq_true, Classical.not_not, nar_b0, nar_b1, rz_0, rz_1, rz_i, ite01, Nat.add_zero, Nat.zero_add, Nat.one_mul, mul12, reduceIte, ra_z0, Nat.reduceEqDiff, Nat.reduceLT, Nat.reduceLeDiff, Nat.reduceAdd, Nat.reduceMul, Nat.reduceSub, Nat.reduceDiv, Nat.reduceMod, Bool.false_eq_true, false_and, and_false, reduceCtorEq, hS', hj, u1, u2, f1, f2, da, c2, stp, nX6_measureSteps_64, nX6_measureSteps_103, ix]
      · intro i' j' h
        by_cases c : 9 * i' + j' = 9 * i + j
        · have : i' = i ∧ j' = j := by omega
          rw [this.1, this.2, A_eq rfl]
        · rw [A_ne (Or.inr c)]
          exact k2 i' j' (by omega)) n 0 N r (by omega) (by omega) ⟨i1, fun i' j' h => i2 i' j' (by omega) (by omega)⟩
    refine ⟨s'', ?_, k1, fun i' j' h1 h2 => k2 i' j' (by omega)⟩
    rw [nX6_measureSteps_2]
    simp (maxSteps := 400000) (disch := omega) only [n3_l, n3_add, n3_mul, n3_sub, n3_subn, n3_lt, n3_le, n3_eq, n3_eqn, n3_neq, n3_and, n3_or, n3_shl, n3_i, n3_cl, ↓hbd_0, ↓hbd_1, ↓hbd_2, hk_ob_0, hk_rd_0, hk_rd_1, hk_rd_2, hk_al_0, hk_al_1, h3r_0, h3r_1, hk_wi_0, hk_wj_0, h3w_0, h3w_1, h3v_0, hk_kI, hk_kJ, hk_kA, hk_kB, A_eq, A_ne, A_row, B_eq, B_ne, B_row, I_eq, I_ne, J_eq, J_ne, Option.bind_some, Option.some.injEq, if_true, if_false, eq_self, true_or, or_true, true_and, and_true, false_or, or_false, not_true_eq_false, not_false_eq_true, Classical.not_not, nar_b0, nar_b1, rz_0, rz_1, rz_i, ite01, Nat.add_zero, Nat.zero_add, Nat.one_mul, mul12, reduceIte, ra_z0, Nat.reduceEqDiff, Nat.reduceLT, Nat.reduceLeDiff, Nat.reduceAdd, Nat.reduceMul, Nat.reduceSub, Nat.reduceDiv, Nat.reduceMod, Bool.false_eq_true, false_and, and_false, reduceCtorEq, hS', hi]
    rw [e', nX6_measureSteps_15]
    simp (maxSteps := 400000) (disch := omega) only [n3_l, n3_add, n3_mul, n3_sub, n3_subn, n3_lt, n3_le, n3_eq, n3_eqn, n3_neq, n3_and, n3_or, n3_shl, n3_i, n3_cl, ↓hbd_0, ↓hbd_1, ↓hbd_2, hk_ob_0, hk_rd_0, hk_rd_1, hk_rd_2, hk_al_0, hk_al_1, h3r_0, h3r_1, hk_wi_0, hk_wj_0, h3w_0, h3w_1, h3v_0, hk_kI, hk_kJ, hk_kA, hk_kB, A_eq, A_ne, A_row, B_eq, B_ne, B_row, I_eq, I_ne, J_eq, J_ne, Option.bind_some, Option.some.injEq, if_true, if_false, eq_self, true_or, or_true, true_and, and_true, false_or, or_false, not_true_eq_false, not_false_eq_true, Classical.not_not, nar_b0, nar_b1, rz_0, rz_1, rz_i, ite01, Nat.add_zero, Nat.zero_add, Nat.one_mul, mul12, reduceIte, ra_z0, Nat.reduceEqDiff, Nat.reduceLT, Nat.reduceLeDiff, Nat.reduceAdd, Nat.reduceMul, Nat.reduceSub, Nat.reduceDiv, Nat.reduceMod, Bool.false_eq_true, false_and, and_false, reduceCtorEq, k1.2.2.1 1 16 (by decide), hS, Nat.lt_irrefl]) n 0 N κ (by omega) (by omega) ⟨same.refl _ _ _, fun i' j' h => by omega⟩
  refine ⟨s', ?_, i1, i2⟩
  rw [e, nX6_measureSteps_2]
  simp (maxSteps := 400000) (disch := omega) only [n3_l, n3_add, n3_mul, n3_sub, n3_subn, n3_lt, n3_le, n3_eq, n3_eqn, n3_neq, n3_and, n3_or, n3_shl, n3_i, n3_cl, ↓hbd_0, ↓hbd_1, ↓hbd_2, hk_ob_0, hk_rd_0, hk_rd_1, hk_rd_2, hk_al_0, hk_al_1, h3r_0, h3r_1, hk_wi_0, hk_wj_0, h3w_0, h3w_1, h3v_0, hk_kI, hk_kJ, hk_kA, hk_kB, A_eq, A_ne, A_row, B_eq, B_ne, B_row, I_eq, I_ne, J_eq, J_ne, Option.bind_some, Option.some.injEq, if_true, if_false, eq_self, true_or, or_true, true_and, and_true, false_or, or_false, not_true_eq_false, not_false_eq_true, Classical.not_not, nar_b0, nar_b1, rz_0, rz_1, rz_i, ite01, Nat.add_zero, Nat.zero_add, Nat.one_mul, mul12, reduceIte, ra_z0, Nat.reduceEqDiff, Nat.reduceLT, Nat.reduceLeDiff, Nat.reduceAdd, Nat.reduceMul, Nat.reduceSub, Nat.reduceDiv, Nat.reduceMod, Bool.false_eq_true, false_and, and_false, reduceCtorEq, i1.2.2.1 1 16 (by decide), hS, Nat.lt_irrefl]
end
