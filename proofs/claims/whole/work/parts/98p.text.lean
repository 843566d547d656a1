/-! text: a call -/
theorem roomZ.grow {κ κ' : hk_T} {z : Nat} (h : roomZ κ z) (hP : hk_P κ' = hk_P κ) (hn : hk_n κ ≤ hk_n κ') (hD : ∀ k, k < hk_n κ → hk_D κ' k = hk_D κ k) : roomZ κ' z := by
  rcases h with ⟨a, b⟩ | ⟨q, S, W, R, C, ⟨⟨g1, g2, g3, g4, g5⟩, g6, ⟨g7, g8, g9, g10⟩, g11⟩, b⟩
  · exact Or.inl ⟨by rw [hP]; exact a, b⟩
  · refine Or.inr ⟨q, S, W, R, C, ?_, b⟩
    unfold mC
    rw [hP, hD _ (by omega), hD _ (by omega), hD _ (by omega), hD _ (by omega)]
    exact ⟨⟨g1, g2, g3, g4, by omega⟩, g6, ⟨g7, g8, g9, g10⟩, g11⟩
section
variable {B : Nat → Nat} {n : Nat}
theorem pSum_ok (n4 : n ≤ 400) {j k j' k' : Nat} {v : valT} (hj : j ≤ n) (h : pSum B n 9 0 j k = .inr (j', k', v)) : j' ≤ n ∧ vO v := by
  have r := rp_sum (B := B) (tst := true) n4 9 0 (by omega) (by omega) (2 * (n - j) + 3) j k 0 (fun _ => 0) (fun _ => 0) [] rfl hdB_nil hj (Nat.le_refl _)
  rw [h] at r
  obtain ⟨m', f', O', G', X, F, OO, GG, d1, d2, d3, d4, d5, d6, d7, d8, d9, -⟩ := r
  exact ⟨d7, d9⟩
theorem pTest_ok (n4 : n ≤ 400) {j k j' k' : Nat} {v : valT} (hj : j ≤ n) (h : pTest B n 9 0 j k = .inr (j', k', v)) : j' ≤ n := by
  have r := rp_test (B := B) n4 9 0 (by omega) (by omega) (2 * (n - j) + 3) j k 0 (fun _ => 0) (fun _ => 0) [] rfl hdB_nil (by decide) hj (Nat.le_refl _)
  rw [h] at r
  obtain ⟨m', f', O', G', X, F, OO, GG, d1, d2, d3, d4, d5, d6, d7, d8, d9, -⟩ := r
  exact d7
theorem pClause_ok (n4 : n ≤ 400) {j k j' k' hh : Nat} {v w : valT} (hj : j ≤ n) (h : pClause B n j k = .inr (j', k', hh, v, w)) : j' ≤ n ∧ vO v := by
  have nx := (nxt_le (B := B) hj).1
  have key : ∀ j1 k1 (u : valT), j1 ≤ n → vO u → (match pIf B n j1 k1 with
      | .inl f => (.inl f : Sum Nat (Nat × Nat × Nat × valT × valT))
      | .inr (j2, k2, w) => .inr (j2, k2, heaA B n j, u, w)) = .inr (j', k', hh, v, w) → j' ≤ n ∧ vO v := by
    intro j1 k1 u g1 g2 e
    unfold pIf at e
    by_cases cw : isW B n 17 j1
    · rw [if_pos cw] at e
      cases hq : pTest B n 9 0 (nxt B n j1) k1 with
      | inl f => rw [hq] at e; cases e
      | inr t =>
        obtain ⟨j2, k2, w2⟩ := t
        rw [hq] at e
        have z := pTest_ok n4 (nxt_le (B := B) g1).1 hq
        cases e
        exact ⟨z, g2⟩
    · rw [if_neg cw] at e
      cases e
      exact ⟨g1, g2⟩
  rw [pClause_eq] at h
  by_cases c5 : heaA B n j < 5
  · rw [if_pos c5] at h
    by_cases c4 : heaA B n j = 4
    · rw [if_pos c4] at h
      exact key _ _ _ nx vOne_t.o h
    · rw [if_neg c4] at h
      cases hq : pSum B n 9 0 (nxt B n j) k with
      | inl f => rw [hq] at h; cases h
      | inr t =>
        obtain ⟨j2, k2, u⟩ := t
        rw [hq] at h
        have z := pSum_ok n4 nx hq
        exact key _ _ _ z.1 z.2 h
  · rw [if_neg c5] at h
    cases h
theorem pScheme_ok (n4 : n ≤ 400) {nC : Nat} {c' : Nat → Nat × valT × valT} : ∀ m i j k c, j ≤ n → (∀ x, x < i → vO (c x).2.1) → pScheme B n m i j k c = .inr (nC, c') → ∀ x, x < nC → vO (c' x).2.1 := by
  intro m
  induction m with
  | zero => intro i j k c _ _ h; cases h
  | succ m ih =>
    intro i j k c hj hc h
    rw [pScheme] at h
    cases hq : pClause B n j k with
    | inl f => rw [hq] at h; cases h
    | inr t =>
      obtain ⟨j1, k1, hh, v, w⟩ := t
      rw [hq] at h
      dsimp only at h
      have z := pClause_ok n4 hj hq
      have nc : ∀ x, x < i + 1 → vO ((fun x => if x = i then (hh, v, w) else c x) x).2.1 := fun x hx => by
        dsimp only
        by_cases e : x = i
        · rw [if_pos e]; exact z.2
        · rw [if_neg e]; exact hc x (by omega)
      by_cases c0 : tkK B n j1 = 0
      · rw [if_pos c0] at h
        cases h
        exact nc
      · rw [if_neg c0] at h
        by_cases cs : sg B n 59 j1
        · rw [if_pos cs] at h
          exact ih (i + 1) _ _ _ (nxt_le (B := B) z.1).1 nc h
        · rw [if_neg cs] at h
          cases h
end
theorem roSt {s s' y m c : Nat} (h : s' ≤ s + y) (hy : y ≤ 900) (g : s ≤ m + 900 * c) : s' ≤ m + 900 * (c + 1) := by omega
theorem cFu1 : ∀ q ∈ cFu, q.1 = 1 → q.2 = 14 := by decide
theorem rFl1 : ∀ q ∈ rFl, q.1 ≠ 1 := by decide
section
variable (N : Nat) {L c : Nat} {xs : Nat → Int32} {κ : hk_T}
theorem k_text (h : Inv L xs c κ) (hN : 1000 < N) : callOk L xs c κ (fX11_text N 0) (fX12_text N 69) := by
  have h0 := h
  obtain ⟨n, nT, nL, nS, T, H⟩ := h0
  have H' := H
  obtain ⟨h1, h2, h3, h4, h5, h8, h9, h10, h11, h12⟩ := H'
  have k3 := h3.hk
  have k1 := k3.1
  have t8 := k1.2.1.2.1
  obtain ⟨B, len, ct, rt⟩ := h9
  by_cases f : nT = 8
  · have e1 := c_text_y N κ (by rw [k1.2.1.1, f])
    obtain ⟨κ1, q1⟩ : ∃ κ1, κ1 = hk_wA (hk_wI (hk_wI κ 16 1 (n3 0)) 0 10 (-n3 5)) 68 5 (hk_A κ 68 5 + n3 1) := ⟨_, rfl⟩
    rw [← q1] at e1
    have sa : same [68] [(16, 1), (0, 10)] κ κ1 := by
      rw [q1]
      exact (((same.refl _ _ _).wI (by decide)).wI (by decide)).wA (by decide)
    have e2 := r_text_y N κ1 (by rw [sa.1 71 (by decide), k1.2.1.2.2, f])
    obtain ⟨κ2, q2⟩ : ∃ κ2, κ2 = hk_wA (hk_wI (hk_wI (hk_wI κ1 69 0 (n3 0)) 69 8 (n3 0)) 69 1 (-n3 5)) 70 5 (hk_A κ1 70 5 + n3 1) := ⟨_, rfl⟩
    rw [← q2] at e2
    have s2 : same [68, 70] [(16, 1), (0, 10), (69, 0), (69, 1), (69, 8)] κ κ2 := by
      rw [q2]
      exact ((((sa.weak (by decide) (by decide)).wI (by decide)).wI (by decide)).wI (by decide)).wA (by decide)
    have a68 : ∀ j, hk_A κ2 68 j = if j = 5 then hk_A κ 68 5 + n3 1 else hk_A κ 68 j := fun j => by rw [q2, A_row (by decide), A_wI, A_wI, A_wI, q1, A_at, A_wI, A_wI]
    have a70 : ∀ j, hk_A κ2 70 j = if j = 5 then hk_A κ 70 5 + n3 1 else hk_A κ 70 j := fun j => by rw [q2, A_at, A_wI, A_wI, A_wI, sa.1 70 (by decide)]
    refine ⟨-n3 5, κ1, κ2, e1, e2, sa.2.2.2.2.2.2.2.2, InvC.inv (n := n) (nT := nT) (nL := nL) (nS := nS) (T := T) ⟨s2.xx h1, s2.ro h2, s2.hr (by decide) (by decide) h3, s2.ttq t8 (fun x _ _ => by rw [s2.1 71 (by decide)]) h4, s2.im (by decide) (by decide) h5, ⟨?_, ?_, ?_, fun j hj => ?_⟩, taI_of (l := 0) (by omega) ?_ ?_ (fun i hi => absurd hi (by omega)), s2.wo (by decide) (by decide) h10, s2.rf (by decide) (by decide) h11, s2.ca (by decide) (by decide) h12⟩⟩
    · have u1 : hk_I κ2 0 10 = -n3 5 := by rw [q2, q1]; simp (maxSteps := 400000) (disch := omega) only [n3_l, n3_add, n3_mul, n3_sub, n3_subn, n3_lt, n3_le, n3_eq, n3_eqn, n3_neq, n3_and, n3_or, n3_shl, n3_i, n3_cl, ↓hbd_0, ↓hbd_1, ↓hbd_2, hk_ob_0, hk_rd_0, hk_rd_1, hk_rd_2, hk_al_0, hk_al_1, h3r_0, h3r_1, hk_wi_0, hk_wj_0, h3w_0, h3w_1, h3v_0, hk_kI, hk_kJ, hk_kA, hk_kB, A_eq, A_ne, A_row, B_eq, B_ne, B_row, I_eq, I_ne, J_eq, J_ne, Option.bind_some, Option.some.injEq, if_true, if_false, eq_self, true_or, or_true, true_and, and_true, false_or, or_false, not_true_eq_false, not_false_eq_true, Classical.not_not, nar_b0, nar_b1, rz_0, rz_1, rz_i, ite01, Nat.add_zero, Nat.zero_add, Nat.one_mul, mul12, reduceIte, ra_z0, Nat.reduceEqDiff, Nat.reduceLT, Nat.reduceLeDiff, Nat.reduceAdd, Nat.reduceMul, Nat.reduceSub, Nat.reduceDiv, Nat.reduceMod, Bool.false_eq_true, false_and, and_false, reduceCtorEq]
      have u2 : hk_I κ2 69 1 = -n3 5 := by rw [q2]; simp (maxSteps := 400000) (disch := omega) only [n3_l, n3_add, n3_mul, n3_sub, n3_subn, n3_lt, n3_le, n3_eq, n3_eqn, n3_neq, n3_and, n3_or, n3_shl, n3_i, n3_cl, ↓hbd_0, ↓hbd_1, ↓hbd_2, hk_ob_0, hk_rd_0, hk_rd_1, hk_rd_2, hk_al_0, hk_al_1, h3r_0, h3r_1, hk_wi_0, hk_wj_0, h3w_0, h3w_1, h3v_0, hk_kI, hk_kJ, hk_kA, hk_kB, A_eq, A_ne, A_row, B_eq, B_ne, B_row, I_eq, I_ne, J_eq, J_ne, Option.bind_some, Option.some.injEq, if_true, if_false, eq_self, true_or, or_true, true_and, and_true, false_or, or_false, not_true_eq_false, not_false_eq_true, Classical.not_not, nar_b0, nar_b1, rz_0, rz_1, rz_i, ite01, Nat.add_zero, Nat.zero_add, Nat.one_mul, mul12, reduceIte, ra_z0, Nat.reduceEqDiff, Nat.reduceLT, Nat.reduceLeDiff, Nat.reduceAdd, Nat.reduceMul, Nat.reduceSub, Nat.reduceDiv, Nat.reduceMod, Bool.false_eq_true, false_and, and_false, reduceCtorEq]
      rw [u1, u2]
    · rw [s2.2.2.1 0 11 (by decide), s2.2.2.1 69 6 (by decide)]; exact h8.2.1
    · rw [s2.2.2.1 0 12 (by decide), s2.2.2.1 69 13 (by decide)]; exact h8.2.2.1
    · rw [a68, a70]
      by_cases e : j = 5
      · rw [if_pos e, if_pos e, h8.2.2.2 5 (by omega)]
      · rw [if_neg e, if_neg e, h8.2.2.2 j hj]
    · rw [q2, q1]; simp (maxSteps := 400000) (disch := omega) only [n3_l, n3_add, n3_mul, n3_sub, n3_subn, n3_lt, n3_le, n3_eq, n3_eqn, n3_neq, n3_and, n3_or, n3_shl, n3_i, n3_cl, ↓hbd_0, ↓hbd_1, ↓hbd_2, hk_ob_0, hk_rd_0, hk_rd_1, hk_rd_2, hk_al_0, hk_al_1, h3r_0, h3r_1, hk_wi_0, hk_wj_0, h3w_0, h3w_1, h3v_0, hk_kI, hk_kJ, hk_kA, hk_kB, A_eq, A_ne, A_row, B_eq, B_ne, B_row, I_eq, I_ne, J_eq, J_ne, Option.bind_some, Option.some.injEq, if_true, if_false, eq_self, true_or, or_true, true_and, and_true, false_or, or_false, not_true_eq_false, not_false_eq_true, Classical.not_not, nar_b0, nar_b1, rz_0, rz_1, rz_i, ite01, Nat.add_zero, Nat.zero_add, Nat.one_mul, mul12, reduceIte, ra_z0, Nat.reduceEqDiff, Nat.reduceLT, Nat.reduceLeDiff, Nat.reduceAdd, Nat.reduceMul, Nat.reduceSub, Nat.reduceDiv, Nat.reduceMod, Bool.false_eq_true, false_and, and_false, reduceCtorEq]
    · rw [q2]; simp (maxSteps := 400000) (disch := omega) only [n3_l, n3_add, n3_mul, n3_sub, n3_subn, n3_lt, n3_le, n3_eq, n3_eqn, n3_neq, n3_and, n3_or, n3_shl, n3_i, n3_cl, ↓hbd_0, ↓hbd_1, ↓hbd_2, hk_ob_0, hk_rd_0, hk_rd_1, hk_rd_2, hk_al_0, hk_al_1, h3r_0, h3r_1, hk_wi_0, hk_wj_0, h3w_0, h3w_1, h3v_0, hk_kI, hk_kJ, hk_kA, hk_kB, A_eq, A_ne, A_row, B_eq, B_ne, B_row, I_eq, I_ne, J_eq, J_ne, Option.bind_some, Option.some.injEq, if_true, if_false, eq_self, true_or, or_true, true_and, and_true, false_or, or_false, not_true_eq_false, not_false_eq_true, Classical.not_not, nar_b0, nar_b1, rz_0, rz_1, rz_i, ite01, Nat.add_zero, Nat.zero_add, Nat.one_mul, mul12, reduceIte, ra_z0, Nat.reduceEqDiff, Nat.reduceLT, Nat.reduceLeDiff, Nat.reduceAdd, Nat.reduceMul, Nat.reduceSub, Nat.reduceDiv, Nat.reduceMod, Bool.false_eq_true, false_and, and_false, reduceCtorEq]
  · have ctx := c_text N κ ct (t := nT) (by omega) k1.2.1.1 h2.1 hN
    cases hq : pScheme B len 12 0 (tkS B len 0) 0 (fun _ => (0, vOne, vOne)) with
    | inl e =>
      rw [hq] at ctx
      obtain ⟨κ1, e1, sa, a1, a2, a3, a4⟩ := ctx
      have rtx := r_text N κ1 (B := B) (n := len) (t := nT) (rt.same sa (by decide) (by decide)) (h11.1.same sa (by decide) (by decide)) (by omega) (by rw [sa.1 71 (by decide)]; exact k1.2.1.2.2) hN
      rw [hq] at rtx
      obtain ⟨κ2, e2, sb, b1, b2, b3, b4⟩ := rtx
      have s2 : same [18, 19, 20, 68, 70, 75, 76, 77, 78, 79] [(0, 10), (0, 12), (16, 1), (16, 2), (16, 6), (16, 7), (16, 8), (16, 9), (16, 10), (16, 11), (69, 0), (69, 1), (69, 8), (69, 9), (69, 10), (69, 11), (69, 13), (69, 14), (69, 15), (69, 17), (69, 20), (69, 23), (69, 24)] κ κ2 := (sa.weak (by decide) (by decide)).trans (sb.weak (by decide) (by decide))
      refine ⟨-n3 6, κ1, κ2, e1, e2, sa.2.2.2.2.2.2.2.2, InvC.inv (n := n) (nT := nT) (nL := nL) (nS := nS) (T := T) ⟨s2.xx h1, s2.ro h2, s2.hr (by decide) (by decide) h3, s2.ttq t8 (fun x _ _ => by rw [s2.1 71 (by decide)]) h4, s2.im (by decide) (by decide) h5, ⟨?_, ?_, ?_, fun j hj => ?_⟩, taI_of (l := 0) (by omega) (by rw [sb.2.2.1 16 1 (by decide)]; exact a1) b1 (fun i hi => absurd hi (by omega)), s2.wo (by decide) (by decide) h10, s2.rf (by decide) (by decide) h11, s2.ca (by decide) (by decide) h12⟩⟩
      · rw [sb.2.2.1 0 10 (by decide), a3, b3]
      · rw [s2.2.2.1 0 11 (by decide), s2.2.2.1 69 6 (by decide)]; exact h8.2.1
      · rw [sb.2.2.1 0 12 (by decide), a2, b2]
      · rw [sb.1 68 (by decide), a4, b4, sa.1 70 (by decide)]
        by_cases e : j = 6
        · rw [if_pos e, if_pos e, h8.2.2.2 6 (by omega)]
        · rw [if_neg e, if_neg e, h8.2.2.2 j hj]
    | inr tt =>
      obtain ⟨nC, cc⟩ := tt
      have vo := pScheme_ok (B := B) ct.1 12 0 _ 0 _ (tkS_le (B := B) (Nat.zero_le len)).2 (fun x hx => absurd hx (by omega)) hq
      have tok : tauOk (cTau cc nC) := tauC_ok nC vo
      rw [hq] at ctx
      obtain ⟨κ1, e1, sA, sB, sI, sQ, sP, sD, sn, ss, sx, tb, a1, a2, a3, a4, a5, a6, a7, a8⟩ := ctx
      have r71 : hk_A κ1 71 = hk_A κ 71 := sA 71 (by decide)
      have rt1 : rTape κ1 B len := ⟨rt.1, by rw [sI 69 8 (by decide)]; exact rt.2.1, by rw [sA 74 (by decide)]; exact rt.2.2⟩
      have wd1 : rWd κ1 := by
        unfold rWd
        rw [sB 80 (by decide), sB 81 (by decide)]
        exact h11.1
      have rtx := r_text N κ1 (B := B) (n := len) (t := nT) rt1 wd1 (by omega) (by rw [r71]; exact k1.2.1.2.2) hN
      rw [hq] at rtx
      obtain ⟨κ2, e2, sb, b1, b2, b3, b4, b5, b6⟩ := rtx
      have A2 : ∀ k, k ∉ [18, 19, 20, 25, 71, 75, 76, 77, 78, 79] → hk_A κ2 k = hk_A κ k := fun k hk => by
        rw [sb.1 k (fun z => hk (by revert z; simp; omega)), sA k (fun z => hk (by revert z; simp; omega))]
      have I2 : ∀ k j, (k, j) ∉ cFu → (k, j) ∉ rFl → hk_I κ2 k j = hk_I κ k j := fun k j g1 g2 => by rw [sb.2.2.1 k j g2, sI k j g1]
      have Q2 : ∀ k i, hk_Q κ2 k i = if k = 6 ∧ i = nT then some (hk_n κ) else hk_Q κ k i := fun k i => by rw [sb.2.2.2.1]; exact sQ k i
      have P2 : hk_P κ2 = hk_P κ := by rw [sb.2.2.2.2.1, sP]
      have D2 : hk_D κ2 = hk_D κ1 := sb.2.2.2.2.2.1
      have n2 : hk_n κ2 = hk_n κ + 4 := by rw [sb.2.2.2.2.2.2.1, sn]
      have s2 : hk_s κ2 ≤ hk_s κ + 440 := by rw [sb.2.2.2.2.2.2.2.1]; exact ss
      have x2 : hk_x κ2 = hk_x κ := by rw [sb.2.2.2.2.2.2.2.2, sx]
      have pl : pL κ2 = pL κ := by
        show [hk_P κ2 8, hk_P κ2 9, hk_P κ2 10, hk_P κ2 11] = [hk_P κ 8, hk_P κ 9, hk_P κ 10, hk_P κ 11]
        rw [P2]
      have Dold : ∀ k, k < hk_n κ → hk_D κ2 k = hk_D κ k := fun k hk => by rw [D2, sD k hk]
      have q15 : ∀ i, hk_Q κ2 15 i = hk_Q κ 15 i := fun i => by rw [Q2, if_neg (fun z => absurd z.1 (by decide))]
      have e2' : ∀ k, k ∈ pL κ2 → k ∈ pL κ ∨ hk_n κ ≤ k := fun k z => Or.inl (by rw [← pl]; exact z)
      have e3' : ∀ i a, i < 2 → hk_Q κ2 15 i = some a → hk_Q κ 15 i = some a ∨ hk_n κ ≤ a := fun i a _ e => Or.inl (by rw [← q15]; exact e)
      have mo : ∀ y, y ≠ 481 → ¬ (760 + 900 * nT ≤ y ∧ y < 760 + 900 * (nT + 1)) → hk_A κ2 71 y = hk_A κ 71 y := fun y g1 g2 => by rw [b5 y g1 g2, r71]
      have iI : ∀ j, j ≠ 14 → hk_I κ2 1 j = hk_I κ 1 j := fun j hj => I2 1 j (fun z => hj (cFu1 _ z rfl)) (fun z => rFl1 _ z rfl)
      have roomL : ∀ k, k ∈ pL κ → k < hk_n κ := by
        obtain ⟨r1, r2, z, r3, r4⟩ := h2
        exact r3.2
      have own : ∀ k, hk_n κ ≤ k → k < hk_n κ + 4 → tOwn κ2 k := fun k g1 g2 => by
        refine ⟨by have := h2.1; omega, by omega, fun z => ?_, fun i a hi e z => ?_⟩
        · rw [pl] at z
          have := roomL k z
          omega
        · rw [q15] at e
          have im : imOk κ i := by
            by_cases e0 : i = 0
            · rw [e0]; exact h5.1
            · rw [show i = 1 by omega]; exact h5.2.1
          rcases im with ⟨a1, -⟩ | ⟨a', I, R, Q, n', nT', nL', nS', T', a1, -, -, a4', -⟩
          · rw [a1] at e; cases e
          · rw [a1] at e
            cases e
            omega
      have ow : ∀ k, tOwn κ k → hk_D κ2 k = hk_D κ k := fun k hk => Dold k hk.2.1
      have nle : hk_n κ ≤ hk_n κ2 := by omega
      have c5' : ∀ k, k ∉ cFu ∧ k ∉ rFl → hk_I κ2 k.1 k.2 = hk_I κ k.1 k.2 := fun k hk => I2 k.1 k.2 hk.1 hk.2
      refine ⟨n3 nT, κ1, κ2, e1, e2, sx, InvC.inv (n := n) (nT := nT + 1) (nL := nL) (nS := nS) (T := fun t => if t = nT then cTau cc nC else T t) ⟨by rw [x2]; exact h1, ?_, HK.hr ⟨⟨?_, ⟨?_, by omega, b4⟩, ?_, ?_⟩, ?_, ?_, ?_, ?_, ?_, ?_, ?_⟩, ⟨fun t ht => ?_, fun t q ht e => ?_⟩, ⟨?_, ?_, ?_⟩, ⟨?_, ?_, ?_, ?_⟩, taI_of (l := 0) (by omega) (by rw [sb.2.2.1 16 1 (by decide)]; exact a1) b1 (fun i hi => absurd hi (by omega)), ?_, ?_, ⟨?_, ?_, Or.inl (by rw [sb.2.2.1 23 9 (by decide)]; exact a5), Or.inl (by rw [sb.2.2.1 23 10 (by decide)]; exact a6), ?_, ?_⟩⟩⟩
      · obtain ⟨r1, r2, z, r3, r4⟩ := h2
        refine ⟨by omega, by omega, z, ⟨r3.1.grow P2 nle Dold, fun k hk => ?_⟩, roSt s2 (by decide) r4⟩
        rw [pl] at hk
        have := roomL k hk
        omega
      · rw [iI 13 (by omega), mo 480 (by omega) (by omega)]; exact k1.1
      · rw [sb.2.2.1 1 14 (by decide)]; exact a4
      · rw [iI 15 (by omega), mo 482 (by omega) (by omega)]; exact k1.2.2.1
      · rw [iI 16 (by omega), mo 483 (by omega) (by omega)]; exact k1.2.2.2
      · rcases k3.2.1.r (I' := hk_I κ2 1) (M' := hk_A κ2 71) (fun j _ _ => iI j (by omega)) (fun x _ _ => mo x (by omega) (by omega)) with z | ⟨fi, sc, y, z1, z2, z⟩
        · exact Or.inl z
        · exact Or.inr ⟨fi, sc, y, by omega, by omega, z⟩
      · exact k3.2.2.1.r (A2 2 (by decide)) (fun x hx => mo x (by have := k1.1.2.1; omega) (by have := k1.1.2.1; omega))
      · exact k3.2.2.2.1.r (A2 3 (by decide)) (A2 4 (by decide)) (A2 5 (by decide)) (fun x _ _ => mo x (by omega) (by omega))
      · exact k3.2.2.2.2.1.r (A2 12 (by decide)) (A2 13 (by decide)) (A2 14 (by decide)) (fun x _ _ => mo x (by omega) (by omega))
      · exact k3.2.2.2.2.2.1.r k1.2.2.1.2.1 (A2 7 (by decide)) (A2 8 (by decide)) (fun x _ _ => mo x (by omega) (by omega))
      · exact k3.2.2.2.2.2.2.1.r k1.2.2.2.2.1 (A2 11 (by decide)) (fun x _ _ => mo x (by omega) (by omega))
      · exact k3.2.2.2.2.2.2.2.r (A2 9 (by decide)) (A2 10 (by decide)) (fun x _ _ => mo x (by omega) (by omega))
      · by_cases e : t = nT
        · refine ⟨hk_n κ, by rw [Q2, if_pos ⟨rfl, e⟩], ?_, ?_, ?_⟩
          · dsimp only
            rw [if_pos e]
            exact ⟨_, _, _, by rw [D2]; exact tb, own _ (by omega) (by omega), own _ (by omega) (by omega), own _ (by omega) (by omega), own _ (by omega) (by omega)⟩
          · dsimp only
            rw [if_pos e]; exact tok
          · dsimp only
            rw [if_pos e, e]; exact b6
        · obtain ⟨q, g1, g2, g3, g4⟩ := h4.1 t (by omega)
          dsimp only
          rw [if_neg e]
          refine ⟨q, by rw [Q2, if_neg (fun z => e z.2)]; exact g1, g2.cg nle e2' e3' ow, g3, g4.cg (fun i hi => mo _ (by omega) (by omega))⟩
      · rw [Q2] at e
        by_cases et : t = nT
        · rw [if_pos ⟨rfl, et⟩] at e
          cases e
          exact ⟨cTau cc nC, _, _, _, by rw [D2]; exact tb, own _ (by omega) (by omega), own _ (by omega) (by omega), own _ (by omega) (by omega), own _ (by omega) (by omega)⟩
        · rw [if_neg (fun z => et z.2)] at e
          obtain ⟨τ, g⟩ := h4.2 t q ht e
          exact ⟨τ, g.cg nle e2' e3' ow⟩
      · exact h5.1.cg (by omega) (q15 0) nle e2' e3' ow (fun a k _ _ _ g _ => Dold k g) (fun x _ => by rw [A2 72 (by decide)]) (by rw [A2 73 (by decide)])
      · exact h5.2.1.cg (by omega) (q15 1) nle e2' e3' ow (fun a k _ _ _ g _ => Dold k g) (fun x _ => by rw [A2 72 (by decide)]) (by rw [A2 73 (by decide)])
      · intro a b
        rw [q15, q15]
        exact h5.2.2 a b
      · rw [sb.2.2.1 0 10 (by decide), a3, b3]
      · rw [I2 0 11 (by decide) (by decide), I2 69 6 (by decide) (by decide)]; exact h8.2.1
      · rw [sb.2.2.1 0 12 (by decide), a2, b2]
      · rw [A2 68 (by decide), A2 70 (by decide)]; exact h8.2.2.2
      · unfold woI
        rw [I2 66 1 (by decide) (by decide), I2 69 56 (by decide) (by decide), A2 67 (by decide), A2 100 (by decide)]
        exact h10
      · obtain ⟨w1, u, w2, w3, w4⟩ := h11
        refine ⟨wd1.same sb (by decide) (by decide), u, by omega, by rw [I2 69 38 (by decide) (by decide)]; exact w3, by rw [A2 86 (by decide)]; exact w4⟩
      · intro t' b' ht hb ne
        have n40 := k1.1.2.1
        rw [sb.1 25 (by decide)] at ne
        by_cases e : t' = nT
        · subst e
          exact absurd (a7 b' (by omega)) ne
        · rw [a8 _ (fun b'' g z => by omega)] at ne
          show hk_A κ2 24 (t' * 40 + b') = seatI (seatX (if t' = nT then cTau cc nC else T t') (fx (hk_A κ2 2) b'))
          rw [if_neg e, A2 24 (by decide), A2 2 (by decide)]
          exact h12.1 t' b' (by omega) hb ne
      · rw [A2 27 (by decide)]
        exact h12.2.1
      · exact ca5P.cg (κ := κ) h12.2.2.2.2.1 (fun k hk => A2 k (by
          have : ∀ k ∈ [2, 7, 59, 60], k ∉ [18, 19, 20, 25, 71, 75, 76, 77, 78, 79] := by decide
          exact this k hk)) (fun q hq => c5' q (by
          have : ∀ q ∈ [(40, 12), (40, 15), (40, 16), (40, 17)], q ∉ cFu ∧ q ∉ rFl := by decide
          exact this q hq))
      · rw [I2 61 4 (by decide) (by decide), A2 11 (by decide), A2 2 (by decide)]
        rcases h12.2.2.2.2.2 with z | ⟨z1, z2⟩
        · exact Or.inl z
        · exact Or.inr ⟨z1, z2.cg (I2 61 6 (by decide) (by decide)) (A2 65 (by decide))⟩
end
