/-! best: the class, all pairs; the call -/
theorem fo_zero {σ : Type} (st : Nat → σ → σ) (i : Nat) (s : σ) : fo st i 0 s = s := rfl
section
variable (N : Nat) (κ : hk_T)
/-- the seats that are right, kept -/
theorem c_rights {n nT : Nat} {T : Nat → tauT} (h : cH κ n nT T) (hN : 100000 < N) :
    ∃ κ', nX1_weighAllPairs_14 N N 23 (n3 0) (hp κ) = nX1_weighAllPairs_104 N N 23 (n3 0) (hp κ') ∧ same [22, 24, 25, 26] [] κ κ' ∧ cH κ' n nT T ∧ ∀ t b, t < nT → b < n → hk_A κ' 26 (t * 40 + b) = seatI (rsO (hk_A κ 3) (hk_A κ 5) (hk_A κ 2) b (seatX (T t) (fx (hk_A κ 2) b))) := by
  obtain ⟨h1, h2, h3, h4, h5, h6, h7, h8⟩ := h
  obtain ⟨m', s', e, i1, i2, i3⟩ := lpx (fun m t (r : hk_T) => nX1_weighAllPairs_14 N m 23 (n3 t) (hp r)) nT (fun t r => same [22, 24, 25, 26] [] κ r ∧ cA r (hk_A κ 2) T nT n ∧ ∀ t' b, t' < t → b < n → hk_A r 26 (t' * 40 + b) = seatI (rsO (hk_A κ 3) (hk_A κ 5) (hk_A κ 2) b (seatX (T t') (fx (hk_A κ 2) b)))) (by
    rintro m t r ht ⟨i1, i2, i3⟩
    have r14 : hk_I r 1 14 = n3 nT := by rw [i1.2.2.1 1 14 (by decide)]; exact h3
    obtain ⟨m2, s2, e2, j1, j2, j3'⟩ := lpx (fun m' b (r' : hk_T) => nX1_weighAllPairs_27 N (nX1_weighAllPairs_14 N m) m' 23 (n3 t) (n3 b) (hp r')) n (fun b r' => same [22, 24, 25, 26] [] κ r' ∧ cA r' (hk_A κ 2) T nT n ∧ ∀ t' b', (t' < t ∧ b' < n) ∨ (t' = t ∧ b' < b) → hk_A r' 26 (t' * 40 + b') = seatI (rsO (hk_A κ 3) (hk_A κ 5) (hk_A κ 2) b' (seatX (T t') (fx (hk_A κ 2) b')))) (by
      rintro m' b r' hb ⟨j1, j2, j3'⟩
      have q13 : hk_I r' 1 13 = n3 n := by rw [j1.2.2.1 1 13 (by decide)]; exact h1
      have e2 : hk_A r' 2 = hk_A κ 2 := j1.1 2 (by decide)
      obtain ⟨q, q1, q2, q3⟩ := (h5.mono j1.2.2.2.1 j1.2.2.2.2.2.1) t ht
      obtain ⟨k, f1, f2, f3, f4⟩ := c_seatOf N r' (t := t) (b := b) (q := q) (τ := T t) (by omega) (by omega) hN q1 q2 q3 (by rw [e2]; exact h6 b hb) (by rw [e2]; exact j2 t b ht hb)
      rw [e2] at f1 f4
      have hs5 : ∀ s, seatX (T t) (fx (hk_A κ 2) b) = some s → s < 5346 := fun s => seatX_lt
      have k2 : hk_A k 2 = hk_A κ 2 := by rw [f2.1 2 (by decide)]; exact e2
      have k3 : hk_A k 3 = hk_A κ 3 := by rw [f2.1 3 (by decide), j1.1 3 (by decide)]
      have k5 : hk_A k 5 = hk_A κ 5 := by rw [f2.1 5 (by decide), j1.1 5 (by decide)]
      have cA' : ∀ v, cA (hk_wA k 26 (t * 40 + b) v) (hk_A κ 2) T nT n := by
        intro v t' b' g1 g2 g3
        rw [A_ne (Or.inl (by decide))] at g3 ⊢
        by_cases ei : t' * 40 + b' = t * 40 + b
        · have e1 : t' = t := by omega
          have e2 : b' = b := by omega
          subst e1; subst e2; exact f4
        · rw [(f3 _ ei).1]
          rw [(f3 _ ei).2] at g3
          exact j2 t' b' g1 g2 g3
      have rows : ∀ v, v = seatI (rsO (hk_A κ 3) (hk_A κ 5) (hk_A κ 2) b (seatX (T t) (fx (hk_A κ 2) b))) → ∀ t' b', (t' < t ∧ b' < n) ∨ (t' = t ∧ b' < b + 1) → hk_A (hk_wA k 26 (t * 40 + b) v) 26 (t' * 40 + b') = seatI (rsO (hk_A κ 3) (hk_A κ 5) (hk_A κ 2) b' (seatX (T t') (fx (hk_A κ 2) b'))) := by
        intro v hv t' b' g
        by_cases ei : t' * 40 + b' = t * 40 + b
        · have e1 : t' = t := by omega
          have e2 : b' = b := by omega
          rw [A_eq ei, e1, e2]; exact hv
        · rw [A_ne (Or.inr ei), f2.1 26 (by decide)]
          exact j3' t' b' (by omega)
      have sm : ∀ v, same [22, 24, 25, 26] [] κ (hk_wA k 26 (t * 40 + b) v) := fun v => (j1.trans (f2.weak (by decide) (by decide))).wA (by decide)
      generalize hq : seatX (T t) (fx (hk_A κ 2) b) = so at f1 hs5 rows
      cases so with
      | none =>
        have es : seatI none = -n3 1 := rfl
        rw [es] at f1
        refine ⟨hk_wA k 26 (t * 40 + b) (-n3 1), ?_, sm _, cA' _, rows _ rfl⟩
        rw [nX1_weighAllPairs_27]
        simp (maxSteps := 400000) (disch := omega) only [n3_l, n3_add, n3_mul, n3_sub, n3_subn, n3_lt, n3_le, n3_eq, n3_eqn, n3_neq, n3_and, n3_or, n3_shl, n3_i, n3_cl, ↓hbd_0, ↓hbd_1, ↓hbd_2, hk_ob_0, hk_rd_0, hk_rd_1, hk_rd_2, hk_al_0, hk_al_1, h3r_0, h3r_1, hk_wi_0, hk_wj_0, h3w_0, h3w_1, h3v_0, hk_kI, hk_kJ, hk_kA, hk_kB, A_eq, A_ne, A_row, B_eq, B_ne, B_row, I_eq, I_ne, J_eq, J_ne, Option.bind_some, Option.some.injEq, if_true, if_false, eq_self, true_or, or_true, true_and, and_true, false_or, or_false, not_true_eq_false, not_false_eq_true, Classical.not_not, nar_b0, nar_b1, rz_0, rz_1, rz_i, ite01, Nat.add_zero, Nat.zero_add, Nat.one_mul, mul12, reduceIte, ra_z0, Nat.reduceEqDiff, Nat.reduceLT, Nat.reduceLeDiff, Nat.reduceAdd, Nat.reduceMul, Nat.reduceSub, Nat.reduceDiv, Nat.reduceMod, Bool.false_eq_true, false_and, and_false, reduceCtorEq, q13, hb, f1, nX1_weighAllPairs_66, nX1_weighAllPairs_67, nX1_weighAllPairs_89]
      | some s =>
        have es : seatI (some s) = n3 s := rfl
        have s5 := hs5 s rfl
        rw [es] at f1
        have hn1 : ¬ n3 s = -n3 1 := fun z => (n3_eqn (by omega) (by omega) (by omega)).mp z
        have ir := h_isRight N k (b := b) (s := s) (by omega) s5
        rw [k2, k3, k5] at ir
        have er := @rtB_iff (hk_A κ 3) (hk_A κ 5) (hk_A κ 2) b s
        by_cases c : rtB (hk_A κ 3) (hk_A κ 5) (hk_A κ 2) b s = true
        · rw [if_pos (er.mp c)] at ir
          refine ⟨hk_wA k 26 (t * 40 + b) (n3 s), ?_, sm _, cA' _, rows _ (by unfold rsO; dsimp only; rw [if_pos c]; rfl)⟩
          rw [nX1_weighAllPairs_27]
          simp (maxSteps := 400000) (disch := omega) only [n3_l, n3_add, n3_mul, n3_sub, n3_subn, n3_lt, n3_le, n3_eq, n3_eqn, n3_neq, n3_and, n3_or, n3_shl, n3_i, n3_cl, ↓hbd_0, ↓hbd_1, ↓hbd_2, hk_ob_0, hk_rd_0, hk_rd_1, hk_rd_2, hk_al_0, hk_al_1, h3r_0, h3r_1, hk_wi_0, hk_wj_0, h3w_0, h3w_1, h3v_0, hk_kI, hk_kJ, hk_kA, hk_kB, A_eq, A_ne, A_row, B_eq, B_ne, B_row, I_eq, I_ne, J_eq, J_ne, Option.bind_some, Option.some.injEq, if_true, if_false, eq_self, true_or, or_true, true_and, and_true, false_or, or_false, not_true_eq_false, not_false_eq_true, Classical.not_not, nar_b0, nar_b1, rz_0, rz_1, rz_i, ite01, Nat.add_zero, Nat.zero_add, Nat.one_mul, mul12, reduceIte, ra_z0, Nat.reduceEqDiff, Nat.reduceLT, Nat.reduceLeDiff, Nat.reduceAdd, Nat.reduceMul, Nat.reduceSub, Nat.reduceDiv, Nat.reduceMod, Bool.false_eq_true, false_and, and_false, reduceCtorEq, q13, hb, f1, hn1, ir, nX1_weighAllPairs_66, nX1_weighAllPairs_67, nX1_weighAllPairs_89]
        · rw [if_neg (fun z => c (er.mpr z))] at ir
          refine ⟨hk_wA k 26 (t * 40 + b) (-n3 1), ?_, sm _, cA' _, rows _ (by unfold rsO; dsimp only; rw [if_neg c]; rfl)⟩
          rw [nX1_weighAllPairs_27]
          simp (maxSteps := 400000) (disch := omega) only [n3_l, n3_add, n3_mul, n3_sub, n3_subn, n3_lt, n3_le, n3_eq, n3_eqn, n3_neq, n3_and, n3_or, n3_shl, n3_i, n3_cl, ↓hbd_0, ↓hbd_1, ↓hbd_2, hk_ob_0, hk_rd_0, hk_rd_1, hk_rd_2, hk_al_0, hk_al_1, h3r_0, h3r_1, hk_wi_0, hk_wj_0, h3w_0, h3w_1, h3v_0, hk_kI, hk_kJ, hk_kA, hk_kB, A_eq, A_ne, A_row, B_eq, B_ne, B_row, I_eq, I_ne, J_eq, J_ne, Option.bind_some, Option.some.injEq, if_true, if_false, eq_self, true_or, or_true, true_and, and_true, false_or, or_false, not_true_eq_false, not_false_eq_true, Classical.not_not, nar_b0, nar_b1, rz_0, rz_1, rz_i, ite01, Nat.add_zero, Nat.zero_add, Nat.one_mul, mul12, reduceIte, ra_z0, Nat.reduceEqDiff, Nat.reduceLT, Nat.reduceLeDiff, Nat.reduceAdd, Nat.reduceMul, Nat.reduceSub, Nat.reduceDiv, Nat.reduceMod, Bool.false_eq_true, false_and, and_false, reduceCtorEq, q13, hb, f1, hn1, ir, nX1_weighAllPairs_66, nX1_weighAllPairs_67, nX1_weighAllPairs_89]) n 0 N r (by omega) (by omega) ⟨i1, i2, fun t' b' g => by
        rcases g with g | g
        · exact i3 t' b' g.1 g.2
        · omega⟩
    have e3 : nX1_weighAllPairs_27 N (nX1_weighAllPairs_14 N m) N 23 (n3 t) (n3 0) (hp r) = nX1_weighAllPairs_27 N (nX1_weighAllPairs_14 N m) (m2 + 1) 23 (n3 t) (n3 n) (hp s2) := e2
    have q13 : hk_I s2 1 13 = n3 n := by rw [j1.2.2.1 1 13 (by decide)]; exact h1
    refine ⟨s2, ?_, j1, j2, ?_⟩
    · rw [nX1_weighAllPairs_14]
      simp (maxSteps := 400000) (disch := omega) only [n3_l, n3_add, n3_mul, n3_sub, n3_subn, n3_lt, n3_le, n3_eq, n3_eqn, n3_neq, n3_and, n3_or, n3_shl, n3_i, n3_cl, ↓hbd_0, ↓hbd_1, ↓hbd_2, hk_ob_0, hk_rd_0, hk_rd_1, hk_rd_2, hk_al_0, hk_al_1, h3r_0, h3r_1, hk_wi_0, hk_wj_0, h3w_0, h3w_1, h3v_0, hk_kI, hk_kJ, hk_kA, hk_kB, A_eq, A_ne, A_row, B_eq, B_ne, B_row, I_eq, I_ne, J_eq, J_ne, Option.bind_some, Option.some.injEq, if_true, if_false, eq_self, true_or, or_true, true_and, and_true, false_or, or_false, not_true_eq_false, not_false_eq_true, Classical.not_not, nar_b0, nar_b1, rz_0, rz_1, rz_i, ite01, Nat.add_zero, Nat.zero_add, Nat.one_mul, mul12, reduceIte, ra_z0, Nat.reduceEqDiff, Nat.reduceLT, Nat.reduceLeDiff, Nat.reduceAdd, Nat.reduceMul, Nat.reduceSub, Nat.reduceDiv, Nat.reduceMod, Bool.false_eq_true, false_and, and_false, reduceCtorEq, r14, ht]
      rw [e3, nX1_weighAllPairs_27]
      simp (maxSteps := 400000) (disch := omega) only [n3_l, n3_add, n3_mul, n3_sub, n3_subn, n3_lt, n3_le, n3_eq, n3_eqn, n3_neq, n3_and, n3_or, n3_shl, n3_i, n3_cl, ↓hbd_0, ↓hbd_1, ↓hbd_2, hk_ob_0, hk_rd_0, hk_rd_1, hk_rd_2, hk_al_0, hk_al_1, h3r_0, h3r_1, hk_wi_0, hk_wj_0, h3w_0, h3w_1, h3v_0, hk_kI, hk_kJ, hk_kA, hk_kB, A_eq, A_ne, A_row, B_eq, B_ne, B_row, I_eq, I_ne, J_eq, J_ne, Option.bind_some, Option.some.injEq, if_true, if_false, eq_self, true_or, or_true, true_and, and_true, false_or, or_false, not_true_eq_false, not_false_eq_true, Classical.not_not, nar_b0, nar_b1, rz_0, rz_1, rz_i, ite01, Nat.add_zero, Nat.zero_add, Nat.one_mul, mul12, reduceIte, ra_z0, Nat.reduceEqDiff, Nat.reduceLT, Nat.reduceLeDiff, Nat.reduceAdd, Nat.reduceMul, Nat.reduceSub, Nat.reduceDiv, Nat.reduceMod, Bool.false_eq_true, false_and, and_false, reduceCtorEq, q13, Nat.lt_irrefl]
    · intro t' b g1 g2
      by_cases et : t' = t
      · exact j3' t' b (Or.inr ⟨et, g2⟩)
      · exact j3' t' b (Or.inl ⟨by omega, g2⟩)) nT 0 N κ (by omega) (by omega) ⟨same.refl _ _ _, h7, fun t' b g => by omega⟩
  have e0 : nX1_weighAllPairs_14 N N 23 (n3 0) (hp κ) = nX1_weighAllPairs_14 N (m' + 1) 23 (n3 nT) (hp s') := e
  have r14 : hk_I s' 1 14 = n3 nT := by rw [i1.2.2.1 1 14 (by decide)]; exact h3
  refine ⟨s', ?_, i1, ⟨by rw [i1.2.2.1 1 13 (by decide)]; exact h1, h2, r14, h4, h5.mono i1.2.2.2.1 i1.2.2.2.2.2.1, by rw [i1.1 2 (by decide)]; exact h6, by rw [i1.1 2 (by decide)]; exact i2, by rw [i1.1 27 (by decide)]; exact h8⟩, i3⟩
  rw [e0, nX1_weighAllPairs_14]
  simp (maxSteps := 400000) (disch := omega) only [n3_l, n3_add, n3_mul, n3_sub, n3_subn, n3_lt, n3_le, n3_eq, n3_eqn, n3_neq, n3_and, n3_or, n3_shl, n3_i, n3_cl, ↓hbd_0, ↓hbd_1, ↓hbd_2, hk_ob_0, hk_rd_0, hk_rd_1, hk_rd_2, hk_al_0, hk_al_1, h3r_0, h3r_1, hk_wi_0, hk_wj_0, h3w_0, h3w_1, h3v_0, hk_kI, hk_kJ, hk_kA, hk_kB, A_eq, A_ne, A_row, B_eq, B_ne, B_row, I_eq, I_ne, J_eq, J_ne, Option.bind_some, Option.some.injEq, if_true, if_false, eq_self, true_or, or_true, true_and, and_true, false_or, or_false, not_true_eq_false, not_false_eq_true, Classical.not_not, nar_b0, nar_b1, rz_0, rz_1, rz_i, ite01, Nat.add_zero, Nat.zero_add, Nat.one_mul, mul12, reduceIte, ra_z0, Nat.reduceEqDiff, Nat.reduceLT, Nat.reduceLeDiff, Nat.reduceAdd, Nat.reduceMul, Nat.reduceSub, Nat.reduceDiv, Nat.reduceMod, Bool.false_eq_true, false_and, and_false, reduceCtorEq, r14, Nat.lt_irrefl]
set_option maxRecDepth 100000 in
theorem c_weighAllPairs {n nT : Nat} {T : Nat → tauT} {R : Nat → Nat → Option Nat} {c : Nat → Nat} (h : cH κ n nT T) (hR : ∀ t b, t < nT → b < n → rsO (hk_A κ 3) (hk_A κ 5) (hk_A κ 2) b (seatX (T t) (fx (hk_A κ 2) b)) = R t b) (hs : ∀ t b s, R t b = some s → s < 5346) (hc' : ∀ b, b < n → hk_A κ 2 (12 * b + 2) = n3 (c b)) (hc2 : ∀ b, c b ≤ 199) (hN : 100000 < N) :
    ∃ κ', fX1_weighAllPairs N 23 (hp κ) = some (hp κ') ∧ same [22, 24, 25, 26, 27, 28, 29] [] κ κ' ∧ cH κ' n nT T ∧ bR κ' (bestF R c n nT) := by
  have h' := h
  obtain ⟨h1, h2, h3, h4, h5, h6, h7, h8⟩ := h
  obtain ⟨κ1, e1, s1, v1⟩ := f_fill3 N κ (k := 29) (n := 5) rfl (by omega) (by omega) (-n3 1)
  obtain ⟨κ2, p, e2, s2, v2, hl⟩ := c_sortByYears N κ1 (n := n) (c := c) (by rw [s1.2.2.1 1 13 (by decide)]; exact h1) h2 (by rw [s1.1 2 (by decide)]; exact hc') hc2 (by omega)
  have s12 : same [28, 29] [] κ κ2 := (s1.weak (by decide) (by decide)).trans (s2.weak (by decide) (by decide))
  have hH2 : cH κ2 n nT T := by
    refine ⟨by rw [s12.2.2.1 1 13 (by decide)]; exact h1, h2, by rw [s12.2.2.1 1 14 (by decide)]; exact h3, h4, h5.mono s12.2.2.2.1 s12.2.2.2.2.2.1, by rw [s12.1 2 (by decide)]; exact h6, ?_, by rw [s12.1 27 (by decide)]; exact h8⟩
    rw [s12.1 2 (by decide)]
    intro t b g1 g2 g3
    rw [s12.1 24 (by decide)]
    rw [s12.1 25 (by decide)] at g3
    exact h7 t b g1 g2 g3
  obtain ⟨κ3, e3, s3, hH3, v3⟩ := c_rights N κ2 hH2 hN
  rw [s12.1 2 (by decide), s12.1 3 (by decide), s12.1 5 (by decide)] at v3
  have v3' : ∀ t b, t < nT → b < n → hk_A κ3 26 (t * 40 + b) = seatI (R t b) := fun t b g1 g2 => by rw [v3 t b g1 g2, hR t b g1 g2]
  have b0 : bR κ3 none := by
    intro j hj
    rw [s3.1 29 (by decide), s2.1 29 (by decide), v1 j, if_pos hj]
  have p3 : ∀ i, i < n → hk_A κ3 28 i = n3 (p i) := by rw [s3.1 28 (by decide)]; exact v2
  have c3 : ∀ b, b < n → hk_A κ3 2 (12 * b + 2) = n3 (c b) := by rw [s3.1 2 (by decide), s12.1 2 (by decide)]; exact hc'
  obtain ⟨m', s', e, i1, i2, i3, i4⟩ := lpx (fun m a (r : hk_T) => nX1_weighAllPairs_104 N m 23 (n3 a) (hp r)) nT (fun a r => same [27, 29] [] κ3 r ∧ (∀ s, s < 5346 → hk_A r 27 s = n3 0) ∧ bR r (fo (rowF R c n nT) 0 a none) ∧ oOk (fo (rowF R c n nT) 0 a none)) (by
    rintro m a r ha ⟨i1, i2, i3, i4⟩
    have r14 : hk_I r 1 14 = n3 nT := by rw [i1.2.2.1 1 14 (by decide)]; exact hH3.2.2.1
    obtain ⟨m2, s2', e2', j1, j2, j3', j4⟩ := lpx (fun m' b (r' : hk_T) => nX1_weighAllPairs_117 N (nX1_weighAllPairs_104 N m) m' 23 (n3 a) (n3 b) (hp r')) nT (fun b r' => same [27, 29] [] κ3 r' ∧ (∀ s, s < 5346 → hk_A r' 27 s = n3 0) ∧ bR r' (fo (pairF R c n a) 0 b (fo (rowF R c n nT) 0 a none)) ∧ oOk (fo (pairF R c n a) 0 b (fo (rowF R c n nT) 0 a none))) (by
      rintro m' b r' hb ⟨j1, j2, j3', j4⟩
      have q14 : hk_I r' 1 14 = n3 nT := by rw [j1.2.2.1 1 14 (by decide)]; exact hH3.2.2.1
      obtain ⟨r1, f1, f2, f3, f4, f5⟩ := c_weighPair N r' (R := R) (c := c) (p := p) (n := n) (fi := a) (sc := b) (by rw [j1.2.2.1 1 13 (by decide)]; exact hH3.1) h2 (by omega) (by omega) (by rw [j1.1 26 (by decide)]; exact fun b' g => v3' a b' ha g) (by rw [j1.1 26 (by decide)]; exact fun b' g => v3' b b' hb g) hs (by rw [j1.1 2 (by decide)]; exact c3) hc2 (by rw [j1.1 28 (by decide)]; exact p3) hl j2 j3' j4 (by omega)
      refine ⟨r1, ?_, j1.trans f2, f3, ?_, ?_⟩
      · rw [nX1_weighAllPairs_117]
        simp (maxSteps := 400000) (disch := omega) only [n3_l, n3_add, n3_mul, n3_sub, n3_subn, n3_lt, n3_le, n3_eq, n3_eqn, n3_neq, n3_and, n3_or, n3_shl, n3_i, n3_cl, ↓hbd_0, ↓hbd_1, ↓hbd_2, hk_ob_0, hk_rd_0, hk_rd_1, hk_rd_2, hk_al_0, hk_al_1, h3r_0, h3r_1, hk_wi_0, hk_wj_0, h3w_0, h3w_1, h3v_0, hk_kI, hk_kJ, hk_kA, hk_kB, A_eq, A_ne, A_row, B_eq, B_ne, B_row, I_eq, I_ne, J_eq, J_ne, Option.bind_some, Option.some.injEq, if_true, if_false, eq_self, true_or, or_true, true_and, and_true, false_or, or_false, not_true_eq_false, not_false_eq_true, Classical.not_not, nar_b0, nar_b1, rz_0, rz_1, rz_i, ite01, Nat.add_zero, Nat.zero_add, Nat.one_mul, mul12, reduceIte, ra_z0, Nat.reduceEqDiff, Nat.reduceLT, Nat.reduceLeDiff, Nat.reduceAdd, Nat.reduceMul, Nat.reduceSub, Nat.reduceDiv, Nat.reduceMod, Bool.false_eq_true, false_and, and_false, reduceCtorEq, q14, hb, f1]
      · rw [fo_last, Nat.zero_add]; exact f4
      · rw [fo_last, Nat.zero_add]; exact f5) nT 0 N r (by omega) (by omega) ⟨i1, i2, by rw [fo_zero]; exact i3, by rw [fo_zero]; exact i4⟩
    have e3' : nX1_weighAllPairs_117 N (nX1_weighAllPairs_104 N m) N 23 (n3 a) (n3 0) (hp r) = nX1_weighAllPairs_117 N (nX1_weighAllPairs_104 N m) (m2 + 1) 23 (n3 a) (n3 nT) (hp s2') := e2'
    have q14 : hk_I s2' 1 14 = n3 nT := by rw [j1.2.2.1 1 14 (by decide)]; exact hH3.2.2.1
    refine ⟨s2', ?_, j1, j2, ?_, ?_⟩
    · rw [nX1_weighAllPairs_104]
      simp (maxSteps := 400000) (disch := omega) only [n3_l, n3_add, n3_mul, n3_sub, n3_subn, n3_lt, n3_le, n3_eq, n3_eqn, n3_neq, n3_and, n3_or, n3_shl, n3_i, n3_cl, ↓hbd_0, ↓hbd_1, ↓hbd_2, hk_ob_0, hk_rd_0, hk_rd_1, hk_rd_2, hk_al_0, hk_al_1, h3r_0, h3r_1, hk_wi_0, hk_wj_0, h3w_0, h3w_1, h3v_0, hk_kI, hk_kJ, hk_kA, hk_kB, A_eq, A_ne, A_row, B_eq, B_ne, B_row, I_eq, I_ne, J_eq, J_ne, Option.bind_some, Option.some.injEq, if_true, if_false, eq_self, true_or, or_true, true_and, and_true, false_or, or_false, not_true_eq_false, not_false_eq_true, Classical.not_not, nar_b0, nar_b1, rz_0, rz_1, rz_i, ite01, Nat.add_zero, Nat.zero_add, Nat.one_mul, mul12, reduceIte, ra_z0, Nat.reduceEqDiff, Nat.reduceLT, Nat.reduceLeDiff, Nat.reduceAdd, Nat.reduceMul, Nat.reduceSub, Nat.reduceDiv, Nat.reduceMod, Bool.false_eq_true, false_and, and_false, reduceCtorEq, r14, ha]
      rw [e3', nX1_weighAllPairs_117]
      simp (maxSteps := 400000) (disch := omega) only [n3_l, n3_add, n3_mul, n3_sub, n3_subn, n3_lt, n3_le, n3_eq, n3_eqn, n3_neq, n3_and, n3_or, n3_shl, n3_i, n3_cl, ↓hbd_0, ↓hbd_1, ↓hbd_2, hk_ob_0, hk_rd_0, hk_rd_1, hk_rd_2, hk_al_0, hk_al_1, h3r_0, h3r_1, hk_wi_0, hk_wj_0, h3w_0, h3w_1, h3v_0, hk_kI, hk_kJ, hk_kA, hk_kB, A_eq, A_ne, A_row, B_eq, B_ne, B_row, I_eq, I_ne, J_eq, J_ne, Option.bind_some, Option.some.injEq, if_true, if_false, eq_self, true_or, or_true, true_and, and_true, false_or, or_false, not_true_eq_false, not_false_eq_true, Classical.not_not, nar_b0, nar_b1, rz_0, rz_1, rz_i, ite01, Nat.add_zero, Nat.zero_add, Nat.one_mul, mul12, reduceIte, ra_z0, Nat.reduceEqDiff, Nat.reduceLT, Nat.reduceLeDiff, Nat.reduceAdd, Nat.reduceMul, Nat.reduceSub, Nat.reduceDiv, Nat.reduceMod, Bool.false_eq_true, false_and, and_false, reduceCtorEq, q14, Nat.lt_irrefl]
    · rw [fo_last, Nat.zero_add, rowF_eq]; exact j3'
    · rw [fo_last, Nat.zero_add, rowF_eq]; exact j4) nT 0 N κ3 (by omega) (by omega) ⟨same.refl _ _ _, hH3.2.2.2.2.2.2.2, by rw [fo_zero]; exact b0, by rw [fo_zero]; exact oOk_none⟩
  have e4 : nX1_weighAllPairs_104 N N 23 (n3 0) (hp κ3) = nX1_weighAllPairs_104 N (m' + 1) 23 (n3 nT) (hp s') := e
  have q14 : hk_I s' 1 14 = n3 nT := by rw [i1.2.2.1 1 14 (by decide)]; exact hH3.2.2.1
  have ss : same [22, 24, 25, 26, 27, 28, 29] [] κ s' := (s12.weak (by decide) (by decide)).trans ((s3.weak (by decide) (by decide)).trans (i1.weak (by decide) (by decide)))
  refine ⟨s', ?_, ss, ?_, i3⟩
  · unfold fX1_weighAllPairs nX1_weighAllPairs_0
    simp (maxSteps := 400000) (disch := omega) only [n3_l, n3_add, n3_mul, n3_sub, n3_subn, n3_lt, n3_le, n3_eq, n3_eqn, n3_neq, n3_and, n3_or, n3_shl, n3_i, n3_cl, ↓hbd_0, ↓hbd_1, ↓hbd_2, hk_ob_0, hk_rd_0, hk_rd_1, hk_rd_2, hk_al_0, hk_al_1, h3r_0, h3r_1, hk_wi_0, hk_wj_0, h3w_0, h3w_1, h3v_0, hk_kI, hk_kJ, hk_kA, hk_kB, A_eq, A_ne, A_row, B_eq, B_ne, B_row, I_eq, I_ne, J_eq, J_ne, Option.bind_some, Option.some.injEq, if_true, if_false, eq_self, true_or, or_true, true_and, and_true, false_or, or_false, not_true_eq_false, not_false_eq_true, Classical.not_not, nar_b0, nar_b1, rz_0, rz_1, rz_i, ite01, Nat.add_zero, Nat.zero_add, Nat.one_mul, mul12, reduceIte, ra_z0, Nat.reduceEqDiff, Nat.reduceLT, Nat.reduceLeDiff, Nat.reduceAdd, Nat.reduceMul, Nat.reduceSub, Nat.reduceDiv, Nat.reduceMod, Bool.false_eq_true, false_and, and_false, reduceCtorEq, e1, e2, e3]
    rw [e4, nX1_weighAllPairs_104]
    simp (maxSteps := 400000) (disch := omega) only [n3_l, n3_add, n3_mul, n3_sub, n3_subn, n3_lt, n3_le, n3_eq, n3_eqn, n3_neq, n3_and, n3_or, n3_shl, n3_i, n3_cl, ↓hbd_0, ↓hbd_1, ↓hbd_2, hk_ob_0, hk_rd_0, hk_rd_1, hk_rd_2, hk_al_0, hk_al_1, h3r_0, h3r_1, hk_wi_0, hk_wj_0, h3w_0, h3w_1, h3v_0, hk_kI, hk_kJ, hk_kA, hk_kB, A_eq, A_ne, A_row, B_eq, B_ne, B_row, I_eq, I_ne, J_eq, J_ne, Option.bind_some, Option.some.injEq, if_true, if_false, eq_self, true_or, or_true, true_and, and_true, false_or, or_false, not_true_eq_false, not_false_eq_true, Classical.not_not, nar_b0, nar_b1, rz_0, rz_1, rz_i, ite01, Nat.add_zero, Nat.zero_add, Nat.one_mul, mul12, reduceIte, ra_z0, Nat.reduceEqDiff, Nat.reduceLT, Nat.reduceLeDiff, Nat.reduceAdd, Nat.reduceMul, Nat.reduceSub, Nat.reduceDiv, Nat.reduceMod, Bool.false_eq_true, false_and, and_false, reduceCtorEq, q14, Nat.lt_irrefl]
  · obtain ⟨g1, g2, g3, g4, g5, g6, g7, g8⟩ := hH3
    refine ⟨by rw [i1.2.2.1 1 13 (by decide)]; exact g1, g2, q14, g4, g5.mono i1.2.2.2.1 i1.2.2.2.2.2.1, by rw [i1.1 2 (by decide)]; exact g6, ?_, i2⟩
    rw [i1.1 2 (by decide)]
    intro t b k1 k2 k3
    rw [i1.1 24 (by decide)]
    rw [i1.1 25 (by decide)] at k3
    exact g7 t b k1 k2 k3
/-- best's answer -/
def bsV (o : bsT) (w : Nat) : Int32 := match o with
  | none => -n3 1
  | some (m, f, s, y, k) => if w = 0 then n3 m else if w = 1 then n3 f else if w = 2 then n3 s else if w = 3 then n3 y else n3 k
theorem bR_at {κ : hk_T} {o : bsT} (h : bR κ o) {w : Nat} (hw : w ≤ 4) : hk_A κ 29 w = bsV o w := by
  cases o with
  | none => exact h w (by omega)
  | some t =>
    obtain ⟨m, f, s, y, k⟩ := t
    obtain ⟨h0, h1, h2, h3, h4⟩ := h
    unfold bsV
    dsimp only
    rcases (by omega : w = 0 ∨ w = 1 ∨ w = 2 ∨ w = 3 ∨ w = 4) with e | e | e | e | e <;> subst e
    · exact h0
    · exact h1
    · exact h2
    · exact h3
    · exact h4
theorem c_best0 {n nT w : Nat} {T : Nat → tauT} {R : Nat → Nat → Option Nat} {c : Nat → Nat} (h : cH κ n nT T) (hT : 0 < nT) (hw : w ≤ 4) (hk : hk_I κ 23 10 = n3 0) (hR : ∀ t b, t < nT → b < n → rsO (hk_A κ 3) (hk_A κ 5) (hk_A κ 2) b (seatX (T t) (fx (hk_A κ 2) b)) = R t b) (hs : ∀ t b s, R t b = some s → s < 5346) (hc' : ∀ b, b < n → hk_A κ 2 (12 * b + 2) = n3 (c b)) (hc2 : ∀ b, c b ≤ 199) (hN : 100000 < N) :
    ∃ κ', fX11_best N 0 (n3 w) (hp κ) = some (bsV (bestF R c n nT) w, hp κ') ∧ same [22, 24, 25, 26, 27, 28, 29] [(23, 10)] κ κ' ∧ cH κ' n nT T ∧ bR κ' (bestF R c n nT) ∧ hk_I κ' 23 10 = n3 1 := by
  obtain ⟨κ1, e1, s1, g1, g2⟩ := c_weighAllPairs N κ h hR hs hc' hc2 hN
  have h14 := h.2.2.1
  have h4 := h.2.2.2.1
  have c0 : ¬ w < 0 := by omega
  have cT : ¬ nT = 0 := by omega
  have v := bR_at g2 hw
  refine ⟨hk_wI κ1 23 10 (n3 1), ?_, (s1.weak (by decide) (by decide)).wI (by decide), ?_, g2.keep rfl, I_eq⟩
  · simp (maxSteps := 400000) (disch := omega) only [n3_l, n3_add, n3_mul, n3_sub, n3_subn, n3_lt, n3_le, n3_eq, n3_eqn, n3_neq, n3_and, n3_or, n3_shl, n3_i, n3_cl, ↓hbd_0, ↓hbd_1, ↓hbd_2, hk_ob_0, hk_rd_0, hk_rd_1, hk_rd_2, hk_al_0, hk_al_1, h3r_0, h3r_1, hk_wi_0, hk_wj_0, h3w_0, h3w_1, h3v_0, hk_kI, hk_kJ, hk_kA, hk_kB, A_eq, A_ne, A_row, B_eq, B_ne, B_row, I_eq, I_ne, J_eq, J_ne, Option.bind_some, Option.some.injEq, if_true, if_false, eq_self, true_or, or_true, true_and, and_true, false_or, or_false, not_true_eq_false, not_false_eq_true, Classical.not_not, nar_b0, nar_b1, rz_0, rz_1, rz_i, ite01, Nat.add_zero, Nat.zero_add, Nat.one_mul, mul12, reduceIte, ra_z0, Nat.reduceEqDiff, Nat.reduceLT, Nat.reduceLeDiff, Nat.reduceAdd, Nat.reduceMul, Nat.reduceSub, Nat.reduceDiv, Nat.reduceMod, Bool.false_eq_true, false_and, and_false, reduceCtorEq, fX11_best, nX11_best_19, nX11_best_0, fX1_bestOf, nX1_bestOf_16, nX1_bestOf_0, h14, cT, c0, hw, hk, e1, v]
  · obtain ⟨k1, k2, k3, k4, k5, k6, k7, k8⟩ := g1
    exact ⟨k1, k2, k3, k4, k5.mono rfl rfl, k6, k7, k8⟩
theorem c_best1 {nT w : Nat} {o : bsT} (h14 : hk_I κ 1 14 = n3 nT) (hT : 0 < nT) (hT8 : nT ≤ 8) (hw : w ≤ 4) (hk : hk_I κ 23 10 = n3 1) (hb : bR κ o) : fX11_best N 0 (n3 w) (hp κ) = some (bsV o w, hp κ) := by
  have c0 : ¬ w < 0 := by omega
  have cT : ¬ nT = 0 := by omega
  have v := bR_at hb hw
  simp (maxSteps := 400000) (disch := omega) only [n3_l, n3_add, n3_mul, n3_sub, n3_subn, n3_lt, n3_le, n3_eq, n3_eqn, n3_neq, n3_and, n3_or, n3_shl, n3_i, n3_cl, ↓hbd_0, ↓hbd_1, ↓hbd_2, hk_ob_0, hk_rd_0, hk_rd_1, hk_rd_2, hk_al_0, hk_al_1, h3r_0, h3r_1, hk_wi_0, hk_wj_0, h3w_0, h3w_1, h3v_0, hk_kI, hk_kJ, hk_kA, hk_kB, A_eq, A_ne, A_row, B_eq, B_ne, B_row, I_eq, I_ne, J_eq, J_ne, Option.bind_some, Option.some.injEq, if_true, if_false, eq_self, true_or, or_true, true_and, and_true, false_or, or_false, not_true_eq_false, not_false_eq_true, Classical.not_not, nar_b0, nar_b1, rz_0, rz_1, rz_i, ite01, Nat.add_zero, Nat.zero_add, Nat.one_mul, mul12, reduceIte, ra_z0, Nat.reduceEqDiff, Nat.reduceLT, Nat.reduceLeDiff, Nat.reduceAdd, Nat.reduceMul, Nat.reduceSub, Nat.reduceDiv, Nat.reduceMod, Bool.false_eq_true, false_and, and_false, reduceCtorEq, fX11_best, nX11_best_19, nX11_best_0, fX1_bestOf, nX1_bestOf_16, nX1_bestOf_0, h14, cT, c0, hw, hk, v]
theorem c_best_x {nT : Nat} {w : Int32} (h14 : hk_I κ 1 14 = n3 nT) (hT8 : nT ≤ 8) (h : ¬ (vIn 0 4 w = true ∧ 0 < nT)) : fX11_best N 0 w (hp κ) = some (-n3 1, hp κ) := by
  by_cases cT : nT = 0
  · subst cT
    simp (maxSteps := 400000) (disch := omega) only [n3_l, n3_add, n3_mul, n3_sub, n3_subn, n3_lt, n3_le, n3_eq, n3_eqn, n3_neq, n3_and, n3_or, n3_shl, n3_i, n3_cl, ↓hbd_0, ↓hbd_1, ↓hbd_2, hk_ob_0, hk_rd_0, hk_rd_1, hk_rd_2, hk_al_0, hk_al_1, h3r_0, h3r_1, hk_wi_0, hk_wj_0, h3w_0, h3w_1, h3v_0, hk_kI, hk_kJ, hk_kA, hk_kB, A_eq, A_ne, A_row, B_eq, B_ne, B_row, I_eq, I_ne, J_eq, J_ne, Option.bind_some, Option.some.injEq, if_true, if_false, eq_self, true_or, or_true, true_and, and_true, false_or, or_false, not_true_eq_false, not_false_eq_true, Classical.not_not, nar_b0, nar_b1, rz_0, rz_1, rz_i, ite01, Nat.add_zero, Nat.zero_add, Nat.one_mul, mul12, reduceIte, ra_z0, Nat.reduceEqDiff, Nat.reduceLT, Nat.reduceLeDiff, Nat.reduceAdd, Nat.reduceMul, Nat.reduceSub, Nat.reduceDiv, Nat.reduceMod, Bool.false_eq_true, false_and, and_false, reduceCtorEq, fX11_best, nX11_best_19, nX11_best_0, h14]
  · have h2 : ¬ vIn 0 4 w = true := fun z => h ⟨z, by omega⟩
    rw [vIn_iff] at h2
    by_cases c : w < n3 0
    · simp (maxSteps := 400000) (disch := omega) only [n3_l, n3_add, n3_mul, n3_sub, n3_subn, n3_lt, n3_le, n3_eq, n3_eqn, n3_neq, n3_and, n3_or, n3_shl, n3_i, n3_cl, ↓hbd_0, ↓hbd_1, ↓hbd_2, hk_ob_0, hk_rd_0, hk_rd_1, hk_rd_2, hk_al_0, hk_al_1, h3r_0, h3r_1, hk_wi_0, hk_wj_0, h3w_0, h3w_1, h3v_0, hk_kI, hk_kJ, hk_kA, hk_kB, A_eq, A_ne, A_row, B_eq, B_ne, B_row, I_eq, I_ne, J_eq, J_ne, Option.bind_some, Option.some.injEq, if_true, if_false, eq_self, true_or, or_true, true_and, and_true, false_or, or_false, not_true_eq_false, not_false_eq_true, Classical.not_not, nar_b0, nar_b1, rz_0, rz_1, rz_i, ite01, Nat.add_zero, Nat.zero_add, Nat.one_mul, mul12, reduceIte, ra_z0, Nat.reduceEqDiff, Nat.reduceLT, Nat.reduceLeDiff, Nat.reduceAdd, Nat.reduceMul, Nat.reduceSub, Nat.reduceDiv, Nat.reduceMod, Bool.false_eq_true, false_and, and_false, reduceCtorEq, fX11_best, nX11_best_19, nX11_best_0, h14, cT, c]
    · have c2 : ¬ w ≤ n3 4 := by
        rw [i_lt, n3_toInt (by omega)] at c
        rw [i_le, n3_toInt (by omega)]
        omega
      simp (maxSteps := 400000) (disch := omega) only [n3_l, n3_add, n3_mul, n3_sub, n3_subn, n3_lt, n3_le, n3_eq, n3_eqn, n3_neq, n3_and, n3_or, n3_shl, n3_i, n3_cl, ↓hbd_0, ↓hbd_1, ↓hbd_2, hk_ob_0, hk_rd_0, hk_rd_1, hk_rd_2, hk_al_0, hk_al_1, h3r_0, h3r_1, hk_wi_0, hk_wj_0, h3w_0, h3w_1, h3v_0, hk_kI, hk_kJ, hk_kA, hk_kB, A_eq, A_ne, A_row, B_eq, B_ne, B_row, I_eq, I_ne, J_eq, J_ne, Option.bind_some, Option.some.injEq, if_true, if_false, eq_self, true_or, or_true, true_and, and_true, false_or, or_false, not_true_eq_false, not_false_eq_true, Classical.not_not, nar_b0, nar_b1, rz_0, rz_1, rz_i, ite01, Nat.add_zero, Nat.zero_add, Nat.one_mul, mul12, reduceIte, ra_z0, Nat.reduceEqDiff, Nat.reduceLT, Nat.reduceLeDiff, Nat.reduceAdd, Nat.reduceMul, Nat.reduceSub, Nat.reduceDiv, Nat.reduceMod, Bool.false_eq_true, false_and, and_false, reduceCtorEq, fX11_best, nX11_best_19, nX11_best_0, h14, cT, c, c2]
end
