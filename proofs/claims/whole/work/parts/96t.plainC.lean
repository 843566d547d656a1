/-! the class's reader: nots, plain tests -/
theorem ite_bind {α β : Type} {c : Prop} [Decidable c] {a b : Option α} {k : α → Option β} : (if c then a else b).bind k = if c then a.bind k else b.bind k := by split <;> rfl
theorem isW_lt {B : Nat → Nat} {n k j : Nat} (h : isW B n k j) : j < n := (tk_letters (show tkK B n j = 1 from h.1)).1
section
variable (N : Nat) (κ : hk_T)
theorem c_nots {B : Nat → Nat} {n b j k f : Nat} {K : Nat → Nat} {rt : Nat → Int32 → ra_H → Option (Int32 × ra_H)} (hN : 1000 < N) : ∀ M i m κ1 j1 (t : Bool), M + i = 400 → M < m → cS κ κ1 → cP κ1 B n j1 k f K → j ≤ j1 → (t = true → j < j1) →
    ∃ κ2, nX8_readPlain_4 N rt m 16 (n3 b) (if t = true then n3 1 else n3 0) (n3 i) (hp κ1) = nX8_readPlain_40 N rt 16 (n3 b) (if (pNots B n M j1 t).2 = true then n3 1 else n3 0) (hp κ2) ∧ cS κ κ2 ∧ cP κ2 B n (pNots B n M j1 t).1 k f K ∧ j ≤ (pNots B n M j1 t).1 ∧ ((pNots B n M j1 t).2 = true → j < (pNots B n M j1 t).1) := by
  intro M
  induction M with
  | zero =>
    intro i m κ1 j1 t hi hm s p a1 a2
    obtain ⟨m, rfl⟩ : ∃ q, m = q + 1 := ⟨m - 1, by omega⟩
    have c : ¬ i < 400 := by omega
    refine ⟨κ1, ?_, s, p, a1, a2⟩
    rw [nX8_readPlain_4, pNots]
    simp (maxSteps := 400000) (disch := omega) only [n3_l, n3_add, n3_mul, n3_sub, n3_subn, n3_lt, n3_le, n3_eq, n3_eqn, n3_neq, n3_and, n3_or, n3_shl, n3_i, n3_cl, ↓hbd_0, ↓hbd_1, ↓hbd_2, hk_ob_0, hk_rd_0, hk_rd_1, hk_rd_2, hk_al_0, hk_al_1, h3r_0, h3r_1, hk_wi_0, hk_wj_0, h3w_0, h3w_1, h3v_0, hk_kI, hk_kJ, hk_kA, hk_kB, A_eq, A_ne, A_row, B_eq, B_ne, B_row, I_eq, I_ne, J_eq, J_ne, Option.bind_some, Option.some.injEq, if_true, if_false, eq_self, true_or, or_true, true_and, and_true, false_or, or_false, not_true_eq_false, not_false_eq_true, Classical.not_not, nar_b0, nar_b1, rz_0, rz_1, rz_i, ite01, Nat.add_zero, Nat.zero_add, Nat.one_mul, mul12, reduceIte, ra_z0, Nat.reduceEqDiff, Nat.reduceLT, Nat.reduceLeDiff, Nat.reduceAdd, Nat.reduceMul, Nat.reduceSub, Nat.reduceDiv, Nat.reduceMod, Bool.false_eq_true, false_and, and_false, reduceCtorEq, c]
  | succ M ih =>
    intro i m κ1 j1 t hi hm s p a1 a2
    obtain ⟨m, rfl⟩ : ∃ q, m = q + 1 := ⟨m - 1, by omega⟩
    have c : i < 400 := by omega
    have w := c_isWord N κ1 (k := 18) (u := 21) p.1 p.2.1 (by decide) (by omega) hN
    rw [pNots]
    by_cases cw : isW B n 18 j1
    · rw [if_pos cw] at w ⊢
      obtain ⟨κ2, e2, s2, p2⟩ := c_advP N κ1 p hN
      have nx2 := (nxt_le (B := B) p.2.1.1).2 (isW_lt cw)
      obtain ⟨κ3, e3, r⟩ := ih (i + 1) m κ2 (nxt B n j1) (!t) (by omega) (by omega) (s.trans s2) p2 (by omega) (fun _ => by omega)
      refine ⟨κ3, ?_, r⟩
      rw [← e3, nX8_readPlain_4]
      cases t with
      | true =>
        simp (maxSteps := 400000) (disch := omega) only [n3_l, n3_add, n3_mul, n3_sub, n3_subn, n3_lt, n3_le, n3_eq, n3_eqn, n3_neq, n3_and, n3_or, n3_shl, n3_i, n3_cl, ↓hbd_0, ↓hbd_1, ↓hbd_2, hk_ob_0, hk_rd_0, hk_rd_1, hk_rd_2, hk_al_0, hk_al_1, h3r_0, h3r_1, hk_wi_0, hk_wj_0, h3w_0, h3w_1, h3v_0, hk_kI, hk_kJ, hk_kA, hk_kB, A_eq, A_ne, A_row, B_eq, B_ne, B_row, I_eq, I_ne, J_eq, J_ne, Option.bind_some, Option.some.injEq, if_true, if_false, eq_self, true_or, or_true, true_and, and_true, false_or, or_false, not_true_eq_false, not_false_eq_true, Classical.not_not, nar_b0, nar_b1, rz_0, rz_1, rz_i, ite01, Nat.add_zero, Nat.zero_add, Nat.one_mul, mul12, reduceIte, ra_z0, Nat.reduceEqDiff, Nat.reduceLT, Nat.reduceLeDiff, Nat.reduceAdd, Nat.reduceMul, Nat.reduceSub, Nat.reduceDiv, Nat.reduceMod, Bool.false_eq_true, false_and, and_false, reduceCtorEq, c, w, nX8_readPlain_29, e2, Bool.not_true]
      | false =>
        simp (maxSteps := 400000) (disch := omega) only [n3_l, n3_add, n3_mul, n3_sub, n3_subn, n3_lt, n3_le, n3_eq, n3_eqn, n3_neq, n3_and, n3_or, n3_shl, n3_i, n3_cl, ↓hbd_0, ↓hbd_1, ↓hbd_2, hk_ob_0, hk_rd_0, hk_rd_1, hk_rd_2, hk_al_0, hk_al_1, h3r_0, h3r_1, hk_wi_0, hk_wj_0, h3w_0, h3w_1, h3v_0, hk_kI, hk_kJ, hk_kA, hk_kB, A_eq, A_ne, A_row, B_eq, B_ne, B_row, I_eq, I_ne, J_eq, J_ne, Option.bind_some, Option.some.injEq, if_true, if_false, eq_self, true_or, or_true, true_and, and_true, false_or, or_false, not_true_eq_false, not_false_eq_true, Classical.not_not, nar_b0, nar_b1, rz_0, rz_1, rz_i, ite01, Nat.add_zero, Nat.zero_add, Nat.one_mul, mul12, reduceIte, ra_z0, Nat.reduceEqDiff, Nat.reduceLT, Nat.reduceLeDiff, Nat.reduceAdd, Nat.reduceMul, Nat.reduceSub, Nat.reduceDiv, Nat.reduceMod, Bool.false_eq_true, false_and, and_false, reduceCtorEq, c, w, nX8_readPlain_29, e2, Bool.not_false]
    · rw [if_neg cw] at w ⊢
      refine ⟨κ1, ?_, s, p, a1, a2⟩
      rw [nX8_readPlain_4]
      simp (maxSteps := 400000) (disch := omega) only [n3_l, n3_add, n3_mul, n3_sub, n3_subn, n3_lt, n3_le, n3_eq, n3_eqn, n3_neq, n3_and, n3_or, n3_shl, n3_i, n3_cl, ↓hbd_0, ↓hbd_1, ↓hbd_2, hk_ob_0, hk_rd_0, hk_rd_1, hk_rd_2, hk_al_0, hk_al_1, h3r_0, h3r_1, hk_wi_0, hk_wj_0, h3w_0, h3w_1, h3v_0, hk_kI, hk_kJ, hk_kA, hk_kB, A_eq, A_ne, A_row, B_eq, B_ne, B_row, I_eq, I_ne, J_eq, J_ne, Option.bind_some, Option.some.injEq, if_true, if_false, eq_self, true_or, or_true, true_and, and_true, false_or, or_false, not_true_eq_false, not_false_eq_true, Classical.not_not, nar_b0, nar_b1, rz_0, rz_1, rz_i, ite01, Nat.add_zero, Nat.zero_add, Nat.one_mul, mul12, reduceIte, ra_z0, Nat.reduceEqDiff, Nat.reduceLT, Nat.reduceLeDiff, Nat.reduceAdd, Nat.reduceMul, Nat.reduceSub, Nat.reduceDiv, Nat.reduceMod, Bool.false_eq_true, false_and, and_false, reduceCtorEq, c, w]
theorem c_turn {κ1 : hk_T} {B : Nat → Nat} {n j j1 k f : Nat} {K : Nat → Nat} {rt : Nat → Int32 → ra_H → Option (Int32 × ra_H)} {t : Bool} {r : pRT} {run : Option (Int32 × ra_H)} (hs : cS κ κ1) (h : cRet κ1 B n j1 k f K True r run) (h1 : j ≤ j1) (h2 : t = true → j < j1) (hf : f ≤ j) : cRet κ B n j k f K True (pTurn t r) (run.bind fun q => if q.1 = n3 0 then some (n3 0, q.2) else nX8_readPlain_101 N rt 16 (if t = true then n3 1 else n3 0) q.2) := by
  cases r with
  | inl e =>
    obtain ⟨κ2, e2, s2, q2⟩ := h
    refine ⟨κ2, ?_, hs.trans s2, q2⟩
    simp (maxSteps := 400000) (disch := omega) only [n3_l, n3_add, n3_mul, n3_sub, n3_subn, n3_lt, n3_le, n3_eq, n3_eqn, n3_neq, n3_and, n3_or, n3_shl, n3_i, n3_cl, ↓hbd_0, ↓hbd_1, ↓hbd_2, hk_ob_0, hk_rd_0, hk_rd_1, hk_rd_2, hk_al_0, hk_al_1, h3r_0, h3r_1, hk_wi_0, hk_wj_0, h3w_0, h3w_1, h3v_0, hk_kI, hk_kJ, hk_kA, hk_kB, A_eq, A_ne, A_row, B_eq, B_ne, B_row, I_eq, I_ne, J_eq, J_ne, Option.bind_some, Option.some.injEq, if_true, if_false, eq_self, true_or, or_true, true_and, and_true, false_or, or_false, not_true_eq_false, not_false_eq_true, Classical.not_not, nar_b0, nar_b1, rz_0, rz_1, rz_i, ite01, Nat.add_zero, Nat.zero_add, Nat.one_mul, mul12, reduceIte, ra_z0, Nat.reduceEqDiff, Nat.reduceLT, Nat.reduceLeDiff, Nat.reduceAdd, Nat.reduceMul, Nat.reduceSub, Nat.reduceDiv, Nat.reduceMod, Bool.false_eq_true, false_and, and_false, reduceCtorEq, e2]
  | inr q =>
    obtain ⟨j2, k2, v⟩ := q
    obtain ⟨κ2, f2, K2, e2, s2, p2, b1, b2, b3, b4, b5, b6, b7, b8⟩ := h
    unfold pTurn
    dsimp only
    cases t with
    | false =>
      rw [if_neg (by decide)]
      refine ⟨κ2, f2, K2, ?_, hs.trans s2, p2, b1, b2, by omega, b4, by omega, b6, b7, b8⟩
      simp (maxSteps := 400000) (disch := omega) only [n3_l, n3_add, n3_mul, n3_sub, n3_subn, n3_lt, n3_le, n3_eq, n3_eqn, n3_neq, n3_and, n3_or, n3_shl, n3_i, n3_cl, ↓hbd_0, ↓hbd_1, ↓hbd_2, hk_ob_0, hk_rd_0, hk_rd_1, hk_rd_2, hk_al_0, hk_al_1, h3r_0, h3r_1, hk_wi_0, hk_wj_0, h3w_0, h3w_1, h3v_0, hk_kI, hk_kJ, hk_kA, hk_kB, A_eq, A_ne, A_row, B_eq, B_ne, B_row, I_eq, I_ne, J_eq, J_ne, Option.bind_some, Option.some.injEq, if_true, if_false, eq_self, true_or, or_true, true_and, and_true, false_or, or_false, not_true_eq_false, not_false_eq_true, Classical.not_not, nar_b0, nar_b1, rz_0, rz_1, rz_i, ite01, Nat.add_zero, Nat.zero_add, Nat.one_mul, mul12, reduceIte, ra_z0, Nat.reduceEqDiff, Nat.reduceLT, Nat.reduceLeDiff, Nat.reduceAdd, Nat.reduceMul, Nat.reduceSub, Nat.reduceDiv, Nat.reduceMod, Bool.false_eq_true, false_and, and_false, reduceCtorEq, e2, nX8_readPlain_101, nX8_readPlain_112, Bool.false_eq_true]
    | true =>
      rw [if_pos rfl]
      have g := h2 rfl
      have j2n := p2.2.1.1
      have n4 := p2.1.1
      obtain ⟨κ3, e3, s3, p3⟩ := c_emitP N κ2 (i := 9) (w := 0) p2 (by omega)
      have fr : cFr (fun x => if x = f2 then 16 * 0 + 9 else K2 x) f (f2 + 1) (k2 - k) (vNot v) := cFr_not (b6.cg (fun x g1 g2 => by show K2 x = if x = f2 then _ else K2 x; rw [if_neg (by omega)])) (by show (if f2 = f2 then _ else _) = _; rw [if_pos rfl])
      refine ⟨κ3, f2 + 1, _, ?_, hs.trans (s2.trans s3), p3, fun x hx => ?_, by omega, by omega, b4, by omega, fr, (vNot_t (b8 trivial)).o, fun _ => vNot_t (b8 trivial)⟩
      · simp (maxSteps := 400000) (disch := omega) only [n3_l, n3_add, n3_mul, n3_sub, n3_subn, n3_lt, n3_le, n3_eq, n3_eqn, n3_neq, n3_and, n3_or, n3_shl, n3_i, n3_cl, ↓hbd_0, ↓hbd_1, ↓hbd_2, hk_ob_0, hk_rd_0, hk_rd_1, hk_rd_2, hk_al_0, hk_al_1, h3r_0, h3r_1, hk_wi_0, hk_wj_0, h3w_0, h3w_1, h3v_0, hk_kI, hk_kJ, hk_kA, hk_kB, A_eq, A_ne, A_row, B_eq, B_ne, B_row, I_eq, I_ne, J_eq, J_ne, Option.bind_some, Option.some.injEq, if_true, if_false, eq_self, true_or, or_true, true_and, and_true, false_or, or_false, not_true_eq_false, not_false_eq_true, Classical.not_not, nar_b0, nar_b1, rz_0, rz_1, rz_i, ite01, Nat.add_zero, Nat.zero_add, Nat.one_mul, mul12, reduceIte, ra_z0, Nat.reduceEqDiff, Nat.reduceLT, Nat.reduceLeDiff, Nat.reduceAdd, Nat.reduceMul, Nat.reduceSub, Nat.reduceDiv, Nat.reduceMod, Bool.false_eq_true, false_and, and_false, reduceCtorEq, e2, nX8_readPlain_101, nX8_readPlain_112, e3]
      · show (if x = f2 then _ else K2 x) = _
        rw [if_neg (by omega), b1 x (by omega)]
theorem c_readPlain {B : Nat → Nat} {n b j k f : Nat} {K : Nat → Nat} {rt : Nat → Int32 → ra_H → Option (Int32 × ra_H)} {rp : Nat → Nat → pRT} (hb : b ≤ 8) (hrt : b < 8 → ∀ κ j k f K, cP κ B n j k f K → f ≤ j → cRet κ B n j k f K True (rp j k) (rt 16 (n3 (b + 1)) (hp κ))) (h : cP κ B n j k f K) (hf : f ≤ j) (hN : 1000 < N) : cRet κ B n j k f K True (pPlain B n rp b j k) (fX8_readPlain N rt 16 (n3 b) (hp κ)) := by
  have st : fX8_readPlain N rt 16 (n3 b) (hp κ) = (nX8_readPlain_4 N rt N 16 (n3 b) (if false = true then n3 1 else n3 0) (n3 0) (hp κ)).bind (fun q => ra_rz q.1 q.2) := by
    unfold fX8_readPlain nX8_readPlain_0
    simp (maxSteps := 400000) (disch := omega) only [n3_l, n3_add, n3_mul, n3_sub, n3_subn, n3_lt, n3_le, n3_eq, n3_eqn, n3_neq, n3_and, n3_or, n3_shl, n3_i, n3_cl, ↓hbd_0, ↓hbd_1, ↓hbd_2, hk_ob_0, hk_rd_0, hk_rd_1, hk_rd_2, hk_al_0, hk_al_1, h3r_0, h3r_1, hk_wi_0, hk_wj_0, h3w_0, h3w_1, h3v_0, hk_kI, hk_kJ, hk_kA, hk_kB, A_eq, A_ne, A_row, B_eq, B_ne, B_row, I_eq, I_ne, J_eq, J_ne, Option.bind_some, Option.some.injEq, if_true, if_false, eq_self, true_or, or_true, true_and, and_true, false_or, or_false, not_true_eq_false, not_false_eq_true, Classical.not_not, nar_b0, nar_b1, rz_0, rz_1, rz_i, ite01, Nat.add_zero, Nat.zero_add, Nat.one_mul, mul12, reduceIte, ra_z0, Nat.reduceEqDiff, Nat.reduceLT, Nat.reduceLeDiff, Nat.reduceAdd, Nat.reduceMul, Nat.reduceSub, Nat.reduceDiv, Nat.reduceMod, Bool.false_eq_true, false_and, and_false, reduceCtorEq, Bool.false_eq_true]
  rw [st]
  refine cRet.rz ?_
  obtain ⟨κ1, e1, s1, p1, a1, a2⟩ := c_nots N κ (b := b) (j := j) (rt := rt) hN 400 0 N κ j false (by omega) (by omega) (cS.refl _) h (by omega) (fun z => by cases z)
  rw [e1]
  have pp : pPlain B n rp b j k = pTurn (pNots B n 400 j false).2 (if sg B n 40 (pNots B n 400 j false).1 then pBra B n rp b (pNots B n 400 j false).1 k else pComp B n b (pNots B n 400 j false).1 k) := rfl
  rw [pp]
  generalize (pNots B n 400 j false).1 = j1 at p1 a1 a2 ⊢
  generalize (pNots B n 400 j false).2 = t at a2 ⊢
  have is := c_isSign N κ1 (c := 40) p1.1 p1.2.1 (by omega)
  by_cases cs : sg B n 40 j1
  · rw [if_pos cs] at is ⊢
    have r := c_turn N κ (rt := rt) s1 (c_readBracketed N κ1 hb hrt cs p1 (by omega) hN) a1 a2 hf
    have e4 : nX8_readPlain_40 N rt 16 (n3 b) (if t = true then n3 1 else n3 0) (hp κ1) = (fX8_readBracketed N rt 16 (n3 b) (hp κ1)).bind fun q => if q.1 = n3 0 then some (n3 0, q.2) else nX8_readPlain_101 N rt 16 (if t = true then n3 1 else n3 0) q.2 := by
      unfold nX8_readPlain_40
      simp (maxSteps := 400000) (disch := omega) only [n3_l, n3_add, n3_mul, n3_sub, n3_subn, n3_lt, n3_le, n3_eq, n3_eqn, n3_neq, n3_and, n3_or, n3_shl, n3_i, n3_cl, ↓hbd_0, ↓hbd_1, ↓hbd_2, hk_ob_0, hk_rd_0, hk_rd_1, hk_rd_2, hk_al_0, hk_al_1, h3r_0, h3r_1, hk_wi_0, hk_wj_0, h3w_0, h3w_1, h3v_0, hk_kI, hk_kJ, hk_kA, hk_kB, A_eq, A_ne, A_row, B_eq, B_ne, B_row, I_eq, I_ne, J_eq, J_ne, Option.bind_some, Option.some.injEq, if_true, if_false, eq_self, true_or, or_true, true_and, and_true, false_or, or_false, not_true_eq_false, not_false_eq_true, Classical.not_not, nar_b0, nar_b1, rz_0, rz_1, rz_i, ite01, Nat.add_zero, Nat.zero_add, Nat.one_mul, mul12, reduceIte, ra_z0, Nat.reduceEqDiff, Nat.reduceLT, Nat.reduceLeDiff, Nat.reduceAdd, Nat.reduceMul, Nat.reduceSub, Nat.reduceDiv, Nat.reduceMod, Bool.false_eq_true, false_and, and_false, reduceCtorEq, is]
    rw [e4]
    exact r
  · rw [if_neg cs] at is ⊢
    have r := c_turn N κ (rt := rt) s1 (c_comp N κ1 hb p1 (by omega) hN) a1 a2 hf
    have e4 : nX8_readPlain_40 N rt 16 (n3 b) (if t = true then n3 1 else n3 0) (hp κ1) = ((fX8_readSum N 16 (n3 b) (hp κ1)).bind fun q2 => if q2.1 = n3 0 then some (n3 0, q2.2) else (fX8_comparisonHere N 16 q2.2).bind fun q3 => if q3.1 = -n3 1 then some (n3 0, q3.2) else (fX8_advance N 16 q3.2).bind fun h4 => (fX8_readSum N 16 (n3 b) h4).bind fun q5 => if q5.1 = n3 0 then some (n3 0, q5.2) else (fX8_emit N 16 q3.1 (n3 0) q5.2).bind fun h6 => some (n3 1, h6)).bind fun q => if q.1 = n3 0 then some (n3 0, q.2) else nX8_readPlain_101 N rt 16 (if t = true then n3 1 else n3 0) q.2 := by
      unfold nX8_readPlain_40
      simp (maxSteps := 400000) (disch := omega) only [n3_l, n3_add, n3_mul, n3_sub, n3_subn, n3_lt, n3_le, n3_eq, n3_eqn, n3_neq, n3_and, n3_or, n3_shl, n3_i, n3_cl, ↓hbd_0, ↓hbd_1, ↓hbd_2, hk_ob_0, hk_rd_0, hk_rd_1, hk_rd_2, hk_al_0, hk_al_1, h3r_0, h3r_1, hk_wi_0, hk_wj_0, h3w_0, h3w_1, h3v_0, hk_kI, hk_kJ, hk_kA, hk_kB, A_eq, A_ne, A_row, B_eq, B_ne, B_row, I_eq, I_ne, J_eq, J_ne, Option.bind_some, Option.some.injEq, if_true, if_false, eq_self, true_or, or_true, true_and, and_true, false_or, or_false, not_true_eq_false, not_false_eq_true, Classical.not_not, nar_b0, nar_b1, rz_0, rz_1, rz_i, ite01, Nat.add_zero, Nat.zero_add, Nat.one_mul, mul12, reduceIte, ra_z0, Nat.reduceEqDiff, Nat.reduceLT, Nat.reduceLeDiff, Nat.reduceAdd, Nat.reduceMul, Nat.reduceSub, Nat.reduceDiv, Nat.reduceMod, Bool.false_eq_true, false_and, and_false, reduceCtorEq, is, Option.bind_assoc, ite_bind]
    rw [e4]
    exact r
end
