/-! the class's reader: both, either -/
theorem cFr_growA {K1 K2 : Nat → Nat} {f f1 f2 k k1 k2 o : Nat} {v w : valT} (h1 : cFr K1 f f1 (k1 - k) v) (e : ∀ x, x < f1 → K2 x = K1 x) (h2 : cFr K2 (f1 + 1) f2 (k2 - k1) w) (tv : vT v) (ho : o = 0 ∨ o = 1) (hk : k < k1) (hk2 : k1 < k2) : cFr (fun x => if x = f1 then 16 * f2 + (11 - o) else K2 x) f f2 (k2 - k) (vAO o v w) := by
  have l1 := h1.1
  have l2 := h2.1
  have a := cFr_ao (K := fun x => if x = f1 then 16 * f2 + (11 - o) else K2 x) (o := o) (h1.cg (fun x g1 g2 => by show K1 x = if x = f1 then _ else K2 x; rw [if_neg (by omega), e x g2])) (h2.cg (fun x g1 g2 => by show K2 x = if x = f1 then _ else K2 x; rw [if_neg (by omega)])) tv ho (by show (if f1 = f1 then _ else _) = _; rw [if_pos rfl])
  rw [show k1 - k + (k2 - k1) = k2 - k by omega] at a
  exact a
section
variable (N : Nat) (κ : hk_T)
theorem c_bothL {B : Nat → Nat} {n b j k f : Nat} {K : Nat → Nat} {rt : Nat → Int32 → ra_H → Option (Int32 × ra_H)} {rp : Nat → Nat → pRT} (hb : b ≤ 8) (hrt : b < 8 → ∀ κ j k f K, cP κ B n j k f K → f ≤ j → cRet κ B n j k f K True (rp j k) (rt 16 (n3 (b + 1)) (hp κ))) (hf : f ≤ j) (hN : 1000 < N) :
    ∀ M i m κ1 j1 k1 f1 K1 v, M + i = 400 → M < m → cS κ κ1 → cP κ1 B n j1 k1 f1 K1 → (∀ x, x < f → K1 x = K x) → f < f1 → f1 + j ≤ f + j1 → k < k1 → j < j1 → cFr K1 f f1 (k1 - k) v → vT v → cRet κ B n j k f K True (pBothL B n rp b M j1 k1 v) (nX8_readBoth_12 N rt m 16 (n3 b) (n3 i) (hp κ1)) := by
  intro M
  induction M with
  | zero =>
    intro i m κ1 j1 k1 f1 K1 v hi hm s p a1 a2 a3 a4 a5 a6 a7
    obtain ⟨m, rfl⟩ : ∃ q, m = q + 1 := ⟨m - 1, by omega⟩
    have c : ¬ i < 400 := by omega
    refine ⟨κ1, f1, K1, ?_, s, p, a1, a2, a3, a4, a5, a6, a7.o, fun _ => a7⟩
    rw [nX8_readBoth_12]
    simp (maxSteps := 400000) (disch := omega) only [n3_l, n3_add, n3_mul, n3_sub, n3_subn, n3_lt, n3_le, n3_eq, n3_eqn, n3_neq, n3_and, n3_or, n3_shl, n3_i, n3_cl, ↓hbd_0, ↓hbd_1, ↓hbd_2, hk_ob_0, hk_rd_0, hk_rd_1, hk_rd_2, hk_al_0, hk_al_1, h3r_0, h3r_1, hk_wi_0, hk_wj_0, h3w_0, h3w_1, h3v_0, hk_kI, hk_kJ, hk_kA, hk_kB, A_eq, A_ne, A_row, B_eq, B_ne, B_row, I_eq, I_ne, J_eq, J_ne, Option.bind_some, Option.some.injEq, if_true, if_false, eq_self, true_or, or_true, true_and, and_true, false_or, or_false, not_true_eq_false, not_false_eq_true, Classical.not_not, nar_b0, nar_b1, rz_0, rz_1, rz_i, ite01, Nat.add_zero, Nat.zero_add, Nat.one_mul, mul12, reduceIte, ra_z0, Nat.reduceEqDiff, Nat.reduceLT, Nat.reduceLeDiff, Nat.reduceAdd, Nat.reduceMul, Nat.reduceSub, Nat.reduceDiv, Nat.reduceMod, Bool.false_eq_true, false_and, and_false, reduceCtorEq, c, nX8_readBoth_67]
  | succ M ih =>
    intro i m κ1 j1 k1 f1 K1 v hi hm s p a1 a2 a3 a4 a5 a6 a7
    obtain ⟨m, rfl⟩ : ∃ q, m = q + 1 := ⟨m - 1, by omega⟩
    have c : i < 400 := by omega
    have w := c_isWord N κ1 (k := 19) (u := 22) p.1 p.2.1 (by decide) (by omega) hN
    rw [pBothL]
    by_cases cs : isW B n 19 j1
    · rw [if_pos cs] at w ⊢
      have jl := isW_lt cs
      have n4 := p.1.1
      have nx := nxt_le (B := B) p.2.1.1
      have nx2 := nx.2 jl
      have h6 := p.2.2.2.2.1
      obtain ⟨κ0, e0, s0, p0⟩ := c_emitP N κ1 (i := 11) (w := 0) p (by omega)
      obtain ⟨κ2, e2, s2, p2⟩ := c_advP N κ0 p0 hN
      have hr := c_readPlain N κ2 hb hrt p2 (by omega) hN
      cases hq : pPlain B n rp b (nxt B n j1) k1 with
      | inl e =>
        rw [hq] at hr
        obtain ⟨κ3, e3, s3, q3⟩ := hr
        refine ⟨κ3, ?_, s.trans (s0.trans (s2.trans s3)), q3⟩
        rw [nX8_readBoth_12]
        simp (maxSteps := 400000) (disch := omega) only [n3_l, n3_add, n3_mul, n3_sub, n3_subn, n3_lt, n3_le, n3_eq, n3_eqn, n3_neq, n3_and, n3_or, n3_shl, n3_i, n3_cl, ↓hbd_0, ↓hbd_1, ↓hbd_2, hk_ob_0, hk_rd_0, hk_rd_1, hk_rd_2, hk_al_0, hk_al_1, h3r_0, h3r_1, hk_wi_0, hk_wj_0, h3w_0, h3w_1, h3v_0, hk_kI, hk_kJ, hk_kA, hk_kB, A_eq, A_ne, A_row, B_eq, B_ne, B_row, I_eq, I_ne, J_eq, J_ne, Option.bind_some, Option.some.injEq, if_true, if_false, eq_self, true_or, or_true, true_and, and_true, false_or, or_false, not_true_eq_false, not_false_eq_true, Classical.not_not, nar_b0, nar_b1, rz_0, rz_1, rz_i, ite01, Nat.add_zero, Nat.zero_add, Nat.one_mul, mul12, reduceIte, ra_z0, Nat.reduceEqDiff, Nat.reduceLT, Nat.reduceLeDiff, Nat.reduceAdd, Nat.reduceMul, Nat.reduceSub, Nat.reduceDiv, Nat.reduceMod, Bool.false_eq_true, false_and, and_false, reduceCtorEq, c, w, h6, e0, e2, e3]
      | inr t =>
        obtain ⟨j2, k2, u⟩ := t
        rw [hq] at hr
        obtain ⟨κ3, f2, K2, e3, s3, p3, b1, b2, b3, b4, b5, b6, b7, b8⟩ := hr
        dsimp only
        have j2n := p3.2.1.1
        obtain ⟨κ4, e4, s4, p4⟩ := c_patchP N κ3 (i := 11) (p := f1) p3 (by omega)
        have b1' : ∀ x, x < f1 → K2 x = K1 x := fun x hx => by
          rw [b1 x (by omega)]
          show (if x = f1 then _ else K1 x) = _
          rw [if_neg (by omega)]
        have r := ih (i + 1) m κ4 j2 k2 f2 _ (vAO 0 v u) (by omega) (by omega) (s.trans (s0.trans (s2.trans (s3.trans s4)))) p4 (fun x hx => by
          show (if x = f1 then _ else K2 x) = _
          rw [if_neg (by omega), b1' x (by omega), a1 x hx]) (by omega) (by omega) (by omega) (by omega) (cFr_growA (o := 0) a6 b1' b6 a7 (by omega) a4 b4) (vAO_t a7 (b8 trivial))
        have e5 : nX8_readBoth_12 N rt (m + 1) 16 (n3 b) (n3 i) (hp κ1) = nX8_readBoth_12 N rt m 16 (n3 b) (n3 (i + 1)) (hp κ4) := by
          rw [nX8_readBoth_12]
          simp (maxSteps := 400000) (disch := omega) only [n3_l, n3_add, n3_mul, n3_sub, n3_subn, n3_lt, n3_le, n3_eq, n3_eqn, n3_neq, n3_and, n3_or, n3_shl, n3_i, n3_cl, ↓hbd_0, ↓hbd_1, ↓hbd_2, hk_ob_0, hk_rd_0, hk_rd_1, hk_rd_2, hk_al_0, hk_al_1, h3r_0, h3r_1, hk_wi_0, hk_wj_0, h3w_0, h3w_1, h3v_0, hk_kI, hk_kJ, hk_kA, hk_kB, A_eq, A_ne, A_row, B_eq, B_ne, B_row, I_eq, I_ne, J_eq, J_ne, Option.bind_some, Option.some.injEq, if_true, if_false, eq_self, true_or, or_true, true_and, and_true, false_or, or_false, not_true_eq_false, not_false_eq_true, Classical.not_not, nar_b0, nar_b1, rz_0, rz_1, rz_i, ite01, Nat.add_zero, Nat.zero_add, Nat.one_mul, mul12, reduceIte, ra_z0, Nat.reduceEqDiff, Nat.reduceLT, Nat.reduceLeDiff, Nat.reduceAdd, Nat.reduceMul, Nat.reduceSub, Nat.reduceDiv, Nat.reduceMod, Bool.false_eq_true, false_and, and_false, reduceCtorEq, c, w, h6, e0, e2, e3, e4]
        rw [e5]
        exact r
    · rw [if_neg cs] at w ⊢
      refine ⟨κ1, f1, K1, ?_, s, p, a1, a2, a3, a4, a5, a6, a7.o, fun _ => a7⟩
      rw [nX8_readBoth_12]
      simp (maxSteps := 400000) (disch := omega) only [n3_l, n3_add, n3_mul, n3_sub, n3_subn, n3_lt, n3_le, n3_eq, n3_eqn, n3_neq, n3_and, n3_or, n3_shl, n3_i, n3_cl, ↓hbd_0, ↓hbd_1, ↓hbd_2, hk_ob_0, hk_rd_0, hk_rd_1, hk_rd_2, hk_al_0, hk_al_1, h3r_0, h3r_1, hk_wi_0, hk_wj_0, h3w_0, h3w_1, h3v_0, hk_kI, hk_kJ, hk_kA, hk_kB, A_eq, A_ne, A_row, B_eq, B_ne, B_row, I_eq, I_ne, J_eq, J_ne, Option.bind_some, Option.some.injEq, if_true, if_false, eq_self, true_or, or_true, true_and, and_true, false_or, or_false, not_true_eq_false, not_false_eq_true, Classical.not_not, nar_b0, nar_b1, rz_0, rz_1, rz_i, ite01, Nat.add_zero, Nat.zero_add, Nat.one_mul, mul12, reduceIte, ra_z0, Nat.reduceEqDiff, Nat.reduceLT, Nat.reduceLeDiff, Nat.reduceAdd, Nat.reduceMul, Nat.reduceSub, Nat.reduceDiv, Nat.reduceMod, Bool.false_eq_true, false_and, and_false, reduceCtorEq, c, w, nX8_readBoth_67]
theorem c_readBoth {B : Nat → Nat} {n b j k f : Nat} {K : Nat → Nat} {rt : Nat → Int32 → ra_H → Option (Int32 × ra_H)} {rp : Nat → Nat → pRT} (hb : b ≤ 8) (hrt : b < 8 → ∀ κ j k f K, cP κ B n j k f K → f ≤ j → cRet κ B n j k f K True (rp j k) (rt 16 (n3 (b + 1)) (hp κ))) (h : cP κ B n j k f K) (hf : f ≤ j) (hN : 1000 < N) : cRet κ B n j k f K True (pBoth B n rp b j k) (fX8_readBoth N rt 16 (n3 b) (hp κ)) := by
  have st : fX8_readBoth N rt 16 (n3 b) (hp κ) = (nX8_readBoth_0 N rt 16 (n3 b) (hp κ)).bind (fun q => ra_rz q.1 q.2) := by
    unfold fX8_readBoth
    simp (maxSteps := 400000) (disch := omega) only [n3_l, n3_add, n3_mul, n3_sub, n3_subn, n3_lt, n3_le, n3_eq, n3_eqn, n3_neq, n3_and, n3_or, n3_shl, n3_i, n3_cl, ↓hbd_0, ↓hbd_1, ↓hbd_2, hk_ob_0, hk_rd_0, hk_rd_1, hk_rd_2, hk_al_0, hk_al_1, h3r_0, h3r_1, hk_wi_0, hk_wj_0, h3w_0, h3w_1, h3v_0, hk_kI, hk_kJ, hk_kA, hk_kB, A_eq, A_ne, A_row, B_eq, B_ne, B_row, I_eq, I_ne, J_eq, J_ne, Option.bind_some, Option.some.injEq, if_true, if_false, eq_self, true_or, or_true, true_and, and_true, false_or, or_false, not_true_eq_false, not_false_eq_true, Classical.not_not, nar_b0, nar_b1, rz_0, rz_1, rz_i, ite01, Nat.add_zero, Nat.zero_add, Nat.one_mul, mul12, reduceIte, ra_z0, Nat.reduceEqDiff, Nat.reduceLT, Nat.reduceLeDiff, Nat.reduceAdd, Nat.reduceMul, Nat.reduceSub, Nat.reduceDiv, Nat.reduceMod, Bool.false_eq_true, false_and, and_false, reduceCtorEq]
  rw [st]
  refine cRet.rz ?_
  have hr := c_readPlain N κ hb hrt h hf hN
  unfold pBoth nX8_readBoth_0
  cases hq : pPlain B n rp b j k with
  | inl e =>
    rw [hq] at hr
    obtain ⟨κ3, e3, s3, q3⟩ := hr
    refine ⟨κ3, ?_, s3, q3⟩
    simp (maxSteps := 400000) (disch := omega) only [n3_l, n3_add, n3_mul, n3_sub, n3_subn, n3_lt, n3_le, n3_eq, n3_eqn, n3_neq, n3_and, n3_or, n3_shl, n3_i, n3_cl, ↓hbd_0, ↓hbd_1, ↓hbd_2, hk_ob_0, hk_rd_0, hk_rd_1, hk_rd_2, hk_al_0, hk_al_1, h3r_0, h3r_1, hk_wi_0, hk_wj_0, h3w_0, h3w_1, h3v_0, hk_kI, hk_kJ, hk_kA, hk_kB, A_eq, A_ne, A_row, B_eq, B_ne, B_row, I_eq, I_ne, J_eq, J_ne, Option.bind_some, Option.some.injEq, if_true, if_false, eq_self, true_or, or_true, true_and, and_true, false_or, or_false, not_true_eq_false, not_false_eq_true, Classical.not_not, nar_b0, nar_b1, rz_0, rz_1, rz_i, ite01, Nat.add_zero, Nat.zero_add, Nat.one_mul, mul12, reduceIte, ra_z0, Nat.reduceEqDiff, Nat.reduceLT, Nat.reduceLeDiff, Nat.reduceAdd, Nat.reduceMul, Nat.reduceSub, Nat.reduceDiv, Nat.reduceMod, Bool.false_eq_true, false_and, and_false, reduceCtorEq, e3]
  | inr t =>
    obtain ⟨j2, k2, w⟩ := t
    rw [hq] at hr
    obtain ⟨κ3, f2, K2, e3, s3, p3, b1, b2, b3, b4, b5, b6, b7, b8⟩ := hr
    have r := c_bothL N κ hb hrt hf hN 400 0 N κ3 j2 k2 f2 K2 w (by omega) (by omega) s3 p3 b1 b2 b3 b4 b5 b6 (b8 trivial)
    have e4 : ((fX8_readPlain N rt 16 (n3 b) (hp κ)).bind fun q1 => if q1.1 = 0 then some ((0 : Int32), q1.2) else nX8_readBoth_12 N rt N 16 (n3 b) ((0 : Int32)) q1.2) = nX8_readBoth_12 N rt N 16 (n3 b) (n3 0) (hp κ3) := by
      simp (maxSteps := 400000) (disch := omega) only [n3_l, n3_add, n3_mul, n3_sub, n3_subn, n3_lt, n3_le, n3_eq, n3_eqn, n3_neq, n3_and, n3_or, n3_shl, n3_i, n3_cl, ↓hbd_0, ↓hbd_1, ↓hbd_2, hk_ob_0, hk_rd_0, hk_rd_1, hk_rd_2, hk_al_0, hk_al_1, h3r_0, h3r_1, hk_wi_0, hk_wj_0, h3w_0, h3w_1, h3v_0, hk_kI, hk_kJ, hk_kA, hk_kB, A_eq, A_ne, A_row, B_eq, B_ne, B_row, I_eq, I_ne, J_eq, J_ne, Option.bind_some, Option.some.injEq, if_true, if_false, eq_self, true_or, or_true, true_and, and_true, false_or, or_false, not_true_eq_false, not_false_eq_true, Classical.not_not, nar_b0, nar_b1, rz_0, rz_1, rz_i, ite01, Nat.add_zero, Nat.zero_add, Nat.one_mul, mul12, reduceIte, ra_z0, Nat.reduceEqDiff, Nat.reduceLT, Nat.reduceLeDiff, Nat.reduceAdd, Nat.reduceMul, Nat.reduceSub, Nat.reduceDiv, Nat.reduceMod, Bool.false_eq_true, false_and, and_false, reduceCtorEq, e3]
    rw [e4]
    exact r
end
section
variable (N : Nat) (κ : hk_T)
theorem c_testL {B : Nat → Nat} {n b j k f : Nat} {K : Nat → Nat} {rt : Nat → Int32 → ra_H → Option (Int32 × ra_H)} {rp : Nat → Nat → pRT} (hb : b ≤ 8) (hrt : b < 8 → ∀ κ j k f K, cP κ B n j k f K → f ≤ j → cRet κ B n j k f K True (rp j k) (rt 16 (n3 (b + 1)) (hp κ))) (hf : f ≤ j) (hN : 1000 < N) :
    ∀ M i m κ1 j1 k1 f1 K1 v, M + i = 400 → M < m → cS κ κ1 → cP κ1 B n j1 k1 f1 K1 → (∀ x, x < f → K1 x = K x) → f < f1 → f1 + j ≤ f + j1 → k < k1 → j < j1 → cFr K1 f f1 (k1 - k) v → vT v → cRet κ B n j k f K True (pTestL B n rp b M j1 k1 v) (nX8_readTesto_12 N rt m 16 (n3 b) (n3 i) (hp κ1)) := by
  intro M
  induction M with
  | zero =>
    intro i m κ1 j1 k1 f1 K1 v hi hm s p a1 a2 a3 a4 a5 a6 a7
    obtain ⟨m, rfl⟩ : ∃ q, m = q + 1 := ⟨m - 1, by omega⟩
    have c : ¬ i < 400 := by omega
    refine ⟨κ1, f1, K1, ?_, s, p, a1, a2, a3, a4, a5, a6, a7.o, fun _ => a7⟩
    rw [nX8_readTesto_12]
    simp (maxSteps := 400000) (disch := omega) only [n3_l, n3_add, n3_mul, n3_sub, n3_subn, n3_lt, n3_le, n3_eq, n3_eqn, n3_neq, n3_and, n3_or, n3_shl, n3_i, n3_cl, ↓hbd_0, ↓hbd_1, ↓hbd_2, hk_ob_0, hk_rd_0, hk_rd_1, hk_rd_2, hk_al_0, hk_al_1, h3r_0, h3r_1, hk_wi_0, hk_wj_0, h3w_0, h3w_1, h3v_0, hk_kI, hk_kJ, hk_kA, hk_kB, A_eq, A_ne, A_row, B_eq, B_ne, B_row, I_eq, I_ne, J_eq, J_ne, Option.bind_some, Option.some.injEq, if_true, if_false, eq_self, true_or, or_true, true_and, and_true, false_or, or_false, not_true_eq_false, not_false_eq_true, Classical.not_not, nar_b0, nar_b1, rz_0, rz_1, rz_i, ite01, Nat.add_zero, Nat.zero_add, Nat.one_mul, mul12, reduceIte, ra_z0, Nat.reduceEqDiff, Nat.reduceLT, Nat.reduceLeDiff, Nat.reduceAdd, Nat.reduceMul, Nat.reduceSub, Nat.reduceDiv, Nat.reduceMod, Bool.false_eq_true, false_and, and_false, reduceCtorEq, c, nX8_readTesto_67]
  | succ M ih =>
    intro i m κ1 j1 k1 f1 K1 v hi hm s p a1 a2 a3 a4 a5 a6 a7
    obtain ⟨m, rfl⟩ : ∃ q, m = q + 1 := ⟨m - 1, by omega⟩
    have c : i < 400 := by omega
    have w := c_isWord N κ1 (k := 20) (u := 23) p.1 p.2.1 (by decide) (by omega) hN
    rw [pTestL]
    by_cases cs : isW B n 20 j1
    · rw [if_pos cs] at w ⊢
      have jl := isW_lt cs
      have n4 := p.1.1
      have nx := nxt_le (B := B) p.2.1.1
      have nx2 := nx.2 jl
      have h6 := p.2.2.2.2.1
      obtain ⟨κ0, e0, s0, p0⟩ := c_emitP N κ1 (i := 10) (w := 0) p (by omega)
      obtain ⟨κ2, e2, s2, p2⟩ := c_advP N κ0 p0 hN
      have hr := c_readBoth N κ2 hb hrt p2 (by omega) hN
      cases hq : pBoth B n rp b (nxt B n j1) k1 with
      | inl e =>
        rw [hq] at hr
        obtain ⟨κ3, e3, s3, q3⟩ := hr
        refine ⟨κ3, ?_, s.trans (s0.trans (s2.trans s3)), q3⟩
        rw [nX8_readTesto_12]
        simp (maxSteps := 400000) (disch := omega) only [n3_l, n3_add, n3_mul, n3_sub, n3_subn, n3_lt, n3_le, n3_eq, n3_eqn, n3_neq, n3_and, n3_or, n3_shl, n3_i, n3_cl, ↓hbd_0, ↓hbd_1, ↓hbd_2, hk_ob_0, hk_rd_0, hk_rd_1, hk_rd_2, hk_al_0, hk_al_1, h3r_0, h3r_1, hk_wi_0, hk_wj_0, h3w_0, h3w_1, h3v_0, hk_kI, hk_kJ, hk_kA, hk_kB, A_eq, A_ne, A_row, B_eq, B_ne, B_row, I_eq, I_ne, J_eq, J_ne, Option.bind_some, Option.some.injEq, if_true, if_false, eq_self, true_or, or_true, true_and, and_true, false_or, or_false, not_true_eq_false, not_false_eq_true, Classical.not_not, nar_b0, nar_b1, rz_0, rz_1, rz_i, ite01, Nat.add_zero, Nat.zero_add, Nat.one_mul, mul12, reduceIte, ra_z0, Nat.reduceEqDiff, Nat.reduceLT, Nat.reduceLeDiff, Nat.reduceAdd, Nat.reduceMul, Nat.reduceSub, Nat.reduceDiv, Nat.reduceMod, Bool.false_eq_true, false_and, and_false, reduceCtorEq, c, w, h6, e0, e2, e3]
      | inr t =>
        obtain ⟨j2, k2, u⟩ := t
        rw [hq] at hr
        obtain ⟨κ3, f2, K2, e3, s3, p3, b1, b2, b3, b4, b5, b6, b7, b8⟩ := hr
        dsimp only
        have j2n := p3.2.1.1
        obtain ⟨κ4, e4, s4, p4⟩ := c_patchP N κ3 (i := 10) (p := f1) p3 (by omega)
        have b1' : ∀ x, x < f1 → K2 x = K1 x := fun x hx => by
          rw [b1 x (by omega)]
          show (if x = f1 then _ else K1 x) = _
          rw [if_neg (by omega)]
        have r := ih (i + 1) m κ4 j2 k2 f2 _ (vAO 1 v u) (by omega) (by omega) (s.trans (s0.trans (s2.trans (s3.trans s4)))) p4 (fun x hx => by
          show (if x = f1 then _ else K2 x) = _
          rw [if_neg (by omega), b1' x (by omega), a1 x hx]) (by omega) (by omega) (by omega) (by omega) (cFr_growA (o := 1) a6 b1' b6 a7 (by omega) a4 b4) (vAO_t a7 (b8 trivial))
        have e5 : nX8_readTesto_12 N rt (m + 1) 16 (n3 b) (n3 i) (hp κ1) = nX8_readTesto_12 N rt m 16 (n3 b) (n3 (i + 1)) (hp κ4) := by
          rw [nX8_readTesto_12]
          simp (maxSteps := 400000) (disch := omega) only [n3_l, n3_add, n3_mul, n3_sub, n3_subn, n3_lt, n3_le, n3_eq, n3_eqn, n3_neq, n3_and, n3_or, n3_shl, n3_i, n3_cl, ↓hbd_0, ↓hbd_1, ↓hbd_2, hk_ob_0, hk_rd_0, hk_rd_1, hk_rd_2, hk_al_0, hk_al_1, h3r_0, h3r_1, hk_wi_0, hk_wj_0, h3w_0, h3w_1, h3v_0, hk_kI, hk_kJ, hk_kA, hk_kB, A_eq, A_ne, A_row, B_eq, B_ne, B_row, I_eq, I_ne, J_eq, J_ne, Option.bind_some, Option.some.injEq, if_true, if_false, eq_self, true_or, or_true, true_and, and_true, false_or, or_false, not_true_eq_false, not_false_eq_true, Classical.not_not, nar_b0, nar_b1, rz_0, rz_1, rz_i, ite01, Nat.add_zero, Nat.zero_add, Nat.one_mul, mul12, reduceIte, ra_z0, Nat.reduceEqDiff, Nat.reduceLT, Nat.reduceLeDiff, Nat.reduceAdd, Nat.reduceMul, Nat.reduceSub, Nat.reduceDiv, Nat.reduceMod, Bool.false_eq_true, false_and, and_false, reduceCtorEq, c, w, h6, e0, e2, e3, e4]
        rw [e5]
        exact r
    · rw [if_neg cs] at w ⊢
      refine ⟨κ1, f1, K1, ?_, s, p, a1, a2, a3, a4, a5, a6, a7.o, fun _ => a7⟩
      rw [nX8_readTesto_12]
      simp (maxSteps := 400000) (disch := omega) only [n3_l, n3_add, n3_mul, n3_sub, n3_subn, n3_lt, n3_le, n3_eq, n3_eqn, n3_neq, n3_and, n3_or, n3_shl, n3_i, n3_cl, ↓hbd_0, ↓hbd_1, ↓hbd_2, hk_ob_0, hk_rd_0, hk_rd_1, hk_rd_2, hk_al_0, hk_al_1, h3r_0, h3r_1, hk_wi_0, hk_wj_0, h3w_0, h3w_1, h3v_0, hk_kI, hk_kJ, hk_kA, hk_kB, A_eq, A_ne, A_row, B_eq, B_ne, B_row, I_eq, I_ne, J_eq, J_ne, Option.bind_some, Option.some.injEq, if_true, if_false, eq_self, true_or, or_true, true_and, and_true, false_or, or_false, not_true_eq_false, not_false_eq_true, Classical.not_not, nar_b0, nar_b1, rz_0, rz_1, rz_i, ite01, Nat.add_zero, Nat.zero_add, Nat.one_mul, mul12, reduceIte, ra_z0, Nat.reduceEqDiff, Nat.reduceLT, Nat.reduceLeDiff, Nat.reduceAdd, Nat.reduceMul, Nat.reduceSub, Nat.reduceDiv, Nat.reduceMod, Bool.false_eq_true, false_and, and_false, reduceCtorEq, c, w, nX8_readTesto_67]
theorem c_readTesto {B : Nat → Nat} {n b j k f : Nat} {K : Nat → Nat} {rt : Nat → Int32 → ra_H → Option (Int32 × ra_H)} {rp : Nat → Nat → pRT} (hb : b ≤ 8) (hrt : b < 8 → ∀ κ j k f K, cP κ B n j k f K → f ≤ j → cRet κ B n j k f K True (rp j k) (rt 16 (n3 (b + 1)) (hp κ))) (h : cP κ B n j k f K) (hf : f ≤ j) (hN : 1000 < N) : cRet κ B n j k f K True (pTestO B n rp b j k) (fX8_readTesto N rt 16 (n3 b) (hp κ)) := by
  have st : fX8_readTesto N rt 16 (n3 b) (hp κ) = (nX8_readTesto_0 N rt 16 (n3 b) (hp κ)).bind (fun q => ra_rz q.1 q.2) := by
    unfold fX8_readTesto
    simp (maxSteps := 400000) (disch := omega) only [n3_l, n3_add, n3_mul, n3_sub, n3_subn, n3_lt, n3_le, n3_eq, n3_eqn, n3_neq, n3_and, n3_or, n3_shl, n3_i, n3_cl, ↓hbd_0, ↓hbd_1, ↓hbd_2, hk_ob_0, hk_rd_0, hk_rd_1, hk_rd_2, hk_al_0, hk_al_1, h3r_0, h3r_1, hk_wi_0, hk_wj_0, h3w_0, h3w_1, h3v_0, hk_kI, hk_kJ, hk_kA, hk_kB, A_eq, A_ne, A_row, B_eq, B_ne, B_row, I_eq, I_ne, J_eq, J_ne, Option.bind_some, Option.some.injEq, if_true, if_false, eq_self, true_or, or_true, true_and, and_true, false_or, or_false, not_true_eq_false, not_false_eq_true, Classical.not_not, nar_b0, nar_b1, rz_0, rz_1, rz_i, ite01, Nat.add_zero, Nat.zero_add, Nat.one_mul, mul12, reduceIte, ra_z0, Nat.reduceEqDiff, Nat.reduceLT, Nat.reduceLeDiff, Nat.reduceAdd, Nat.reduceMul, Nat.reduceSub, Nat.reduceDiv, Nat.reduceMod, Bool.false_eq_true, false_and, and_false, reduceCtorEq]
  rw [st]
  refine cRet.rz ?_
  have hr := c_readBoth N κ hb hrt h hf hN
  unfold pTestO nX8_readTesto_0
  cases hq : pBoth B n rp b j k with
  | inl e =>
    rw [hq] at hr
    obtain ⟨κ3, e3, s3, q3⟩ := hr
    refine ⟨κ3, ?_, s3, q3⟩
    simp (maxSteps := 400000) (disch := omega) only [n3_l, n3_add, n3_mul, n3_sub, n3_subn, n3_lt, n3_le, n3_eq, n3_eqn, n3_neq, n3_and, n3_or, n3_shl, n3_i, n3_cl, ↓hbd_0, ↓hbd_1, ↓hbd_2, hk_ob_0, hk_rd_0, hk_rd_1, hk_rd_2, hk_al_0, hk_al_1, h3r_0, h3r_1, hk_wi_0, hk_wj_0, h3w_0, h3w_1, h3v_0, hk_kI, hk_kJ, hk_kA, hk_kB, A_eq, A_ne, A_row, B_eq, B_ne, B_row, I_eq, I_ne, J_eq, J_ne, Option.bind_some, Option.some.injEq, if_true, if_false, eq_self, true_or, or_true, true_and, and_true, false_or, or_false, not_true_eq_false, not_false_eq_true, Classical.not_not, nar_b0, nar_b1, rz_0, rz_1, rz_i, ite01, Nat.add_zero, Nat.zero_add, Nat.one_mul, mul12, reduceIte, ra_z0, Nat.reduceEqDiff, Nat.reduceLT, Nat.reduceLeDiff, Nat.reduceAdd, Nat.reduceMul, Nat.reduceSub, Nat.reduceDiv, Nat.reduceMod, Bool.false_eq_true, false_and, and_false, reduceCtorEq, e3]
  | inr t =>
    obtain ⟨j2, k2, w⟩ := t
    rw [hq] at hr
    obtain ⟨κ3, f2, K2, e3, s3, p3, b1, b2, b3, b4, b5, b6, b7, b8⟩ := hr
    have r := c_testL N κ hb hrt hf hN 400 0 N κ3 j2 k2 f2 K2 w (by omega) (by omega) s3 p3 b1 b2 b3 b4 b5 b6 (b8 trivial)
    have e4 : ((fX8_readBoth N rt 16 (n3 b) (hp κ)).bind fun q1 => if q1.1 = 0 then some ((0 : Int32), q1.2) else nX8_readTesto_12 N rt N 16 (n3 b) ((0 : Int32)) q1.2) = nX8_readTesto_12 N rt N 16 (n3 b) (n3 0) (hp κ3) := by
      simp (maxSteps := 400000) (disch := omega) only [n3_l, n3_add, n3_mul, n3_sub, n3_subn, n3_lt, n3_le, n3_eq, n3_eqn, n3_neq, n3_and, n3_or, n3_shl, n3_i, n3_cl, ↓hbd_0, ↓hbd_1, ↓hbd_2, hk_ob_0, hk_rd_0, hk_rd_1, hk_rd_2, hk_al_0, hk_al_1, h3r_0, h3r_1, hk_wi_0, hk_wj_0, h3w_0, h3w_1, h3v_0, hk_kI, hk_kJ, hk_kA, hk_kB, A_eq, A_ne, A_row, B_eq, B_ne, B_row, I_eq, I_ne, J_eq, J_ne, Option.bind_some, Option.some.injEq, if_true, if_false, eq_self, true_or, or_true, true_and, and_true, false_or, or_false, not_true_eq_false, not_false_eq_true, Classical.not_not, nar_b0, nar_b1, rz_0, rz_1, rz_i, ite01, Nat.add_zero, Nat.zero_add, Nat.one_mul, mul12, reduceIte, ra_z0, Nat.reduceEqDiff, Nat.reduceLT, Nat.reduceLeDiff, Nat.reduceAdd, Nat.reduceMul, Nat.reduceSub, Nat.reduceDiv, Nat.reduceMod, Bool.false_eq_true, false_and, and_false, reduceCtorEq, e3]
    rw [e4]
    exact r
end
theorem c_readTest (N : Nat) {B : Nat → Nat} {n : Nat} (hN : 1000 < N) : ∀ d b, 9 ≤ d + b → b ≤ 8 → ∀ κ j k f K, cP κ B n j k f K → f ≤ j → cRet κ B n j k f K True (pTest B n d b j k) (rX8_readTest N d 16 (n3 b) (hp κ)) := by
  intro d
  induction d with
  | zero => intro b h1 h2; omega
  | succ d ih =>
    intro b h1 h2 κ j k f K h hf
    rw [pTest, rX8_readTest]
    exact c_readTesto N κ h2 (fun hb => ih (b + 1) (by omega) (by omega)) h hf hN
