/-! keep, could -/
theorem load_le {P : Nat → Prop} [DecidablePred P] {F : Nat → Int32} {n : Nat} : ∀ m, m ≤ n → (∀ b, b < n → vIn 1 30 (F (12 * b + 3)) = true) → ∃ k, k ≤ 30 * m ∧ fo (fun b s => if P b then s + F (12 * b + 3) else s) 0 m (n3 0) = n3 k := by
  intro m
  induction m with
  | zero => intro _ _; exact ⟨0, by omega, rfl⟩
  | succ m ih =>
    intro hm hF
    obtain ⟨k, k1, k2⟩ := ih (by omega) hF
    rw [fo_last, Nat.zero_add, k2]
    by_cases c : P m
    · obtain ⟨t, t1, t2, t3⟩ := vK (lo := 1) (hi := 30) (hF m (by omega))
      exact ⟨k + t, by omega, by rw [if_pos c, t3, n3_add]⟩
    · exact ⟨k, by omega, by rw [if_neg c]⟩
section
variable (N : Nat) {L c : Nat} {xs : Nat → Int32} {κ : hk_T}
theorem k_keep (h : Inv L xs c κ) (hc : c < 4000) (hN : 100000 < N) (f g y : Int32) : callOk L xs c κ (fX11_keep N 0 f g y) (fX12_keep N 69 f g y) := by
  have h0 := h
  obtain ⟨n, nT, nL, nS, T, H⟩ := h0
  have H' : InvC L xs c κ n nT nL nS T := H
  have n40 := H'.toC.2.1
  have hF : hrF (hk_A κ 2) (hk_A κ 71) n := H'.2.2.1.2.2.1
  have hS : hrS (hk_A κ 3) (hk_A κ 4) (hk_A κ 5) (hk_A κ 71) := H'.2.2.1.2.2.2.1
  have cH' := H'.toC
  have t8 := cH'.2.2.2.1
  have hs := fun t => c_hasScheme N κ t cH'.2.2.1 t8 (fun t ht => by obtain ⟨q, a, -⟩ := cH'.2.2.2.2.1 t ht; exact ⟨q, a⟩)
  have j200 : ((200 : Int64)).toInt = 200 := by decide
  by_cases v3 : vIn 0 200 y = true
  · by_cases v : vIn 0 (nT - 1) f = true ∧ vIn 0 (nT - 1) g = true
    · obtain ⟨v1, v2⟩ := v
      obtain ⟨f, hf, rfl⟩ := vB v1
      obtain ⟨g, hg, rfl⟩ := vB v2
      obtain ⟨y, -, hy, rfl⟩ := vK (lo := 0) (hi := 200) v3
      obtain ⟨κa, qa⟩ : ∃ κa, κa = hk_wI (hk_wI (hk_wI (hk_wI (hk_wI κ 1 17 (n3 f)) 1 18 (n3 g)) 1 19 (n3 y)) 23 9 (n3 0)) 23 10 (n3 0) := ⟨_, rfl⟩
      have sa : same [] [(1, 17), (1, 18), (1, 19), (23, 9), (23, 10)] κ κa := by
        rw [qa]
        exact (((((same.refl _ _ _).wI (by decide)).wI (by decide)).wI (by decide)).wI (by decide)).wI (by decide)
      have a2 : hk_A κa 2 = hk_A κ 2 := sa.1 2 (by decide)
      have a3 : hk_A κa 3 = hk_A κ 3 := sa.1 3 (by decide)
      have a5 : hk_A κa 5 = hk_A κ 5 := sa.1 5 (by decide)
      have cHa : cH κa n nT T := by
        obtain ⟨d1, d2, d3, d4, d5, d6, d7, d8⟩ := cH'
        refine ⟨by rw [sa.2.2.1 1 13 (by decide)]; exact d1, d2, by rw [sa.2.2.1 1 14 (by decide)]; exact d3, d4, d5.mono sa.2.2.2.1 sa.2.2.2.2.2.1, by rw [a2]; exact d6, sa.c1 (by decide) d7, sa.c2 (by decide) d8⟩
      have i17 : hk_I κa 1 17 = n3 f := by rw [qa]; simp (maxSteps := 400000) (disch := omega) only [n3_l, n3_add, n3_mul, n3_sub, n3_subn, n3_lt, n3_le, n3_eq, n3_eqn, n3_neq, n3_and, n3_or, n3_shl, n3_i, n3_cl, ↓hbd_0, ↓hbd_1, ↓hbd_2, hk_ob_0, hk_rd_0, hk_rd_1, hk_rd_2, hk_al_0, hk_al_1, h3r_0, h3r_1, hk_wi_0, hk_wj_0, h3w_0, h3w_1, h3v_0, hk_kI, hk_kJ, hk_kA, hk_kB, A_eq, A_ne, A_row, B_eq, B_ne, B_row, I_eq, I_ne, J_eq, J_ne, Option.bind_some, Option.some.injEq, if_true, if_false, eq_self, true_or, or_true, true_and, and_true, false_or, or_false, not_true_eq_false, not_false_eq_true, Classical.not_not, nar_b0, nar_b1, rz_0, rz_1, rz_i, ite01, Nat.add_zero, Nat.zero_add, Nat.one_mul, mul12, reduceIte, ra_z0, Nat.reduceEqDiff, Nat.reduceLT, Nat.reduceLeDiff, Nat.reduceAdd, Nat.reduceMul, Nat.reduceSub, Nat.reduceDiv, Nat.reduceMod, Bool.false_eq_true, false_and, and_false, reduceCtorEq]
      have i18 : hk_I κa 1 18 = n3 g := by rw [qa]; simp (maxSteps := 400000) (disch := omega) only [n3_l, n3_add, n3_mul, n3_sub, n3_subn, n3_lt, n3_le, n3_eq, n3_eqn, n3_neq, n3_and, n3_or, n3_shl, n3_i, n3_cl, ↓hbd_0, ↓hbd_1, ↓hbd_2, hk_ob_0, hk_rd_0, hk_rd_1, hk_rd_2, hk_al_0, hk_al_1, h3r_0, h3r_1, hk_wi_0, hk_wj_0, h3w_0, h3w_1, h3v_0, hk_kI, hk_kJ, hk_kA, hk_kB, A_eq, A_ne, A_row, B_eq, B_ne, B_row, I_eq, I_ne, J_eq, J_ne, Option.bind_some, Option.some.injEq, if_true, if_false, eq_self, true_or, or_true, true_and, and_true, false_or, or_false, not_true_eq_false, not_false_eq_true, Classical.not_not, nar_b0, nar_b1, rz_0, rz_1, rz_i, ite01, Nat.add_zero, Nat.zero_add, Nat.one_mul, mul12, reduceIte, ra_z0, Nat.reduceEqDiff, Nat.reduceLT, Nat.reduceLeDiff, Nat.reduceAdd, Nat.reduceMul, Nat.reduceSub, Nat.reduceDiv, Nat.reduceMod, Bool.false_eq_true, false_and, and_false, reduceCtorEq]
      have i19 : hk_I κa 1 19 = n3 y := by rw [qa]; simp (maxSteps := 400000) (disch := omega) only [n3_l, n3_add, n3_mul, n3_sub, n3_subn, n3_lt, n3_le, n3_eq, n3_eqn, n3_neq, n3_and, n3_or, n3_shl, n3_i, n3_cl, ↓hbd_0, ↓hbd_1, ↓hbd_2, hk_ob_0, hk_rd_0, hk_rd_1, hk_rd_2, hk_al_0, hk_al_1, h3r_0, h3r_1, hk_wi_0, hk_wj_0, h3w_0, h3w_1, h3v_0, hk_kI, hk_kJ, hk_kA, hk_kB, A_eq, A_ne, A_row, B_eq, B_ne, B_row, I_eq, I_ne, J_eq, J_ne, Option.bind_some, Option.some.injEq, if_true, if_false, eq_self, true_or, or_true, true_and, and_true, false_or, or_false, not_true_eq_false, not_false_eq_true, Classical.not_not, nar_b0, nar_b1, rz_0, rz_1, rz_i, ite01, Nat.add_zero, Nat.zero_add, Nat.one_mul, mul12, reduceIte, ra_z0, Nat.reduceEqDiff, Nat.reduceLT, Nat.reduceLeDiff, Nat.reduceAdd, Nat.reduceMul, Nat.reduceSub, Nat.reduceDiv, Nat.reduceMod, Bool.false_eq_true, false_and, and_false, reduceCtorEq]
      have i9 : hk_I κa 23 9 = n3 0 := by rw [qa]; simp (maxSteps := 400000) (disch := omega) only [n3_l, n3_add, n3_mul, n3_sub, n3_subn, n3_lt, n3_le, n3_eq, n3_eqn, n3_neq, n3_and, n3_or, n3_shl, n3_i, n3_cl, ↓hbd_0, ↓hbd_1, ↓hbd_2, hk_ob_0, hk_rd_0, hk_rd_1, hk_rd_2, hk_al_0, hk_al_1, h3r_0, h3r_1, hk_wi_0, hk_wj_0, h3w_0, h3w_1, h3v_0, hk_kI, hk_kJ, hk_kA, hk_kB, A_eq, A_ne, A_row, B_eq, B_ne, B_row, I_eq, I_ne, J_eq, J_ne, Option.bind_some, Option.some.injEq, if_true, if_false, eq_self, true_or, or_true, true_and, and_true, false_or, or_false, not_true_eq_false, not_false_eq_true, Classical.not_not, nar_b0, nar_b1, rz_0, rz_1, rz_i, ite01, Nat.add_zero, Nat.zero_add, Nat.one_mul, mul12, reduceIte, ra_z0, Nat.reduceEqDiff, Nat.reduceLT, Nat.reduceLeDiff, Nat.reduceAdd, Nat.reduceMul, Nat.reduceSub, Nat.reduceDiv, Nat.reduceMod, Bool.false_eq_true, false_and, and_false, reduceCtorEq]
      have i10 : hk_I κa 23 10 = n3 0 := by rw [qa]; simp (maxSteps := 400000) (disch := omega) only [n3_l, n3_add, n3_mul, n3_sub, n3_subn, n3_lt, n3_le, n3_eq, n3_eqn, n3_neq, n3_and, n3_or, n3_shl, n3_i, n3_cl, ↓hbd_0, ↓hbd_1, ↓hbd_2, hk_ob_0, hk_rd_0, hk_rd_1, hk_rd_2, hk_al_0, hk_al_1, h3r_0, h3r_1, hk_wi_0, hk_wj_0, h3w_0, h3w_1, h3v_0, hk_kI, hk_kJ, hk_kA, hk_kB, A_eq, A_ne, A_row, B_eq, B_ne, B_row, I_eq, I_ne, J_eq, J_ne, Option.bind_some, Option.some.injEq, if_true, if_false, eq_self, true_or, or_true, true_and, and_true, false_or, or_false, not_true_eq_false, not_false_eq_true, Classical.not_not, nar_b0, nar_b1, rz_0, rz_1, rz_i, ite01, Nat.add_zero, Nat.zero_add, Nat.one_mul, mul12, reduceIte, ra_z0, Nat.reduceEqDiff, Nat.reduceLT, Nat.reduceLeDiff, Nat.reduceAdd, Nat.reduceMul, Nat.reduceSub, Nat.reduceDiv, Nat.reduceMod, Bool.false_eq_true, false_and, and_false, reduceCtorEq]
      obtain ⟨κ1, e1, s1, b1, b2, b3⟩ := c_settleKept N κa (y := y) cHa hf hg hN i17 i18 i19 (fun z => absurd i9 z)
      rw [a2, a3, a5] at b2
      have e1' := e1
      rw [qa] at e1'
      have ec : fX11_keep N 0 (n3 f) (n3 g) (n3 y) (hp κ) = some (n3 (cnt (fun b => howG (mkF (hk_A κ 2)) (seF T (hk_A κ 2) f g y) (rtB (hk_A κ 3) (hk_A κ 5) (hk_A κ 2)) b = 4) n), hp (hk_wI κ1 0 10 (n3 0))) := by
        simp (maxSteps := 400000) (disch := omega) only [n3_l, n3_add, n3_mul, n3_sub, n3_subn, n3_lt, n3_le, n3_eq, n3_eqn, n3_neq, n3_and, n3_or, n3_shl, n3_i, n3_cl, ↓hbd_0, ↓hbd_1, ↓hbd_2, hk_ob_0, hk_rd_0, hk_rd_1, hk_rd_2, hk_al_0, hk_al_1, h3r_0, h3r_1, hk_wi_0, hk_wj_0, h3w_0, h3w_1, h3v_0, hk_kI, hk_kJ, hk_kA, hk_kB, A_eq, A_ne, A_row, B_eq, B_ne, B_row, I_eq, I_ne, J_eq, J_ne, Option.bind_some, Option.some.injEq, if_true, if_false, eq_self, true_or, or_true, true_and, and_true, false_or, or_false, not_true_eq_false, not_false_eq_true, Classical.not_not, nar_b0, nar_b1, rz_0, rz_1, rz_i, ite01, Nat.add_zero, Nat.zero_add, Nat.one_mul, mul12, reduceIte, ra_z0, Nat.reduceEqDiff, Nat.reduceLT, Nat.reduceLeDiff, Nat.reduceAdd, Nat.reduceMul, Nat.reduceSub, Nat.reduceDiv, Nat.reduceMod, Bool.false_eq_true, false_and, and_false, reduceCtorEq, fX11_keep, nX11_keep_0, c_isTurn, v3, hs, v1, v2, c_forgetStanding, e1', b2.2.2, c_acc]
      obtain ⟨κb, qb⟩ : ∃ κb, κb = hk_wA (hk_wA (hk_wA (hk_wI (hk_wI κ1 0 10 (n3 0)) 69 0 (n3 0)) 71 484 (n3 f)) 71 485 (n3 g)) 71 486 (n3 y) := ⟨_, rfl⟩
      have sb : same [71] [(0, 10), (69, 0)] κ1 κb := by
        rw [qb]
        exact (((((same.refl _ _ _).wI (by decide)).wI (by decide)).wA (by decide)).wA (by decide)).wA (by decide)
      have m1 : hk_A κ1 71 = hk_A κ 71 := (s1.1 71 (by decide)).trans (sa.1 71 (by decide))
      have mb : ∀ x, hk_A κb 71 x = if x = 486 then n3 y else if x = 485 then n3 g else if x = 484 then n3 f else hk_A κ 71 x := fun x => by rw [qb, A_at, A_at, A_at, A_wI, A_wI, m1]
      have mo : ∀ x, (x < 484 ∨ 487 ≤ x) → hk_A κb 71 x = hk_A κ 71 x := fun x hx => by rw [mb, if_neg (by omega), if_neg (by omega), if_neg (by omega)]
      have hFb : hrF (hk_A κ 2) (hk_A κb 71) n := hF.r rfl (fun x hx => mo x (by omega))
      have hSb : hrS (hk_A κ 3) (hk_A κ 4) (hk_A κ 5) (hk_A κb 71) := hS.r rfl rfl rfl (fun x _ _ => mo x (by omega))
      obtain ⟨u, hu, gr⟩ := H'.toR
      have grb : rH κb n nT u T := by
        obtain ⟨d1, d2, d3, d4, d5, d6, d7, d8⟩ := gr
        refine ⟨by rw [mo 480 (by omega)]; exact d1, d2, by rw [mo 481 (by omega)]; exact d3, d4, fun t ht => ⟨(d5 t ht).1.cg (fun i hi => mo _ (by omega)), (d5 t ht).2⟩, fun b hb => ?_, ?_, fun s hs => ?_⟩
        · rw [fx_congr (F := hk_A κb 71) (G := hk_A κ 71) (fun f hf => mo _ (by omega))]
          exact d6 b hb
        · rw [sb.2.2.1 69 38 (by decide), s1.2.2.1 69 38 (by decide), sa.2.2.1 69 38 (by decide)]
          exact d7
        · rw [sb.1 86 (by decide), s1.1 86 (by decide), sa.1 86 (by decide)]
          exact d8 s hs
      obtain ⟨κc, e2, s2, grc, v⟩ := r_find N κb grb hN
      have mc : hk_A κc 71 = hk_A κb 71 := s2.1 71 (by decide)
      obtain ⟨κd, e3, s3, grd, -⟩ := r_one N κc (y := y) grc (by omega) hf hg hN (by rw [mc]; exact v)
      rw [mc] at e3
      have ecn : cnt (fun b => howG (mkF (hk_A κb 71)) (seF T (hk_A κb 71) f g y) (rtB (rSD (hk_A κb 71)) (rHI (hk_A κb 71)) (hk_A κb 71)) b = 4) n = cnt (fun b => howG (mkF (hk_A κ 2)) (seF T (hk_A κ 2) f g y) (rtB (hk_A κ 3) (hk_A κ 5) (hk_A κ 2)) b = 4) n := cnt_cg0 n (fun i hi => by rw [(hist_m hFb hSb hi).2])
      rw [ecn] at e3
      have cl := cnt_le (fun b => howG (mkF (hk_A κ 2)) (seF T (hk_A κ 2) f g y) (rtB (hk_A κ 3) (hk_A κ 5) (hk_A κ 2)) b = 4) n
      obtain ⟨cv, hcv⟩ : ∃ cv, cv = cnt (fun b => howG (mkF (hk_A κ 2)) (seF T (hk_A κ 2) f g y) (rtB (hk_A κ 3) (hk_A κ 5) (hk_A κ 2)) b = 4) n := ⟨_, rfl⟩
      rw [← hcv] at ec e3 cl
      have ht' := r_isText N (hk_wI (hk_wI κ1 0 10 (n3 0)) 69 0 (n3 0)) (n := nT) (show hk_A κ1 71 481 = n3 nT by rw [m1]; exact H'.2.2.1.1.2.1.2.2) (by omega)
      have er : fX12_keep N 69 (n3 f) (n3 g) (n3 y) (hp (hk_wI κ1 0 10 (n3 0))) = some (n3 cv, hp (hk_wI κd 69 1 (n3 0))) := by
        have e2' := e2
        rw [qb] at e2'
        simp (maxSteps := 400000) (disch := omega) only [n3_l, n3_add, n3_mul, n3_sub, n3_subn, n3_lt, n3_le, n3_eq, n3_eqn, n3_neq, n3_and, n3_or, n3_shl, n3_i, n3_cl, ↓hbd_0, ↓hbd_1, ↓hbd_2, hk_ob_0, hk_rd_0, hk_rd_1, hk_rd_2, hk_al_0, hk_al_1, h3r_0, h3r_1, hk_wi_0, hk_wj_0, h3w_0, h3w_1, h3v_0, hk_kI, hk_kJ, hk_kA, hk_kB, A_eq, A_ne, A_row, B_eq, B_ne, B_row, I_eq, I_ne, J_eq, J_ne, Option.bind_some, Option.some.injEq, if_true, if_false, eq_self, true_or, or_true, true_and, and_true, false_or, or_false, not_true_eq_false, not_false_eq_true, Classical.not_not, nar_b0, nar_b1, rz_0, rz_1, rz_i, ite01, Nat.add_zero, Nat.zero_add, Nat.one_mul, mul12, reduceIte, ra_z0, Nat.reduceEqDiff, Nat.reduceLT, Nat.reduceLeDiff, Nat.reduceAdd, Nat.reduceMul, Nat.reduceSub, Nat.reduceDiv, Nat.reduceMod, Bool.false_eq_true, false_and, and_false, reduceCtorEq, fX12_keep, nX12_keep_0, r_in32, j_l, j200, v3, ht', v1, v2, e2', e3, r_tell3]
      obtain ⟨κ2, q2⟩ : ∃ κ2, κ2 = hk_wI κd 69 1 (n3 0) := ⟨_, rfl⟩
      rw [← q2] at er
      have sd : same [71, 82, 83, 84, 85, 86, 87, 88] [(0, 10), (69, 0), (69, 1), (69, 27), (69, 30), (69, 33), (69, 38)] κ1 κ2 := by
        rw [q2]
        exact (((sb.weak (by decide) (by decide)).trans (s2.weak (by decide) (by decide))).trans (s3.weak (by decide) (by decide))).wI (by decide)
      have s0 : same [22, 24, 25, 27, 35, 36, 37, 71, 82, 83, 84, 85, 86, 87, 88] [(1, 17), (1, 18), (1, 19), (23, 9), (23, 10), (34, 3), (0, 10), (69, 0), (69, 1), (69, 27), (69, 30), (69, 33), (69, 38)] κ κ2 := ((sa.weak (by decide) (by decide)).trans (s1.weak (by decide) (by decide))).trans (sd.weak (by decide) (by decide))
      have m2 : hk_A κ2 71 = hk_A κb 71 := by
        rw [q2, A_wI, s3.1 71 (by decide), mc]
      have x2 : hk_A κ2 2 = hk_A κ 2 := s0.1 2 (by decide)
      have x3 : hk_A κ2 3 = hk_A κ 3 := s0.1 3 (by decide)
      have x4 : hk_A κ2 4 = hk_A κ 4 := s0.1 4 (by decide)
      have x5 : hk_A κ2 5 = hk_A κ 5 := s0.1 5 (by decide)
      obtain ⟨h1, h2, h3, h4, h5, h8, h9, h10, h11, h12⟩ := H'
      have k3 := h3.hk
      have I2 : ∀ j, 13 ≤ j → j < 17 → hk_I κ2 1 j = hk_I κ 1 j := fun j j1 j2 => s0.2.2.1 1 j (by
        have c : j = 13 ∨ j = 14 ∨ j = 15 ∨ j = 16 := by omega
        rcases c with rfl | rfl | rfl | rfl <;> decide)
      have mo2 : ∀ x, (x < 484 ∨ 487 ≤ x) → hk_A κ2 71 x = hk_A κ 71 x := fun x hx => by rw [m2]; exact mo x hx
      have hK : HK κ2 n nT nL nS := by
        refine ⟨k3.1.r I2 (fun x _ _ => mo2 x (by omega)), Or.inr ⟨f, g, y, hf, hg, hy, ?_, ?_, ?_, ?_, ?_, ?_⟩, k3.2.2.1.r x2 (fun x hx => mo2 x (by omega)), k3.2.2.2.1.r x3 x4 x5 (fun x _ _ => mo2 x (by omega)), k3.2.2.2.2.1.r (s0.1 12 (by decide)) (s0.1 13 (by decide)) (s0.1 14 (by decide)) (fun x _ _ => mo2 x (by omega)), k3.2.2.2.2.2.1.r k3.1.2.2.1.2.1 (s0.1 7 (by decide)) (s0.1 8 (by decide)) (fun x _ _ => mo2 x (by omega)), k3.2.2.2.2.2.2.1.r k3.1.2.2.2.2.1 (s0.1 11 (by decide)) (fun x _ _ => mo2 x (by omega)), k3.2.2.2.2.2.2.2.r (s0.1 9 (by decide)) (s0.1 10 (by decide)) (fun x _ _ => mo2 x (by omega))⟩
        · rw [sd.2.2.1 1 17 (by decide), s1.2.2.1 1 17 (by decide)]; exact i17
        · rw [sd.2.2.1 1 18 (by decide), s1.2.2.1 1 18 (by decide)]; exact i18
        · rw [sd.2.2.1 1 19 (by decide), s1.2.2.1 1 19 (by decide)]; exact i19
        · rw [m2, mb, if_neg (by omega), if_neg (by omega), if_pos rfl]
        · rw [m2, mb, if_neg (by omega), if_pos rfl]
        · rw [m2, mb, if_pos rfl]
      have kR : kRows κ2 n f g y T (hk_A κ2 2) (hk_A κ2 3) (hk_A κ2 5) := by
        rw [x2, x3, x5]
        exact b2.cg (sd.1 35 (by decide)) (sd.1 36 (by decide)) (sd.1 37 (by decide)) (sd.2.2.1 34 3 (by decide))
      refine ⟨_, _, κ2, ec, er, ?_, InvC.inv (n := n) (nT := nT) (nL := nL) (nS := nS) (T := T) ⟨s0.xx h1, s0.ro h2, hK.hr, s0.ttq t8 (fun x _ _ => mo2 x (by omega)) h4, s0.im (by decide) (by decide) h5, s0.sa (by decide) (by decide) ?_ ?_ h8, s0.ta (by decide) (by decide) h9, s0.wo (by decide) (by decide) h10, ⟨h11.1.same s0 (by decide) (by decide), u + 1, by omega, ?_, ?_⟩, ⟨sd.c1 (by decide) b1.2.2.2.2.2.2.1, sd.c2 (by decide) b1.2.2.2.2.2.2.2, Or.inr ⟨f, g, y, ⟨?_, by omega, by omega, hy⟩, ?_, ?_, kR⟩, Or.inl ?_, s0.c5 (by decide) (by decide) h12.2.2.2.2.1, s0.c6 (by decide) (by decide) h12.2.2.2.2.2⟩⟩⟩
      · show hk_x κ1 = hk_x κ
        rw [s1.2.2.2.2.2.2.2.2, sa.2.2.2.2.2.2.2.2]
      · rw [q2]
        show hk_I (hk_wI κd 69 1 (n3 0)) 0 10 = n3 0
        have z : hk_I κd 0 10 = hk_I κb 0 10 := (s3.2.2.1 0 10 (by decide)).trans (s2.2.2.1 0 10 (by decide))
        rw [I_ne (by decide), z, qb]
        simp (maxSteps := 400000) (disch := omega) only [n3_l, n3_add, n3_mul, n3_sub, n3_subn, n3_lt, n3_le, n3_eq, n3_eqn, n3_neq, n3_and, n3_or, n3_shl, n3_i, n3_cl, ↓hbd_0, ↓hbd_1, ↓hbd_2, hk_ob_0, hk_rd_0, hk_rd_1, hk_rd_2, hk_al_0, hk_al_1, h3r_0, h3r_1, hk_wi_0, hk_wj_0, h3w_0, h3w_1, h3v_0, hk_kI, hk_kJ, hk_kA, hk_kB, A_eq, A_ne, A_row, B_eq, B_ne, B_row, I_eq, I_ne, J_eq, J_ne, Option.bind_some, Option.some.injEq, if_true, if_false, eq_self, true_or, or_true, true_and, and_true, false_or, or_false, not_true_eq_false, not_false_eq_true, Classical.not_not, nar_b0, nar_b1, rz_0, rz_1, rz_i, ite01, Nat.add_zero, Nat.zero_add, Nat.one_mul, mul12, reduceIte, ra_z0, Nat.reduceEqDiff, Nat.reduceLT, Nat.reduceLeDiff, Nat.reduceAdd, Nat.reduceMul, Nat.reduceSub, Nat.reduceDiv, Nat.reduceMod, Bool.false_eq_true, false_and, and_false, reduceCtorEq]
      · rw [q2]; simp (maxSteps := 400000) (disch := omega) only [n3_l, n3_add, n3_mul, n3_sub, n3_subn, n3_lt, n3_le, n3_eq, n3_eqn, n3_neq, n3_and, n3_or, n3_shl, n3_i, n3_cl, ↓hbd_0, ↓hbd_1, ↓hbd_2, hk_ob_0, hk_rd_0, hk_rd_1, hk_rd_2, hk_al_0, hk_al_1, h3r_0, h3r_1, hk_wi_0, hk_wj_0, h3w_0, h3w_1, h3v_0, hk_kI, hk_kJ, hk_kA, hk_kB, A_eq, A_ne, A_row, B_eq, B_ne, B_row, I_eq, I_ne, J_eq, J_ne, Option.bind_some, Option.some.injEq, if_true, if_false, eq_self, true_or, or_true, true_and, and_true, false_or, or_false, not_true_eq_false, not_false_eq_true, Classical.not_not, nar_b0, nar_b1, rz_0, rz_1, rz_i, ite01, Nat.add_zero, Nat.zero_add, Nat.one_mul, mul12, reduceIte, ra_z0, Nat.reduceEqDiff, Nat.reduceLT, Nat.reduceLeDiff, Nat.reduceAdd, Nat.reduceMul, Nat.reduceSub, Nat.reduceDiv, Nat.reduceMod, Bool.false_eq_true, false_and, and_false, reduceCtorEq]
      · rw [q2, I_ne (by decide)]
        exact grd.2.2.2.2.2.2.1
      · rw [q2, A_wI]
        exact grd.2.2.2.2.2.2.2
      · rw [sd.2.2.1 1 17 (by decide), s1.2.2.1 1 17 (by decide)]; exact i17
      · rw [sd.2.2.1 1 18 (by decide), s1.2.2.1 1 18 (by decide)]; exact i18
      · rw [sd.2.2.1 1 19 (by decide), s1.2.2.1 1 19 (by decide)]; exact i19
      · rw [sd.2.2.1 23 10 (by decide), s1.2.2.1 23 10 (by decide)]; exact i10
    · have ht2 := r_isText N (hk_wI (cRef κ 2) 69 0 (n3 0)) (n := nT) (show hk_A (cRef κ 2) 71 481 = n3 nT by rw [(same.cRef κ 2).1 71 (by decide)]; exact H'.2.2.1.1.2.1.2.2) (by omega)
      by_cases v1 : vIn 0 (nT - 1) f = true
      · have v2 : ¬ vIn 0 (nT - 1) g = true := fun z => v ⟨v1, z⟩
        refine callOk.ref (k := 2) h ?_ ?_
        · simp (maxSteps := 400000) (disch := omega) only [n3_l, n3_add, n3_mul, n3_sub, n3_subn, n3_lt, n3_le, n3_eq, n3_eqn, n3_neq, n3_and, n3_or, n3_shl, n3_i, n3_cl, ↓hbd_0, ↓hbd_1, ↓hbd_2, hk_ob_0, hk_rd_0, hk_rd_1, hk_rd_2, hk_al_0, hk_al_1, h3r_0, h3r_1, hk_wi_0, hk_wj_0, h3w_0, h3w_1, h3v_0, hk_kI, hk_kJ, hk_kA, hk_kB, A_eq, A_ne, A_row, B_eq, B_ne, B_row, I_eq, I_ne, J_eq, J_ne, Option.bind_some, Option.some.injEq, if_true, if_false, eq_self, true_or, or_true, true_and, and_true, false_or, or_false, not_true_eq_false, not_false_eq_true, Classical.not_not, nar_b0, nar_b1, rz_0, rz_1, rz_i, ite01, Nat.add_zero, Nat.zero_add, Nat.one_mul, mul12, reduceIte, ra_z0, Nat.reduceEqDiff, Nat.reduceLT, Nat.reduceLeDiff, Nat.reduceAdd, Nat.reduceMul, Nat.reduceSub, Nat.reduceDiv, Nat.reduceMod, Bool.false_eq_true, false_and, and_false, reduceCtorEq, fX11_keep, nX11_keep_0, c_isTurn, v3, hs, v1, v2, nX11_keep_35, c_ref, cRef]
        · simp (maxSteps := 400000) (disch := omega) only [n3_l, n3_add, n3_mul, n3_sub, n3_subn, n3_lt, n3_le, n3_eq, n3_eqn, n3_neq, n3_and, n3_or, n3_shl, n3_i, n3_cl, ↓hbd_0, ↓hbd_1, ↓hbd_2, hk_ob_0, hk_rd_0, hk_rd_1, hk_rd_2, hk_al_0, hk_al_1, h3r_0, h3r_1, hk_wi_0, hk_wj_0, h3w_0, h3w_1, h3v_0, hk_kI, hk_kJ, hk_kA, hk_kB, A_eq, A_ne, A_row, B_eq, B_ne, B_row, I_eq, I_ne, J_eq, J_ne, Option.bind_some, Option.some.injEq, if_true, if_false, eq_self, true_or, or_true, true_and, and_true, false_or, or_false, not_true_eq_false, not_false_eq_true, Classical.not_not, nar_b0, nar_b1, rz_0, rz_1, rz_i, ite01, Nat.add_zero, Nat.zero_add, Nat.one_mul, mul12, reduceIte, ra_z0, Nat.reduceEqDiff, Nat.reduceLT, Nat.reduceLeDiff, Nat.reduceAdd, Nat.reduceMul, Nat.reduceSub, Nat.reduceDiv, Nat.reduceMod, Bool.false_eq_true, false_and, and_false, reduceCtorEq, fX12_keep, nX12_keep_0, r_in32, j_l, j200, v3, ht2, v1, v2, nX12_keep_39, r_telln]
          rfl
      · refine callOk.ref (k := 2) h ?_ ?_
        · simp (maxSteps := 400000) (disch := omega) only [n3_l, n3_add, n3_mul, n3_sub, n3_subn, n3_lt, n3_le, n3_eq, n3_eqn, n3_neq, n3_and, n3_or, n3_shl, n3_i, n3_cl, ↓hbd_0, ↓hbd_1, ↓hbd_2, hk_ob_0, hk_rd_0, hk_rd_1, hk_rd_2, hk_al_0, hk_al_1, h3r_0, h3r_1, hk_wi_0, hk_wj_0, h3w_0, h3w_1, h3v_0, hk_kI, hk_kJ, hk_kA, hk_kB, A_eq, A_ne, A_row, B_eq, B_ne, B_row, I_eq, I_ne, J_eq, J_ne, Option.bind_some, Option.some.injEq, if_true, if_false, eq_self, true_or, or_true, true_and, and_true, false_or, or_false, not_true_eq_false, not_false_eq_true, Classical.not_not, nar_b0, nar_b1, rz_0, rz_1, rz_i, ite01, Nat.add_zero, Nat.zero_add, Nat.one_mul, mul12, reduceIte, ra_z0, Nat.reduceEqDiff, Nat.reduceLT, Nat.reduceLeDiff, Nat.reduceAdd, Nat.reduceMul, Nat.reduceSub, Nat.reduceDiv, Nat.reduceMod, Bool.false_eq_true, false_and, and_false, reduceCtorEq, fX11_keep, nX11_keep_0, c_isTurn, v3, hs, v1, nX11_keep_35, c_ref, cRef]
        · simp (maxSteps := 400000) (disch := omega) only [n3_l, n3_add, n3_mul, n3_sub, n3_subn, n3_lt, n3_le, n3_eq, n3_eqn, n3_neq, n3_and, n3_or, n3_shl, n3_i, n3_cl, ↓hbd_0, ↓hbd_1, ↓hbd_2, hk_ob_0, hk_rd_0, hk_rd_1, hk_rd_2, hk_al_0, hk_al_1, h3r_0, h3r_1, hk_wi_0, hk_wj_0, h3w_0, h3w_1, h3v_0, hk_kI, hk_kJ, hk_kA, hk_kB, A_eq, A_ne, A_row, B_eq, B_ne, B_row, I_eq, I_ne, J_eq, J_ne, Option.bind_some, Option.some.injEq, if_true, if_false, eq_self, true_or, or_true, true_and, and_true, false_or, or_false, not_true_eq_false, not_false_eq_true, Classical.not_not, nar_b0, nar_b1, rz_0, rz_1, rz_i, ite01, Nat.add_zero, Nat.zero_add, Nat.one_mul, mul12, reduceIte, ra_z0, Nat.reduceEqDiff, Nat.reduceLT, Nat.reduceLeDiff, Nat.reduceAdd, Nat.reduceMul, Nat.reduceSub, Nat.reduceDiv, Nat.reduceMod, Bool.false_eq_true, false_and, and_false, reduceCtorEq, fX12_keep, nX12_keep_0, r_in32, j_l, j200, v3, ht2, v1, nX12_keep_39, r_telln]
          rfl
  · refine callOk.ref (k := 1) h ?_ ?_
    · simp (maxSteps := 400000) (disch := omega) only [n3_l, n3_add, n3_mul, n3_sub, n3_subn, n3_lt, n3_le, n3_eq, n3_eqn, n3_neq, n3_and, n3_or, n3_shl, n3_i, n3_cl, ↓hbd_0, ↓hbd_1, ↓hbd_2, hk_ob_0, hk_rd_0, hk_rd_1, hk_rd_2, hk_al_0, hk_al_1, h3r_0, h3r_1, hk_wi_0, hk_wj_0, h3w_0, h3w_1, h3v_0, hk_kI, hk_kJ, hk_kA, hk_kB, A_eq, A_ne, A_row, B_eq, B_ne, B_row, I_eq, I_ne, J_eq, J_ne, Option.bind_some, Option.some.injEq, if_true, if_false, eq_self, true_or, or_true, true_and, and_true, false_or, or_false, not_true_eq_false, not_false_eq_true, Classical.not_not, nar_b0, nar_b1, rz_0, rz_1, rz_i, ite01, Nat.add_zero, Nat.zero_add, Nat.one_mul, mul12, reduceIte, ra_z0, Nat.reduceEqDiff, Nat.reduceLT, Nat.reduceLeDiff, Nat.reduceAdd, Nat.reduceMul, Nat.reduceSub, Nat.reduceDiv, Nat.reduceMod, Bool.false_eq_true, false_and, and_false, reduceCtorEq, fX11_keep, nX11_keep_0, c_isTurn, v3, c_ref, cRef]
    · simp (maxSteps := 400000) (disch := omega) only [n3_l, n3_add, n3_mul, n3_sub, n3_subn, n3_lt, n3_le, n3_eq, n3_eqn, n3_neq, n3_and, n3_or, n3_shl, n3_i, n3_cl, ↓hbd_0, ↓hbd_1, ↓hbd_2, hk_ob_0, hk_rd_0, hk_rd_1, hk_rd_2, hk_al_0, hk_al_1, h3r_0, h3r_1, hk_wi_0, hk_wj_0, h3w_0, h3w_1, h3v_0, hk_kI, hk_kJ, hk_kA, hk_kB, A_eq, A_ne, A_row, B_eq, B_ne, B_row, I_eq, I_ne, J_eq, J_ne, Option.bind_some, Option.some.injEq, if_true, if_false, eq_self, true_or, or_true, true_and, and_true, false_or, or_false, not_true_eq_false, not_false_eq_true, Classical.not_not, nar_b0, nar_b1, rz_0, rz_1, rz_i, ite01, Nat.add_zero, Nat.zero_add, Nat.one_mul, mul12, reduceIte, ra_z0, Nat.reduceEqDiff, Nat.reduceLT, Nat.reduceLeDiff, Nat.reduceAdd, Nat.reduceMul, Nat.reduceSub, Nat.reduceDiv, Nat.reduceMod, Bool.false_eq_true, false_and, and_false, reduceCtorEq, fX12_keep, nX12_keep_0, r_in32, j_l, j200, v3, r_telln]
      rfl
theorem k_could (h : Inv L xs c κ) (hc : c < 3990) (hN : 100000 < N) (b s sl ln : Int32) : callOk L xs c κ (fX11_could N 0 b s sl ln) (fX12_could N 69 b s sl ln) := by
  have h0 := h
  obtain ⟨n, nT, nL, nS, T, H⟩ := h0
  have H' : InvC L xs c κ n nT nL nS T := H
  have n40 := H'.toC.2.1
  have hF : hrF (hk_A κ 2) (hk_A κ 71) n := H'.2.2.1.2.2.1
  have hS : hrS (hk_A κ 3) (hk_A κ 4) (hk_A κ 5) (hk_A κ 71) := H'.2.2.1.2.2.2.1
  have hL : hrL (hk_A κ 7) (hk_A κ 8) (hk_A κ 71) nL := H'.2.2.1.2.2.2.2.2.1
  have hLi := H'.2.2.1.1.2.2.1.1
  have h12 := H'.2.2.1.1.2.2.1.2.1
  have h482 := H'.2.2.1.1.2.2.1.2.2
  by_cases v : (vIn 0 8 b = true ∧ vIn 0 5 s = true) ∧ vIn 0 400 sl = true ∧ (ln = -n3 1 ∨ vIn 0 (nL - 1) ln = true)
  case neg => exact callOk.ask h (c_could_x N κ hLi h12 v) (r_could_x N κ h482 h12 v) rfl
  rcases H'.kept N (by omega) hN with ⟨z1, z2⟩ | ⟨Hh, se, κ1, ok, e1, s1, g1, r1, l1, t1, look⟩
  · exact callOk.ask h (c_could_y N κ hLi h12 v (c_settleKept0 N κ z1)) (r_could_y N κ h482 h12 v (r_lookKept0 N (hk_wI κ 69 0 (n3 0)) z2)) rfl
  obtain ⟨⟨v1, v2⟩, v3, v4⟩ := v
  obtain ⟨b, -, b1, rfl⟩ := vK (lo := 0) (hi := 8) v1
  obtain ⟨s, -, s1', rfl⟩ := vK (lo := 0) (hi := 5) v2
  obtain ⟨sl, -, sl1, rfl⟩ := vK (lo := 0) (hi := 400) v3
  obtain ⟨κ2, e2, mo, g2, sM⟩ := g1.weigh N (by omega)
  have hx : b * 6 + s < 54 := by omega
  have ex : 6 * b + s = b * 6 + s := by omega
  have sA : ∀ k, k ∉ [42, 43, 44, 45, 46, 47, 48, 49, 50, 51, 52, 53, 59, 60] → hk_A κ2 k = hk_A κ1 k := sM.1
  have sB : ∀ k, k ∉ [42, 43, 44, 45, 46, 47, 48, 49, 50, 51, 52, 53, 59, 60] → hk_B κ2 k = hk_B κ1 k := sM.2.1
  have sI : ∀ k j, (k, j) ∉ [(41, 7), (40, 12), (40, 15), (40, 16), (40, 17)] → hk_I κ2 k j = hk_I κ1 k j := sM.2.2.1
  have p71 : hk_A κ1 71 = hk_A κ 71 := s1.1 71 (by decide)
  have q71 : hk_A κ2 71 = hk_A κ 71 := (sA 71 (by decide)).trans p71
  obtain ⟨m, m1, m2⟩ := load_le (P := fun b' => Hh b' = 4 ∧ shO (se b') = b * 6 + s) (F := hk_A κ 2) n (Nat.le_refl _) (fun b hb => (hF.2.2 b hb).2.2.1)
  obtain ⟨wd, -, wd1, wd2⟩ := vK (lo := 1) (hi := 400) (hS.2 _ hx).2.2.1
  have cf : fX5_freeOf N 38 (n3 (b * 6 + s)) (hp κ2) = some (z3 ((wd : Int) - m), hp κ2) := by
    rw [c_freeOf N κ2 hx, sA 4 (by decide), sA 37 (by decide), l1 _ hx, s1.1 4 (by decide), m2, wd2, z3_n, z3_n, z3_sub]
  obtain ⟨Tl, hTl⟩ : ∃ Tl : Nat → Nat, ∀ l, l < nL → hk_A κ 7 (12 * l + 3) = n3 (Tl l) ∧ 1 ≤ Tl l ∧ Tl l ≤ 30 := by
    refine ⟨fun l => (hk_A κ 7 (12 * l + 3)).toInt.toNat, fun l hl => ?_⟩
    obtain ⟨t, t1, t2, t3⟩ := vK (lo := 1) (hi := 30) (okLine_iff.mp (hL.1 l hl).2.2.2.2.2.2.1).2.2.1
    dsimp only
    rw [t3, n3_toInt (by omega), Int.toNat_natCast]
    exact ⟨rfl, t1, t2⟩
  obtain ⟨G, hG⟩ : ∃ G, G = gvS (agR (hk_A κ 71)) nL n n := ⟨_, rfl⟩
  have hG4 : G < 4096 := by rw [hG]; exact Nat.lt_of_lt_of_le (gv_lt n) (q12 h12)
  have hg : hk_I κ2 40 15 = n3 G := by rw [mo.2.2.1, p71, hG]
  have hLi2 : hk_I κ2 1 15 = n3 nL := g2.2.2.1.1.2.2.1.1
  have hT2 : ∀ l, l < nL → hk_A κ2 7 (12 * l + 3) = n3 (Tl l) := fun l hl => by rw [sA 7 (by decide), s1.1 7 (by decide)]; exact (hTl l hl).1
  have hT1 : ∀ l, l < nL → 1 ≤ Tl l ∧ Tl l ≤ 360 := fun l hl => by have := hTl l hl; omega
  have key : ∀ κ3, same [54] [] κ2 κ3 → ∃ κ4 κ5, fX12_lookKept N 69 (hp (hk_wI κ3 69 0 (n3 0))) = some (n3 1, hp κ4) ∧ fX12_freeOf N 69 (n3 (6 * b + s)) (hp κ4) = some (z3 ((wd : Int) - m), hp κ4) ∧ fX12_matchAll N 69 (hp κ4) = some (hp κ5) ∧ hk_A κ5 71 = hk_A κ 71 ∧ (∀ b, b < n → hk_A κ5 95 b = n3 (its (agR (hk_A κ 71)) nL n b)) ∧ InvC L xs (c + 1) κ5 n nT nL nS T := by
    intro κ3 s3
    have sw : same [54] [(69, 0)] κ2 (hk_wI κ3 69 0 (n3 0)) := (s3.weak (by decide) (by decide)).wI (by decide)
    have g3 : InvC L xs (c + 1) (hk_wI κ3 69 0 (n3 0)) n nT nL nS T := g2.scr sw (by decide) (by decide)
    obtain ⟨κ4, e4, s4, g4, r4, -, fi⟩ := look (hk_wI κ3 69 0 (n3 0)) (c + 1) (by omega) g3 (fun k hk => by
      have a1 : ∀ k ∈ [2, 3, 5, 71], k ∉ [54] := by decide
      have a2 : ∀ k ∈ [2, 3, 5, 71], k ∉ [22, 24, 25, 27, 35, 36, 37] := by decide
      have a3 : ∀ k ∈ [2, 3, 5, 71], k ∉ [42, 43, 44, 45, 46, 47, 48, 49, 50, 51, 52, 53, 59, 60] := by decide
      rw [sw.1 k (a1 k hk), sA k (a3 k hk), s1.1 k (a2 k hk)])
    have f2 : rfI κ2 c := by
      obtain ⟨w1, u, w2, w3, w4⟩ := g1.2.2.2.2.2.2.2.2.1
      refine ⟨?_, u, w2, by rw [sI 69 38 (by decide)]; exact w3, by rw [sA 86 (by decide)]; exact w4⟩
      unfold rWd
      rw [sB 80 (by decide), sB 81 (by decide)]
      exact w1
    have g4' : InvC L xs (c + 1) κ4 n nT nL nS T := g4.put (s4.ro0 g3.2.1) (fi c (by omega) (sw.rf0 (by decide) (by decide) f2))
    have m4 : hk_A κ4 71 = hk_A κ 71 := ((s4.1 71 (by decide)).trans (sw.1 71 (by decide))).trans q71
    obtain ⟨κ5, e5, s5, -, -, t5⟩ := r_matchAll N κ4 g4'.ra (by omega)
    rw [m4] at t5
    refine ⟨κ4, κ5, e4, ?_, e5, (s5.1 71 (by decide)).trans m4, fun b hb => (t5 b hb).2, g4'.scr s5 (by decide) (by decide)⟩
    have rf := r_freeOf N κ4 ok (by rw [m4]; exact H'.2.2.1.1.1.2.2) n40 hx r4 (by omega)
    rw [ex, rf, m4, (hS.2 _ hx).1, wd2]
    have el : fo (fun b' s' => if Hh b' = 4 ∧ shO (se b') = b * 6 + s then s' + hk_A κ 71 (12 * b' + 3) else s') 0 n (n3 0) = n3 m := by
      rw [← m2]
      exact fo_congr n 0 _ (fun b' s' g1 g2 => by rw [hF.1 (12 * b' + 3) (by omega)])
    rw [el, z3_n, z3_n, z3_sub]
  have hTM : ∀ κ5, hk_A κ5 71 = hk_A κ 71 → ∀ l, l < nL → hk_A κ5 71 (650 + 6 * l + 2) = n3 (Tl l) := fun κ5 e l hl => by rw [e, (hL.1 l hl).2.2.1]; exact (hTl l hl).1
  by_cases cG : ∃ l0, l0 < nL ∧ ln = n3 l0 ∧ G.testBit l0 = true
  · obtain ⟨l0, hl0, rfl, hb⟩ := cG
    obtain ⟨κ4, κ5, e4, ef, e5, m5, t5, g5⟩ := key κ2 (same.refl _ _ _)
    have ec := c_could N κ hLi h12 (by omega) (by omega) sl1 v4 e1 e2 cf (c_countMissing0 N κ2 h12 hg hG4 hl0 hb)
    have er := r_could0 N κ2 (b := b) (s := s) (sl := sl) (nB := n) g2.2.2.1.1.2.2.1.2.2 h12 (by omega) (by omega) sl1 n40 e4 ef e5 (by rw [m5]; exact H'.2.2.1.1.1.2.2) t5 hl0 (by rw [← hG]; exact hb) (by omega)
    exact callOk.of H' ec er rfl (g2.1.trans H'.1.symm) g5
  · have hl : ∃ ls, ls < 361 ∧ ((ln = -n3 1 ∧ ls = 0) ∨ ∃ l0, l0 < nL ∧ ln = n3 l0 ∧ ¬ G.testBit l0 = true ∧ ls = Tl l0) := by
      rcases v4 with v4 | v4
      · exact ⟨0, by omega, Or.inl ⟨v4, rfl⟩⟩
      · obtain ⟨l0, hl0, q⟩ := vB v4
        exact ⟨Tl l0, by have := hTl l0 hl0; omega, Or.inr ⟨l0, hl0, q, fun z => cG ⟨l0, hl0, q, z⟩, rfl⟩⟩
    obtain ⟨ls, hls, hl⟩ := hl
    obtain ⟨κ3, e3, s3⟩ := c_countMissing N κ2 (fr := (wd : Int) - m) (sl := sl) (ln := ln) (ls := ls) hLi2 h12 hg hG4 hT2 hT1 hl (by omega) (by omega) sl1 (by omega)
    obtain ⟨κ4, κ5, e4, ef, e5, m5, t5, g5⟩ := key κ3 s3
    have ec := c_could N κ hLi h12 (by omega) (by omega) sl1 v4 e1 e2 cf e3
    obtain ⟨κ6, er, s6⟩ := r_could N κ3 (b := b) (s := s) (sl := sl) (nB := n) (ls := ls) (a := agR (hk_A κ 71)) (T := Tl) (by rw [s3.1 71 (by decide)]; exact g2.2.2.1.1.2.2.1.2.2) h12 (by omega) (by omega) sl1 n40 e4 ef e5 (by rw [m5]; exact H'.2.2.1.1.1.2.2) (by rw [m5]; exact h482) t5 (hTM κ5 m5) hT1 (by rw [← hG]; exact hl) (by omega) (by omega) (by omega)
    rw [← hG] at er
    exact callOk.of H' ec er rfl (s3.2.2.2.2.2.2.2.2.trans (g2.1.trans H'.1.symm)) (g5.scr s6 (by decide) (by decide))
end
