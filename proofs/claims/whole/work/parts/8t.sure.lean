/-! goOver, findSure -/
section
variable (N : Nat) (κ : hk_T)
theorem c_goOver {nB L q b : Nat} {A : Nat → Nat → Int} {U V : Nat → Int} {S : Nat → Int} {W : Nat → Nat} {R : Nat → Bool} {C : Nat → Nat} (hK : mK κ A U V nB L) (h40 : nB ≤ 40) (hq : L ≤ q) (h : mC κ q S W R C) (hd : dualOk A U V L nB) (hg : goodAt A U V L nB nB 0) (hb : b < nB)
    (hC : uMk A U V L b ≠ 0 → ∀ s, lev A U V L nB b s → C (b * 2 ^ L + s) = (cT A (usB A U V) (musM A U V L nB) L nB (nB - b) s).2.2) (hR : ∀ b', b' ≤ nB → ∀ s, lev A U V L nB b' s → (R s = true ↔ rc A L nB b s)) (hN : 10000 < N) :
    ∃ κ' R' tk, fX3_goOver N 40 (n3 b) (hp κ) = some (n3 tk, hp κ') ∧ sameP [] [] κ κ' ∧ mC κ' q S W R' C ∧ tk < 8192 ∧ (∀ l, tk.testBit l = true ↔ (l < L ∧ ∃ s, rc A L nB b s ∧ opt A L nB b s l) ∨ (l = 12 ∧ ∃ s, rc A L nB b s ∧ opN A L nB b s)) ∧ ∀ b', b' ≤ nB → ∀ s, lev A U V L nB b' s → (R' s = true ↔ rc A L nB (b + 1) s) := by
  have hL : L ≤ 12 := by have := h.2.1; omega
  have hql : 2 ^ L ≤ 2 ^ q := Nat.pow_le_pow_right (by omega) hq
  have q2 := q12 h.2.1
  have ho := opM_lt2 (a := A) (u := U) (v := V) (n := nB) hL b
  have p8 := pc_le (O := opM A U V L nB b)
  have pl := pcw_le 13 (opM A U V L nB b)
  have oa : fX3_openAt N 40 (n3 b) (hp κ) = some (n3 (opM A U V L nB b), hp κ) := c_openAt N κ (by omega) (hK.2.2.1 b (by omega)) (hK.2.2.2 b (by omega))
  have r51 := hK.2.2.2 b (by omega)
  have bc := f_bitCount N (hp κ) (x := opM A U V L nB b) (by omega)
  generalize hT : 2 ^ pcw 13 (opM A U V L nB b) = T at p8
  have T0 : 0 < T := by rw [← hT]; exact Nat.two_pow_pos _
  have inj : ∀ {i i' : Nat}, i < T → i' < T → sJ A U V L nB b i = sJ A U V L nB b i' → i = i' := fun h1 h2 z => sJ_inj hL (by rw [hT]; exact h1) (by rw [hT]; exact h2) z
  have sub : ∀ {i i' : Nat} (l : Nat), i < T → sJ A U V L nB b i ||| 2 ^ l = sJ A U V L nB b i' → i ≤ i' := fun l h1 z => sJ_sub (a := A) (u := U) (v := V) (n := nB) hL (by rw [hT]; exact h1) (fun l' hl' => by rw [← z, Nat.testBit_or, hl']; rfl)
  obtain ⟨m', ⟨s', pt, tk⟩, e, i1, -, i2, i3, R', i4, i5⟩ := lpx (fun m j (s : hk_T × Int32 × Nat) => nX3_goOver_27 N m 40 (n3 b) (n3 (musM A U V L nB b)) (n3 (opM A U V L nB b)) s.2.1 (n3 s.2.2) (n3 (T - j)) (hp s.1)) T (fun j s => sameP [] [] κ s.1 ∧ (j < T → s.2.1 = n3 (dep 32 (opM A U V L nB b) (T - 1 - j))) ∧ s.2.2 < 8192 ∧
      (∀ l, s.2.2.testBit l = true ↔ ∃ i, T - j ≤ i ∧ i < T ∧ R (sJ A U V L nB b i) = true ∧ (cT A (usB A U V) (musM A U V L nB) L nB (nB - b) (sJ A U V L nB b i)).2.2.testBit l = true) ∧ ∃ R', mC s.1 q S W R' C ∧
      ∀ x, R' x = true ↔ (R x = true ∧ ∀ i, T - j ≤ i → i < T → x ≠ sJ A U V L nB b i) ∨ ∃ i, T - j ≤ i ∧ i < T ∧ R (sJ A U V L nB b i) = true ∧ ((cT A (usB A U V) (musM A U V L nB) L nB (nB - b) (sJ A U V L nB b i)).2.2.testBit 12 = true ∧ x = sJ A U V L nB b i ∨ ∃ l, l < L ∧ (cT A (usB A U V) (musM A U V L nB) L nB (nB - b) (sJ A U V L nB b i)).2.2.testBit l = true ∧ x = sJ A U V L nB b i ||| 2 ^ l)) (by
    rintro m j ⟨r, pt, tk⟩ hj ⟨i1, i2, i3, i4, R', i5, i6⟩
    try dsimp only at i1 i2 i3 i4 i5 ⊢
    have hpt := i2 hj
    have hi0 : T - 1 - j = T - (j + 1) := by omega
    rw [hi0] at hpt
    have hi1 : T - (j + 1) < T := by omega
    have ix : n3 (musM A U V L nB b) ||| pt = n3 (sJ A U V L nB b (T - (j + 1))) := by rw [hpt, n3_or]; rfl
    have lv := sJ_lev (a := A) (u := U) (v := V) (n := nB) hL b (T - (j + 1))
    have lt := lev_lt lv
    have ed : T - j - 1 = T - (j + 1) := by omega
    have cz : ¬ T - j ≤ 0 := by omega
    have kr : mK r A U V nB L := hK.sameP i1 (by decide) (by decide) (by decide) (by decide) (by decide)
    have nx : j + 1 < T → (pt - n3 1) &&& n3 (opM A U V L nB b) = n3 (dep 32 (opM A U V L nB b) (T - 1 - (j + 1))) := by
      intro hj'
      rw [hpt, show T - (j + 1) = T - 1 - (j + 1) + 1 by omega]
      exact n3_prev ho (by rw [hT]; omega)
    have rd : R' (sJ A U V L nB b (T - (j + 1))) = true ↔ R (sJ A U V L nB b (T - (j + 1))) = true := by
      rw [i6]
      constructor
      · rintro (⟨z, -⟩ | ⟨i, z1, z2, z3, z4⟩)
        · exact z
        · rcases z4 with ⟨-, z5⟩ | ⟨l, -, -, z5⟩
          · have := inj hi1 z2 z5; omega
          · have := sub l z2 z5.symm; omega
      · intro z
        refine Or.inl ⟨z, fun i z1 z2 z3 => ?_⟩
        have := inj hi1 z2 z3; omega
    have rr := i5.rR (i := sJ A U V L nB b (T - (j + 1))) (by omega)
    have step : ∀ i, T - (j + 1) ≤ i ∧ i < T ↔ (T - j ≤ i ∧ i < T) ∨ i = T - (j + 1) := by intro i; omega
    by_cases c : R (sJ A U V L nB b (T - (j + 1))) = true
    · rw [if_pos (rd.mpr c)] at rr
      have hrc : rc A L nB b (sJ A U V L nB b (T - (j + 1))) := (hR b (by omega) _ lv).mp c
      have bf := c_bestFor N r kr h40 hq i5 hb lv (fun z => hC z _ lv)
      have ml := mask_lt (A := A) (us := usB A U V) (mst := musM A U V L nB) (s := sJ A U V L nB b (T - (j + 1))) hL hb
      have cb := bit_and (s := (cT A (usB A U V) (musM A U V L nB) L nB (nB - b) (sJ A U V L nB b (T - (j + 1)))).2.2) (k := 12) (by omega)
      have ec : (2 : Nat) ^ 12 = 4096 := by decide
      rw [ec] at cb
      generalize hB : (cT A (usB A U V) (musM A U V L nB) L nB (nB - b) (sJ A U V L nB b (T - (j + 1)))).2.2 = B at bf ml cb
      obtain ⟨r1, w1, k1, g1⟩ := i5.wR (i := sJ A U V L nB b (T - (j + 1))) (x := B.testBit 12) (by omega)
      have r15 : hk_I r1 1 15 = n3 L := by rw [k1.2.2.1 1 15 (by decide)]; exact kr.1.2
      obtain ⟨r2, R2, e2, k2, g2, g3⟩ := c_overLine N r1 (b := b) (B := B) (c27 := nX3_goOver_27 N m) (x2 := n3 (musM A U V L nB b)) (x3 := n3 (opM A U V L nB b)) (x4 := pt) (x5 := n3 (tk ||| B)) (x6 := n3 (T - j)) r15 hq g1 lt ml hN
      refine ⟨(r2, (pt - n3 1) &&& n3 (opM A U V L nB b), tk ||| B), ?_, i1.trans (k1.trans k2), nx, ?_, ?_, R2, g2, ?_⟩
      · try dsimp only
        rw [nX3_goOver_27, ← ed]
        have fin : nX3_goOver_88 N (nX3_goOver_27 N m) N 40 (n3 b) (n3 (musM A U V L nB b)) (n3 (opM A U V L nB b)) pt (n3 (tk ||| B)) (n3 (T - j)) (n3 (sJ A U V L nB b (T - (j + 1)))) (n3 B) (n3 0) (hp r1) = nX3_goOver_27 N m 40 (n3 b) (n3 (musM A U V L nB b)) (n3 (opM A U V L nB b)) ((pt - n3 1) &&& n3 (opM A U V L nB b)) (n3 (tk ||| B)) (n3 (T - j - 1)) (hp r2) := by
          rw [e2, nX3_goOver_129]
          simp (maxSteps := 400000) (disch := omega) only [n3_l, n3_add, n3_mul, n3_sub, n3_subn, n3_lt, n3_le, n3_eq, n3_eqn, n3_neq, n3_and, n3_or, n3_shl, n3_i, n3_cl, ↓hbd_0, ↓hbd_1, ↓hbd_2, hk_ob_0, hk_rd_0, hk_rd_1, hk_rd_2, hk_al_0, hk_al_1, h3r_0, h3r_1, hk_wi_0, hk_wj_0, h3w_0, h3w_1, h3v_0, hk_kI, hk_kJ, hk_kA, hk_kB, A_eq, A_ne, A_row, B_eq, B_ne, B_row, I_eq, I_ne, J_eq, J_ne, Option.bind_some, Option.some.injEq, if_true, if_false, eq_self, true_or, or_true, true_and, and_true, false_or, or_false, not_true_eq_false, not_false_eq_true, Classical.not_not, nar_b0, nar_b1, rz_0, rz_1, rz_i, ite01, Nat.add_zero, Nat.zero_add, Nat.one_mul, mul12, reduceIte, ra_z0, Nat.reduceEqDiff, Nat.reduceLT, Nat.reduceLeDiff, Nat.reduceAdd, Nat.reduceMul, Nat.reduceSub, Nat.reduceDiv, Nat.reduceMod, Bool.false_eq_true, false_and, and_false, reduceCtorEq]
        by_cases c12 : B.testBit 12 = true
        · rw [if_pos c12] at w1
          simp (maxSteps := 400000) (disch := omega) only [n3_l, n3_add, n3_mul, n3_sub, n3_subn, n3_lt, n3_le, n3_eq, n3_eqn, n3_neq, n3_and, n3_or, n3_shl, n3_i, n3_cl, ↓hbd_0, ↓hbd_1, ↓hbd_2, hk_ob_0, hk_rd_0, hk_rd_1, hk_rd_2, hk_al_0, hk_al_1, h3r_0, h3r_1, hk_wi_0, hk_wj_0, h3w_0, h3w_1, h3v_0, hk_kI, hk_kJ, hk_kA, hk_kB, A_eq, A_ne, A_row, B_eq, B_ne, B_row, I_eq, I_ne, J_eq, J_ne, Option.bind_some, Option.some.injEq, if_true, if_false, eq_self, true_or, or_true, true_and, and_true, false_or, or_false, not_true_eq_false, not_false_eq_true, Classical.not_not, nar_b0, nar_b1, rz_0, rz_1, rz_i, ite01, Nat.add_zero, Nat.zero_add, Nat.one_mul, mul12, reduceIte, ra_z0, Nat.reduceEqDiff, Nat.reduceLT, Nat.reduceLeDiff, Nat.reduceAdd, Nat.reduceMul, Nat.reduceSub, Nat.reduceDiv, Nat.reduceMod, Bool.false_eq_true, false_and, and_false, reduceCtorEq, ix, cz, rr, bf, cb, c12, w1, nX3_goOver_84]
          exact fin
        · rw [if_neg c12] at w1
          simp (maxSteps := 400000) (disch := omega) only [n3_l, n3_add, n3_mul, n3_sub, n3_subn, n3_lt, n3_le, n3_eq, n3_eqn, n3_neq, n3_and, n3_or, n3_shl, n3_i, n3_cl, ↓hbd_0, ↓hbd_1, ↓hbd_2, hk_ob_0, hk_rd_0, hk_rd_1, hk_rd_2, hk_al_0, hk_al_1, h3r_0, h3r_1, hk_wi_0, hk_wj_0, h3w_0, h3w_1, h3v_0, hk_kI, hk_kJ, hk_kA, hk_kB, A_eq, A_ne, A_row, B_eq, B_ne, B_row, I_eq, I_ne, J_eq, J_ne, Option.bind_some, Option.some.injEq, if_true, if_false, eq_self, true_or, or_true, true_and, and_true, false_or, or_false, not_true_eq_false, not_false_eq_true, Classical.not_not, nar_b0, nar_b1, rz_0, rz_1, rz_i, ite01, Nat.add_zero, Nat.zero_add, Nat.one_mul, mul12, reduceIte, ra_z0, Nat.reduceEqDiff, Nat.reduceLT, Nat.reduceLeDiff, Nat.reduceAdd, Nat.reduceMul, Nat.reduceSub, Nat.reduceDiv, Nat.reduceMod, Bool.false_eq_true, false_and, and_false, reduceCtorEq, ix, cz, rr, bf, cb, c12, w1, nX3_goOver_84]
          exact fin
      · try dsimp only
        exact Nat.or_lt_two_pow (n := 13) i3 ml
      · intro l
        try dsimp only
        rw [Nat.testBit_or, Bool.or_eq_true, i4]
        constructor
        · rintro (⟨i, z1, z2, z3⟩ | z)
          · exact ⟨i, by omega, z2, z3⟩
          · exact ⟨T - (j + 1), by omega, hi1, c, by rw [hB]; exact z⟩
        · rintro ⟨i, z1, z2, z3, z4⟩
          rcases (step i).mp ⟨z1, z2⟩ with z | z
          · exact Or.inl ⟨i, z.1, z.2, z3, z4⟩
          · rw [z, hB] at z4; exact Or.inr z4
      · intro x
        rw [g3]
        try dsimp only
        constructor
        · rintro (z | ⟨l, z1, z2, z3⟩)
          · by_cases ex : x = sJ A U V L nB b (T - (j + 1))
            · rw [if_pos ex] at z
              exact Or.inr ⟨T - (j + 1), by omega, hi1, c, Or.inl ⟨by rw [hB]; exact z, ex⟩⟩
            · rw [if_neg ex, i6] at z
              rcases z with ⟨z1, z2⟩ | ⟨i, z1, z2, z3⟩
              · refine Or.inl ⟨z1, fun i y1 y2 => ?_⟩
                rcases (step i).mp ⟨y1, y2⟩ with y | y
                · exact z2 i y.1 y.2
                · rw [y]; exact ex
              · exact Or.inr ⟨i, by omega, z2, z3⟩
          · exact Or.inr ⟨T - (j + 1), by omega, hi1, c, Or.inr ⟨l, z1, by rw [hB]; exact z2, z3⟩⟩
        · rintro (⟨z1, z2⟩ | ⟨i, z1, z2, z3, z4⟩)
          · left
            rw [if_neg (z2 _ (Nat.le_refl _) hi1), i6]
            exact Or.inl ⟨z1, fun i y1 y2 => z2 i (by omega) y2⟩
          · rcases (step i).mp ⟨z1, z2⟩ with z | z
            · left
              rw [if_neg, i6]
              · exact Or.inr ⟨i, z.1, z.2, z3, z4⟩
              · intro ex
                rcases z4 with ⟨-, z5⟩ | ⟨l, -, -, z5⟩
                · rw [ex] at z5
                  have := inj hi1 z2 z5; omega
                · rw [ex] at z5
                  have := sub l z2 z5.symm; omega
            · rw [z, hB] at z4
              rcases z4 with ⟨z5, z6⟩ | ⟨l, z5, z6, z7⟩
              · left; rw [if_pos z6]; exact z5
              · exact Or.inr ⟨l, z5, z6, z7⟩
    · have rf : ¬ R' (sJ A U V L nB b (T - (j + 1))) = true := fun z => c (rd.mp z)
      rw [if_neg rf] at rr
      refine ⟨(r, (pt - n3 1) &&& n3 (opM A U V L nB b), tk), ?_, i1, nx, i3, ?_, R', i5, ?_⟩
      · try dsimp only
        rw [nX3_goOver_27, ← ed]
        simp (maxSteps := 400000) (disch := omega) only [n3_l, n3_add, n3_mul, n3_sub, n3_subn, n3_lt, n3_le, n3_eq, n3_eqn, n3_neq, n3_and, n3_or, n3_shl, n3_i, n3_cl, ↓hbd_0, ↓hbd_1, ↓hbd_2, hk_ob_0, hk_rd_0, hk_rd_1, hk_rd_2, hk_al_0, hk_al_1, h3r_0, h3r_1, hk_wi_0, hk_wj_0, h3w_0, h3w_1, h3v_0, hk_kI, hk_kJ, hk_kA, hk_kB, A_eq, A_ne, A_row, B_eq, B_ne, B_row, I_eq, I_ne, J_eq, J_ne, Option.bind_some, Option.some.injEq, if_true, if_false, eq_self, true_or, or_true, true_and, and_true, false_or, or_false, not_true_eq_false, not_false_eq_true, Classical.not_not, nar_b0, nar_b1, rz_0, rz_1, rz_i, ite01, Nat.add_zero, Nat.zero_add, Nat.one_mul, mul12, reduceIte, ra_z0, Nat.reduceEqDiff, Nat.reduceLT, Nat.reduceLeDiff, Nat.reduceAdd, Nat.reduceMul, Nat.reduceSub, Nat.reduceDiv, Nat.reduceMod, Bool.false_eq_true, false_and, and_false, reduceCtorEq, ix, cz, rr, nX3_goOver_129]
      · intro l
        try dsimp only
        rw [i4]
        constructor
        · rintro ⟨i, z1, z2⟩; exact ⟨i, by omega, z2⟩
        · rintro ⟨i, z1, z2, z3, z4⟩
          rcases (step i).mp ⟨z1, z2⟩ with z | z
          · exact ⟨i, z.1, z.2, z3, z4⟩
          · rw [z] at z3; exact absurd z3 c
      · intro x
        rw [i6]
        constructor
        · rintro (⟨z1, z2⟩ | ⟨i, z1, z2⟩)
          · refine Or.inl ⟨z1, fun i y1 y2 => ?_⟩
            rcases (step i).mp ⟨y1, y2⟩ with y | y
            · exact z2 i y.1 y.2
            · rw [y]; intro ex; rw [ex] at z1; exact c z1
          · exact Or.inr ⟨i, by omega, z2⟩
        · rintro (⟨z1, z2⟩ | ⟨i, z1, z2, z3, z4⟩)
          · exact Or.inl ⟨z1, fun i y1 y2 => z2 i (by omega) y2⟩
          · rcases (step i).mp ⟨z1, z2⟩ with z | z
            · exact Or.inr ⟨i, z.1, z.2, z3, z4⟩
            · rw [z] at z3; exact absurd z3 c) T 0 N (κ, n3 (opM A U V L nB b), 0) (by omega) (by omega) ⟨sameP.refl _ _ _, fun _ => by
        show n3 _ = n3 (dep 32 _ (T - 1 - 0))
        have e1 : pcw 32 (opM A U V L nB b) = pcw 13 (opM A U V L nB b) := pcw_more 13 19 _ (by omega)
        have := dep_top 32 (opM A U V L nB b) (by omega)
        rw [e1, hT] at this
        rw [Nat.sub_zero, this], (by decide : (0 : Nat) < 8192), fun l => ⟨fun z => (by rw [Nat.zero_testBit] at z; cases z), fun ⟨i, z1, z2, _⟩ => (by omega)⟩, R, h, fun x => ⟨fun z => Or.inl ⟨z, fun i z1 z2 => by omega⟩, fun z => by
          rcases z with z | ⟨i, z1, z2, -⟩
          · exact z.1
          · omega⟩⟩
  try dsimp only at i1 i2 i3 i4
  have lvl : ∀ s, (∃ i, T - T ≤ i ∧ i < T ∧ s = sJ A U V L nB b i) ↔ lev A U V L nB b s := by
    intro s
    constructor
    · rintro ⟨i, -, -, z⟩; rw [z]; exact sJ_lev hL b i
    · intro z
      obtain ⟨i, z1, z2⟩ := lev_sJ hL z
      exact ⟨i, by omega, by rw [← hT]; exact z1, z2⟩
  have RL : ∀ i, R (sJ A U V L nB b i) = true ↔ rc A L nB b (sJ A U V L nB b i) := fun i => hR b (by omega) _ (sJ_lev hL b i)
  refine ⟨s', R', tk, ?_, i1, i4, i2, ?_, ?_⟩
  · have e0 : nX3_goOver_27 N N 40 (n3 b) (n3 (musM A U V L nB b)) (n3 (opM A U V L nB b)) (n3 (opM A U V L nB b)) (n3 0) (n3 T) (hp κ) = nX3_goOver_27 N (m' + 1) 40 (n3 b) (n3 (musM A U V L nB b)) (n3 (opM A U V L nB b)) pt (n3 tk) (n3 (T - T)) (hp s') := e
    unfold fX3_goOver nX3_goOver_0
    simp (maxSteps := 400000) (disch := omega) only [n3_l, n3_add, n3_mul, n3_sub, n3_subn, n3_lt, n3_le, n3_eq, n3_eqn, n3_neq, n3_and, n3_or, n3_shl, n3_i, n3_cl, ↓hbd_0, ↓hbd_1, ↓hbd_2, hk_ob_0, hk_rd_0, hk_rd_1, hk_rd_2, hk_al_0, hk_al_1, h3r_0, h3r_1, hk_wi_0, hk_wj_0, h3w_0, h3w_1, h3v_0, hk_kI, hk_kJ, hk_kA, hk_kB, A_eq, A_ne, A_row, B_eq, B_ne, B_row, I_eq, I_ne, J_eq, J_ne, Option.bind_some, Option.some.injEq, if_true, if_false, eq_self, true_or, or_true, true_and, and_true, false_or, or_false, not_true_eq_false, not_false_eq_true, Classical.not_not, nar_b0, nar_b1, rz_0, rz_1, rz_i, ite01, Nat.add_zero, Nat.zero_add, Nat.one_mul, mul12, reduceIte, ra_z0, Nat.reduceEqDiff, Nat.reduceLT, Nat.reduceLeDiff, Nat.reduceAdd, Nat.reduceMul, Nat.reduceSub, Nat.reduceDiv, Nat.reduceMod, Bool.false_eq_true, false_and, and_false, reduceCtorEq, r51, oa, bc, n3_shl, hT]
    rw [e0, Nat.sub_self, nX3_goOver_27]
    simp (maxSteps := 400000) (disch := omega) only [n3_l, n3_add, n3_mul, n3_sub, n3_subn, n3_lt, n3_le, n3_eq, n3_eqn, n3_neq, n3_and, n3_or, n3_shl, n3_i, n3_cl, ↓hbd_0, ↓hbd_1, ↓hbd_2, hk_ob_0, hk_rd_0, hk_rd_1, hk_rd_2, hk_al_0, hk_al_1, h3r_0, h3r_1, hk_wi_0, hk_wj_0, h3w_0, h3w_1, h3v_0, hk_kI, hk_kJ, hk_kA, hk_kB, A_eq, A_ne, A_row, B_eq, B_ne, B_row, I_eq, I_ne, J_eq, J_ne, Option.bind_some, Option.some.injEq, if_true, if_false, eq_self, true_or, or_true, true_and, and_true, false_or, or_false, not_true_eq_false, not_false_eq_true, Classical.not_not, nar_b0, nar_b1, rz_0, rz_1, rz_i, ite01, Nat.add_zero, Nat.zero_add, Nat.one_mul, mul12, reduceIte, ra_z0, Nat.reduceEqDiff, Nat.reduceLT, Nat.reduceLeDiff, Nat.reduceAdd, Nat.reduceMul, Nat.reduceSub, Nat.reduceDiv, Nat.reduceMod, Bool.false_eq_true, false_and, and_false, reduceCtorEq]
  · intro l
    rw [i3]
    constructor
    · rintro ⟨i, z1, z2, z3, z4⟩
      have z5 := (RL i).mp z3
      obtain ⟨m1, m2⟩ := mask_bits hL hd hg hb z5
      by_cases cl : l < L
      · exact Or.inl ⟨cl, _, z5, (m1 l cl).mp z4⟩
      · obtain ⟨y1, y2⟩ := (m2 l (by omega)).mp z4
        exact Or.inr ⟨y1, _, z5, y2⟩
    · rintro (⟨cl, s, z1, z2⟩ | ⟨cl, s, z1, z2⟩)
      · obtain ⟨i, y1, y2, y3⟩ := (lvl s).mpr (rc_lev hd hg (by omega) z1)
        rw [y3] at z1 z2
        exact ⟨i, y1, y2, (RL i).mpr z1, ((mask_bits hL hd hg hb z1).1 l cl).mpr z2⟩
      · obtain ⟨i, y1, y2, y3⟩ := (lvl s).mpr (rc_lev hd hg (by omega) z1)
        rw [y3] at z1 z2
        exact ⟨i, y1, y2, (RL i).mpr z1, ((mask_bits hL hd hg hb z1).2 l (by omega)).mpr ⟨cl, z2⟩⟩
  · intro b' hb' s hs
    rw [i5]
    constructor
    · rintro (⟨z1, z2⟩ | ⟨i, z1, z2, z3, z4⟩)
      · have y := (hR b' hb' s hs).mp z1
        obtain ⟨i, y1, y2, y3⟩ := (lvl s).mpr (rc_lev hd hg (by omega) y)
        exact absurd y3 (z2 i y1 y2)
      · have z5 := (RL i).mp z3
        obtain ⟨m1, m2⟩ := mask_bits hL hd hg hb z5
        rcases z4 with ⟨y1, y2⟩ | ⟨l, y1, y2, y3⟩
        · rw [y2]
          exact Or.inl ⟨z5, ((m2 12 hL).mp y1).2⟩
        · rw [y3]
          exact Or.inr ⟨_, l, z5, (m1 l y1).mp y2, rfl⟩
    · rintro (⟨z1, z2⟩ | ⟨s0, l, z1, z2, z3⟩)
      · obtain ⟨i, y1, y2, y3⟩ := (lvl s).mpr (rc_lev hd hg (by omega) z1)
        rw [y3] at z1 z2
        exact Or.inr ⟨i, y1, y2, (RL i).mpr z1, Or.inl ⟨((mask_bits hL hd hg hb z1).2 12 hL).mpr ⟨rfl, z2⟩, y3⟩⟩
      · obtain ⟨i, y1, y2, y3⟩ := (lvl s0).mpr (rc_lev hd hg (by omega) z1)
        rw [y3] at z1 z2 z3
        exact Or.inr ⟨i, y1, y2, (RL i).mpr z1, Or.inr ⟨l, z2.1, ((mask_bits hL hd hg hb z1).1 l z2.1).mpr z2, z3⟩⟩
theorem c_findSure {nB L q : Nat} {A : Nat → Nat → Int} {U V : Nat → Int} {S : Nat → Int} {W : Nat → Nat} {R : Nat → Bool} {C : Nat → Nat} (hK : mK κ A U V nB L) (h40 : nB ≤ 40) (hq : L ≤ q) (h : mC κ q S W R C) (hd : dualOk A U V L nB) (hg : goodAt A U V L nB nB 0)
    (hC : ∀ b, b < nB → uMk A U V L b ≠ 0 → ∀ s, lev A U V L nB b s → C (b * 2 ^ L + s) = (cT A (usB A U V) (musM A U V L nB) L nB (nB - b) s).2.2) (hR : ∀ b', b' ≤ nB → ∀ s, lev A U V L nB b' s → R s = false) (hN : 10000 < N) :
    ∃ κ' R', fX3_findSure N 40 (hp κ) = some (hp κ') ∧ sameP [60] [] κ κ' ∧ mC κ' q S W R' C ∧ ∀ b, b < nB → (sureP A L nB b → hk_A κ' 60 b = n3 1) ∧ (¬ sureP A L nB b → hk_A κ' 60 b = n3 0) := by
  have hL : L ≤ 12 := by have := h.2.1; omega
  have q1 : 0 < 2 ^ q := Nat.two_pow_pos q
  obtain ⟨r0, w0, k0, g0⟩ := h.wR (i := 0) (x := true) q1
  rw [if_pos rfl] at w0
  obtain ⟨m', s', e, i1, R', i2, -, i4⟩ := lpx (fun m b (s : hk_T) => nX3_findSure_9 N m 40 (n3 b) (hp s)) nB (fun b s => sameP [60] [] κ s ∧ ∃ R', mC s q S W R' C ∧ (∀ b', b' ≤ nB → ∀ s, lev A U V L nB b' s → (R' s = true ↔ rc A L nB b s)) ∧ ∀ b', b' < b → (sureP A L nB b' → hk_A s 60 b' = n3 1) ∧ (¬ sureP A L nB b' → hk_A s 60 b' = n3 0)) (by
    rintro m b r hb ⟨i1, R', i2, i3, i4⟩
    have kr : mK r A U V nB L := hK.sameP i1 (by decide) (by decide) (by decide) (by decide) (by decide)
    have r13 := kr.1.1
    have r49 := kr.2.1 b hb
    have hul := uMk_lt2 (A := A) (U := U) (V := V) hL b
    have old : ∀ (r' : hk_T) (x : Int32), hk_A r' 60 = hk_A r 60 → ∀ b', b' < b → (sureP A L nB b' → hk_A (hk_wA r' 60 b x) 60 b' = n3 1) ∧ (¬ sureP A L nB b' → hk_A (hk_wA r' 60 b x) 60 b' = n3 0) := by
      intro r' x e b' hb'
      rw [A_ne (Or.inr (by omega)), e]
      exact i4 b' hb'
    by_cases c : uMk A U V L b = 0
    · have no : ∀ s l, rc A L nB b s → ¬ opt A L nB b s l := by
        intro s l hs ho
        have z := (uMk_bit (a := A) (u := U) (v := V) (L := L) l b).mpr ⟨ho.1, rc_opt hd hg hb hs ho⟩
        rw [c, Nat.zero_testBit] at z
        cases z
      have hN' : ∀ s, rc A L nB b s → opN A L nB b s := by
        intro s hs
        rcases opt_some (a := A) (L := L) s hb with z | ⟨l, z⟩
        · exact z
        · exact absurd z (no s l hs)
      have hsure : sureP A L nB b := by
        intro s hs
        refine ⟨fun l hl => absurd hl (no s l hs), fun _ => ?_⟩
        obtain ⟨l1, l2, l3⟩ := its_is A L nB b
        by_cases cl : its A L nB b < L
        · exact absurd (l2 cl) (no _ _ (rc_gv b (by omega)))
        · omega
      refine ⟨hk_wA r 60 b (n3 1), ?_, i1.trans ((same.refl _ _ r).wA (by decide)).toP, R', i2.keep rfl rfl rfl, ?_, ?_⟩
      · rw [nX3_findSure_9]
        simp (maxSteps := 400000) (disch := omega) only [n3_l, n3_add, n3_mul, n3_sub, n3_subn, n3_lt, n3_le, n3_eq, n3_eqn, n3_neq, n3_and, n3_or, n3_shl, n3_i, n3_cl, ↓hbd_0, ↓hbd_1, ↓hbd_2, hk_ob_0, hk_rd_0, hk_rd_1, hk_rd_2, hk_al_0, hk_al_1, h3r_0, h3r_1, hk_wi_0, hk_wj_0, h3w_0, h3w_1, h3v_0, hk_kI, hk_kJ, hk_kA, hk_kB, A_eq, A_ne, A_row, B_eq, B_ne, B_row, I_eq, I_ne, J_eq, J_ne, Option.bind_some, Option.some.injEq, if_true, if_false, eq_self, true_or, or_true, true_and, and_true, false_or, or_false, not_true_eq_false, not_false_eq_true, Classical.not_not, nar_b0, nar_b1, rz_0, rz_1, rz_i, ite01, Nat.add_zero, Nat.zero_add, Nat.one_mul, mul12, reduceIte, ra_z0, Nat.reduceEqDiff, Nat.reduceLT, Nat.reduceLeDiff, Nat.reduceAdd, Nat.reduceMul, Nat.reduceSub, Nat.reduceDiv, Nat.reduceMod, Bool.false_eq_true, false_and, and_false, reduceCtorEq, r13, hb, r49, c, nX3_findSure_46, nX3_findSure_51]
      · intro b' hb' s hs
        rw [i3 b' hb' s hs]
        constructor
        · intro z; exact Or.inl ⟨z, hN' s z⟩
        · rintro (⟨z, -⟩ | ⟨s0, l, z1, z2, -⟩)
          · exact z
          · exact absurd z2 (no s0 l z1)
      · intro b' hb'
        by_cases eb : b' = b
        · rw [eb, A_eq rfl]; exact ⟨fun _ => rfl, fun z => absurd hsure z⟩
        · exact old r (n3 1) rfl b' (by omega)
    · obtain ⟨r1, R1, tk, e1, k1, g1, t1, t2, t3⟩ := c_goOver N r kr h40 hq i2 hd hg hb (fun z => hC b hb z) i3 hN
      have bc := f_bitCount N (hp r1) t1
      have so := sure_one hL hb t2
      have pl := pcw_le 13 tk
      have e60 : hk_A r1 60 = hk_A r 60 := k1.1 60 (by decide)
      by_cases cs : sureP A L nB b
      · have c1 := so.mpr cs
        refine ⟨hk_wA r1 60 b (n3 1), ?_, i1.trans ((k1.weak (by simp) (by simp)).trans ((same.refl _ _ r1).wA (by decide)).toP), R1, g1.keep rfl rfl rfl, t3, ?_⟩
        · rw [nX3_findSure_9]
          simp (maxSteps := 400000) (disch := omega) only [n3_l, n3_add, n3_mul, n3_sub, n3_subn, n3_lt, n3_le, n3_eq, n3_eqn, n3_neq, n3_and, n3_or, n3_shl, n3_i, n3_cl, ↓hbd_0, ↓hbd_1, ↓hbd_2, hk_ob_0, hk_rd_0, hk_rd_1, hk_rd_2, hk_al_0, hk_al_1, h3r_0, h3r_1, hk_wi_0, hk_wj_0, h3w_0, h3w_1, h3v_0, hk_kI, hk_kJ, hk_kA, hk_kB, A_eq, A_ne, A_row, B_eq, B_ne, B_row, I_eq, I_ne, J_eq, J_ne, Option.bind_some, Option.some.injEq, if_true, if_false, eq_self, true_or, or_true, true_and, and_true, false_or, or_false, not_true_eq_false, not_false_eq_true, Classical.not_not, nar_b0, nar_b1, rz_0, rz_1, rz_i, ite01, Nat.add_zero, Nat.zero_add, Nat.one_mul, mul12, reduceIte, ra_z0, Nat.reduceEqDiff, Nat.reduceLT, Nat.reduceLeDiff, Nat.reduceAdd, Nat.reduceMul, Nat.reduceSub, Nat.reduceDiv, Nat.reduceMod, Bool.false_eq_true, false_and, and_false, reduceCtorEq, r13, hb, r49, c, e1, bc, c1, nX3_findSure_46, nX3_findSure_51]
        · intro b' hb'
          by_cases eb : b' = b
          · rw [eb, A_eq rfl]; exact ⟨fun _ => rfl, fun z => absurd cs z⟩
          · exact old r1 (n3 1) e60 b' (by omega)
      · have c1 : ¬ pcw 13 tk = 1 := fun z => cs (so.mp z)
        refine ⟨hk_wA r1 60 b (n3 0), ?_, i1.trans ((k1.weak (by simp) (by simp)).trans ((same.refl _ _ r1).wA (by decide)).toP), R1, g1.keep rfl rfl rfl, t3, ?_⟩
        · rw [nX3_findSure_9]
          simp (maxSteps := 400000) (disch := omega) only [n3_l, n3_add, n3_mul, n3_sub, n3_subn, n3_lt, n3_le, n3_eq, n3_eqn, n3_neq, n3_and, n3_or, n3_shl, n3_i, n3_cl, ↓hbd_0, ↓hbd_1, ↓hbd_2, hk_ob_0, hk_rd_0, hk_rd_1, hk_rd_2, hk_al_0, hk_al_1, h3r_0, h3r_1, hk_wi_0, hk_wj_0, h3w_0, h3w_1, h3v_0, hk_kI, hk_kJ, hk_kA, hk_kB, A_eq, A_ne, A_row, B_eq, B_ne, B_row, I_eq, I_ne, J_eq, J_ne, Option.bind_some, Option.some.injEq, if_true, if_false, eq_self, true_or, or_true, true_and, and_true, false_or, or_false, not_true_eq_false, not_false_eq_true, Classical.not_not, nar_b0, nar_b1, rz_0, rz_1, rz_i, ite01, Nat.add_zero, Nat.zero_add, Nat.one_mul, mul12, reduceIte, ra_z0, Nat.reduceEqDiff, Nat.reduceLT, Nat.reduceLeDiff, Nat.reduceAdd, Nat.reduceMul, Nat.reduceSub, Nat.reduceDiv, Nat.reduceMod, Bool.false_eq_true, false_and, and_false, reduceCtorEq, r13, hb, r49, c, e1, bc, c1, nX3_findSure_46, nX3_findSure_51]
        · intro b' hb'
          by_cases eb : b' = b
          · rw [eb, A_eq rfl]; exact ⟨fun z => absurd z cs, fun _ => rfl⟩
          · exact old r1 (n3 0) e60 b' (by omega)) nB 0 N r0 (by omega) (by omega) ⟨k0.weak (by simp) (by simp), _, g0, fun b' hb' s hs => by
      try dsimp only
      by_cases e : s = 0
      · rw [if_pos e]; exact ⟨fun _ => e, fun _ => rfl⟩
      · rw [if_neg e, hR b' hb' s hs]
        exact ⟨fun z => (by cases z), fun z => absurd z e⟩, fun b' h => by omega⟩
  refine ⟨s', R', ?_, i1, i2, i4⟩
  have r13 : hk_I s' 1 13 = n3 nB := by rw [i1.2.2.1 1 13 (by decide)]; exact hK.1.1
  have e0 : nX3_findSure_9 N N 40 (n3 0) (hp r0) = nX3_findSure_9 N (m' + 1) 40 (n3 nB) (hp s') := e
  unfold fX3_findSure nX3_findSure_0
  simp (maxSteps := 400000) (disch := omega) only [n3_l, n3_add, n3_mul, n3_sub, n3_subn, n3_lt, n3_le, n3_eq, n3_eqn, n3_neq, n3_and, n3_or, n3_shl, n3_i, n3_cl, ↓hbd_0, ↓hbd_1, ↓hbd_2, hk_ob_0, hk_rd_0, hk_rd_1, hk_rd_2, hk_al_0, hk_al_1, h3r_0, h3r_1, hk_wi_0, hk_wj_0, h3w_0, h3w_1, h3v_0, hk_kI, hk_kJ, hk_kA, hk_kB, A_eq, A_ne, A_row, B_eq, B_ne, B_row, I_eq, I_ne, J_eq, J_ne, Option.bind_some, Option.some.injEq, if_true, if_false, eq_self, true_or, or_true, true_and, and_true, false_or, or_false, not_true_eq_false, not_false_eq_true, Classical.not_not, nar_b0, nar_b1, rz_0, rz_1, rz_i, ite01, Nat.add_zero, Nat.zero_add, Nat.one_mul, mul12, reduceIte, ra_z0, Nat.reduceEqDiff, Nat.reduceLT, Nat.reduceLeDiff, Nat.reduceAdd, Nat.reduceMul, Nat.reduceSub, Nat.reduceDiv, Nat.reduceMod, Bool.false_eq_true, false_and, and_false, reduceCtorEq, w0]
  rw [e0, nX3_findSure_9]
  simp (maxSteps := 400000) (disch := omega) only [n3_l, n3_add, n3_mul, n3_sub, n3_subn, n3_lt, n3_le, n3_eq, n3_eqn, n3_neq, n3_and, n3_or, n3_shl, n3_i, n3_cl, ↓hbd_0, ↓hbd_1, ↓hbd_2, hk_ob_0, hk_rd_0, hk_rd_1, hk_rd_2, hk_al_0, hk_al_1, h3r_0, h3r_1, hk_wi_0, hk_wj_0, h3w_0, h3w_1, h3v_0, hk_kI, hk_kJ, hk_kA, hk_kB, A_eq, A_ne, A_row, B_eq, B_ne, B_row, I_eq, I_ne, J_eq, J_ne, Option.bind_some, Option.some.injEq, if_true, if_false, eq_self, true_or, or_true, true_and, and_true, false_or, or_false, not_true_eq_false, not_false_eq_true, Classical.not_not, nar_b0, nar_b1, rz_0, rz_1, rz_i, ite01, Nat.add_zero, Nat.zero_add, Nat.one_mul, mul12, reduceIte, ra_z0, Nat.reduceEqDiff, Nat.reduceLT, Nat.reduceLeDiff, Nat.reduceAdd, Nat.reduceMul, Nat.reduceSub, Nat.reduceDiv, Nat.reduceMod, Bool.false_eq_true, false_and, and_false, reduceCtorEq, r13, Nat.lt_irrefl]
end
