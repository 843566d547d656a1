/-! fact, row -/
theorem okFact_n {f : Nat} {v : Int32} (hf : f < 12) (h : okFact (n3 f) v = true) : 2 ≤ f ∧ vIn (s_least f) (s_most f) v = true := by
  unfold okFact at h
  obtain ⟨a, b⟩ := decide_eq_true_iff.mp h
  rw [n3_toInt (by omega)] at a b
  exact ⟨by omega, by rw [show ((f : Nat) : Int).toNat = f by omega] at b; exact b⟩
theorem okFact_f {f v : Int32} (h : okFact f v = true) : ∃ k, k < 12 ∧ f = n3 k := by
  unfold okFact at h
  obtain ⟨a, b⟩ := decide_eq_true_iff.mp h
  exact ⟨f.toInt.toNat, by omega, n3_of (by omega)⟩
theorem bkOk_set {F F' : Nat → Int32} {b f : Nat} {v : Int32} (h : bkOk F b) (h2 : 2 ≤ f) (hf : f < 12) (hv : vIn (s_least f) (s_most f) v = true) (e1 : F' (12 * b + f) = v) (e2 : ∀ i, i ≠ 12 * b + f → F' i = F i) : bkOk F' b := by
  obtain ⟨a0, a2, a3, a4, a5, a6, a7, a8, a9, a10, a11⟩ := h
  have c : f = 2 ∨ f = 3 ∨ f = 4 ∨ f = 5 ∨ f = 6 ∨ f = 7 ∨ f = 8 ∨ f = 9 ∨ f = 10 ∨ f = 11 := by omega
  have o : ∀ g, g ≠ f → g < 12 → F' (12 * b + g) = F (12 * b + g) := fun g hg _ => e2 _ (by omega)
  have o0 : F' (12 * b) = F (12 * b) := e2 _ (by omega)
  unfold bkOk
  rw [o0, o 1 (by omega) (by omega)]
  rcases c with rfl | rfl | rfl | rfl | rfl | rfl | rfl | rfl | rfl | rfl
  · rw [e1, o 3 (by omega) (by omega), o 4 (by omega) (by omega), o 5 (by omega) (by omega), o 6 (by omega) (by omega), o 7 (by omega) (by omega), o 8 (by omega) (by omega), o 9 (by omega) (by omega), o 10 (by omega) (by omega), o 11 (by omega) (by omega)]
    exact ⟨a0, hv, a3, a4, a5, a6, a7, a8, a9, a10, a11⟩
  · rw [e1, o 2 (by omega) (by omega), o 4 (by omega) (by omega), o 5 (by omega) (by omega), o 6 (by omega) (by omega), o 7 (by omega) (by omega), o 8 (by omega) (by omega), o 9 (by omega) (by omega), o 10 (by omega) (by omega), o 11 (by omega) (by omega)]
    exact ⟨a0, a2, hv, a4, a5, a6, a7, a8, a9, a10, a11⟩
  · rw [e1, o 2 (by omega) (by omega), o 3 (by omega) (by omega), o 5 (by omega) (by omega), o 6 (by omega) (by omega), o 7 (by omega) (by omega), o 8 (by omega) (by omega), o 9 (by omega) (by omega), o 10 (by omega) (by omega), o 11 (by omega) (by omega)]
    exact ⟨a0, a2, a3, hv, a5, a6, a7, a8, a9, a10, a11⟩
  · rw [e1, o 2 (by omega) (by omega), o 3 (by omega) (by omega), o 4 (by omega) (by omega), o 6 (by omega) (by omega), o 7 (by omega) (by omega), o 8 (by omega) (by omega), o 9 (by omega) (by omega), o 10 (by omega) (by omega), o 11 (by omega) (by omega)]
    exact ⟨a0, a2, a3, a4, hv, a6, a7, a8, a9, a10, a11⟩
  · rw [e1, o 2 (by omega) (by omega), o 3 (by omega) (by omega), o 4 (by omega) (by omega), o 5 (by omega) (by omega), o 7 (by omega) (by omega), o 8 (by omega) (by omega), o 9 (by omega) (by omega), o 10 (by omega) (by omega), o 11 (by omega) (by omega)]
    exact ⟨a0, a2, a3, a4, a5, hv, a7, a8, a9, a10, a11⟩
  · rw [e1, o 2 (by omega) (by omega), o 3 (by omega) (by omega), o 4 (by omega) (by omega), o 5 (by omega) (by omega), o 6 (by omega) (by omega), o 8 (by omega) (by omega), o 9 (by omega) (by omega), o 10 (by omega) (by omega), o 11 (by omega) (by omega)]
    exact ⟨a0, a2, a3, a4, a5, a6, hv, a8, a9, a10, a11⟩
  · rw [e1, o 2 (by omega) (by omega), o 3 (by omega) (by omega), o 4 (by omega) (by omega), o 5 (by omega) (by omega), o 6 (by omega) (by omega), o 7 (by omega) (by omega), o 9 (by omega) (by omega), o 10 (by omega) (by omega), o 11 (by omega) (by omega)]
    exact ⟨a0, a2, a3, a4, a5, a6, a7, hv, a9, a10, a11⟩
  · rw [e1, o 2 (by omega) (by omega), o 3 (by omega) (by omega), o 4 (by omega) (by omega), o 5 (by omega) (by omega), o 6 (by omega) (by omega), o 7 (by omega) (by omega), o 8 (by omega) (by omega), o 10 (by omega) (by omega), o 11 (by omega) (by omega)]
    exact ⟨a0, a2, a3, a4, a5, a6, a7, a8, hv, a10, a11⟩
  · rw [e1, o 2 (by omega) (by omega), o 3 (by omega) (by omega), o 4 (by omega) (by omega), o 5 (by omega) (by omega), o 6 (by omega) (by omega), o 7 (by omega) (by omega), o 8 (by omega) (by omega), o 9 (by omega) (by omega), o 11 (by omega) (by omega)]
    exact ⟨a0, a2, a3, a4, a5, a6, a7, a8, a9, hv, a11⟩
  · rw [e1, o 2 (by omega) (by omega), o 3 (by omega) (by omega), o 4 (by omega) (by omega), o 5 (by omega) (by omega), o 6 (by omega) (by omega), o 7 (by omega) (by omega), o 8 (by omega) (by omega), o 9 (by omega) (by omega), o 10 (by omega) (by omega)]
    exact ⟨a0, a2, a3, a4, a5, a6, a7, a8, a9, a10, hv⟩
section
variable (N : Nat) (κ : hk_T)
theorem c_rowE {L n len : Nat} {xs : Nat → Int32} (hx : hk_x κ = ra_ex0 L xs) (hB : hk_I κ 1 13 = n3 n) (hn : n ≤ 40) (hT : hk_I κ 16 1 = n3 len) (hlen : len ≤ 400) (h1 : 0 < len) (hN : 1000 < N) {G : Nat → Int32} (hG : ∀ i, i < 480 → hk_A κ 2 i = G i) (h0 : ∀ i, 12 * n ≤ i → i < 480 → G i = n3 0)
    {w : Nat × (Nat → Int32) × Nat × Nat} (hw : fo (roS (hk_A κ 17) len) 0 ((len + 4) / 5) (n, G, 0, 0) = w) :
    ∃ κ', fX11_row N 0 (hp κ) = some (n3 w.2.2.1, hp κ') ∧ same [2, 25] [(1, 13), (23, 9), (23, 10), (40, 12), (16, 1), (0, 11), (0, 10)] κ κ' ∧ hk_I κ' 1 13 = n3 w.1 ∧ (∀ i, i < 480 → hk_A κ' 2 i = w.2.1 i) ∧ (∀ i, 12 * w.1 ≤ i → i < 480 → w.2.1 i = n3 0) ∧
      (∀ t b, t < 8 → b < n → hk_A κ' 25 (t * 40 + b) = hk_A κ 25 (t * 40 + b)) ∧ (∀ t b, t < 8 → n ≤ b → b < w.1 → hk_A κ' 25 (t * 40 + b) = n3 0) ∧
      ((w.1 = n ∧ hk_A κ' 2 = hk_A κ 2 ∧ hk_I κ' 23 9 = hk_I κ 23 9 ∧ hk_I κ' 23 10 = hk_I κ 23 10 ∧ hk_I κ' 40 12 = hk_I κ 40 12) ∨ (hk_I κ' 23 9 = n3 0 ∧ hk_I κ' 23 10 = n3 0 ∧ hk_I κ' 40 12 = n3 0)) ∧
      hk_I κ' 16 1 = n3 0 ∧ hk_I κ' 0 11 = n3 w.2.2.2 ∧ hk_I κ' 0 10 = n3 0 := by
  have hl0 : ¬ len = 0 := by omega
  simp (maxSteps := 400000) (disch := omega) only [n3_l, n3_add, n3_mul, n3_sub, n3_subn, n3_lt, n3_le, n3_eq, n3_eqn, n3_neq, n3_and, n3_or, n3_shl, n3_i, n3_cl, ↓hbd_0, ↓hbd_1, ↓hbd_2, hk_ob_0, hk_rd_0, hk_rd_1, hk_rd_2, hk_al_0, hk_al_1, h3r_0, h3r_1, hk_wi_0, hk_wj_0, h3w_0, h3w_1, h3v_0, hk_kI, hk_kJ, hk_kA, hk_kB, A_eq, A_ne, A_row, B_eq, B_ne, B_row, I_eq, I_ne, J_eq, J_ne, Option.bind_some, Option.some.injEq, if_true, if_false, eq_self, true_or, or_true, true_and, and_true, false_or, or_false, not_true_eq_false, not_false_eq_true, Classical.not_not, nar_b0, nar_b1, rz_0, rz_1, rz_i, ite01, Nat.add_zero, Nat.zero_add, Nat.one_mul, mul12, reduceIte, ra_z0, Nat.reduceEqDiff, Nat.reduceLT, Nat.reduceLeDiff, Nat.reduceAdd, Nat.reduceMul, Nat.reduceSub, Nat.reduceDiv, Nat.reduceMod, Bool.false_eq_true, false_and, and_false, reduceCtorEq, fX11_row, nX11_row_51, nX11_row_0, hT, hl0]
  obtain ⟨m', ⟨x', y', s'⟩, e, i1, i2, i3, i4, i5, i6, i7, i8, i9⟩ := lpx (fun m j (s : Int32 × Int32 × hk_T) => nX11_row_23 N m 0 s.1 s.2.1 (n3 (5 * j)) (hp s.2.2)) ((len + 4) / 5)
    (fun j r => same [2, 25] [(1, 13), (23, 9), (23, 10), (40, 12), (16, 1), (0, 11), (0, 10)] κ r.2.2 ∧ hk_I r.2.2 16 1 = n3 len ∧ hk_I r.2.2 1 13 = n3 (fo (roS (hk_A κ 17) len) 0 j (n, G, 0, 0)).1 ∧ (∀ i, i < 480 → hk_A r.2.2 2 i = (fo (roS (hk_A κ 17) len) 0 j (n, G, 0, 0)).2.1 i) ∧ (∀ i, 12 * (fo (roS (hk_A κ 17) len) 0 j (n, G, 0, 0)).1 ≤ i → i < 480 → (fo (roS (hk_A κ 17) len) 0 j (n, G, 0, 0)).2.1 i = n3 0) ∧
      (∀ t b, t < 8 → b < n → hk_A r.2.2 25 (t * 40 + b) = hk_A κ 25 (t * 40 + b)) ∧ (∀ t b, t < 8 → n ≤ b → b < (fo (roS (hk_A κ 17) len) 0 j (n, G, 0, 0)).1 → hk_A r.2.2 25 (t * 40 + b) = n3 0) ∧
      (((fo (roS (hk_A κ 17) len) 0 j (n, G, 0, 0)).1 = n ∧ hk_A r.2.2 2 = hk_A κ 2 ∧ hk_I r.2.2 23 9 = hk_I κ 23 9 ∧ hk_I r.2.2 23 10 = hk_I κ 23 10 ∧ hk_I r.2.2 40 12 = hk_I κ 40 12) ∨ (hk_I r.2.2 23 9 = n3 0 ∧ hk_I r.2.2 23 10 = n3 0 ∧ hk_I r.2.2 40 12 = n3 0)) ∧
      r.1 = n3 (fo (roS (hk_A κ 17) len) 0 j (n, G, 0, 0)).2.2.1 ∧ r.2.1 = n3 (fo (roS (hk_A κ 17) len) 0 j (n, G, 0, 0)).2.2.2) (by
    rintro m j ⟨x, y, s⟩ hj ⟨i1, i2, i3, i4, i5, i6, i7, i8, i9, i10⟩
    dsimp only at i1 i2 i3 i4 i5 i6 i7 i8 i9 i10 ⊢
    obtain ⟨o1, o2, o3, o4⟩ := ro_ok (hk_A κ 17) len n G hn j
    have eT : hk_A s 17 = hk_A κ 17 := i1.1 17 (by decide)
    have ex : hk_x s = ra_ex0 L xs := by rw [i1.2.2.2.2.2.2.2.2]; exact hx
    have hj5 : 5 * j < len := by omega
    rw [fo_last, Nat.zero_add]
    generalize fo (roS (hk_A κ 17) len) 0 j (n, G, 0, 0) = v at i3 i4 i5 i7 i8 i9 i10 o1 o2 o3 o4 ⊢
    obtain ⟨vn, vG, va, vr⟩ := v
    dsimp only at i3 i4 i5 i7 i8 i9 i10 o1 o2 o3 o4
    subst i9
    subst i10
    obtain ⟨a1, a2⟩ := c_addFromTape N s (j := j) (G := vG) ex i3 o1 i2 hlen hj5 hN i4 (fun i h1 h2 => by rw [i4 i h2]; exact i5 i h1 h2)
    rw [eT] at a1 a2
    unfold roS
    by_cases c : 5 * j + 5 ≤ len ∧ vn < 40 ∧ okNew (hk_A κ 17 (5 * j)) (hk_A κ 17 (5 * j + 1)) (hk_A κ 17 (5 * j + 2)) (hk_A κ 17 (5 * j + 3)) (hk_A κ 17 (5 * j + 4)) = true
    · obtain ⟨s2, e2, b1, b2, b3, b4, b5, b6, b7, b8⟩ := a2 c
      refine ⟨(n3 (va + 1), n3 vr, s2), ?_, ?_⟩
      · rw [nX11_row_23]
        simp (maxSteps := 400000) (disch := omega) only [n3_l, n3_add, n3_mul, n3_sub, n3_subn, n3_lt, n3_le, n3_eq, n3_eqn, n3_neq, n3_and, n3_or, n3_shl, n3_i, n3_cl, ↓hbd_0, ↓hbd_1, ↓hbd_2, hk_ob_0, hk_rd_0, hk_rd_1, hk_rd_2, hk_al_0, hk_al_1, h3r_0, h3r_1, hk_wi_0, hk_wj_0, h3w_0, h3w_1, h3v_0, hk_kI, hk_kJ, hk_kA, hk_kB, A_eq, A_ne, A_row, B_eq, B_ne, B_row, I_eq, I_ne, J_eq, J_ne, Option.bind_some, Option.some.injEq, if_true, if_false, eq_self, true_or, or_true, true_and, and_true, false_or, or_false, not_true_eq_false, not_false_eq_true, Classical.not_not, nar_b0, nar_b1, rz_0, rz_1, rz_i, ite01, Nat.add_zero, Nat.zero_add, Nat.one_mul, mul12, reduceIte, ra_z0, Nat.reduceEqDiff, Nat.reduceLT, Nat.reduceLeDiff, Nat.reduceAdd, Nat.reduceMul, Nat.reduceSub, Nat.reduceDiv, Nat.reduceMod, Bool.false_eq_true, false_and, and_false, reduceCtorEq, i2, hj5, e2, nX11_row_51, show 5 * (j + 1) = 5 * j + 5 by omega]
      · dsimp only
        simp only [if_pos c]
        refine ⟨i1.trans (b1.weak (by decide) (by decide)), by rw [b1.2.2.1 16 1 (by decide)]; exact i2, b2, b3, ?_, ?_, ?_, Or.inr ⟨b6, b7, b8⟩, trivial, trivial⟩
        · intro i h1 h2; exact addG_hi (by omega)
        · intro t b ht hb
          rw [b5 (t * 40 + b) (fun t' ht' z => by omega)]
          exact i6 t b ht hb
        · intro t b ht hb hb'
          by_cases e : b = vn
          · subst e; exact b4 t ht
          · rw [b5 (t * 40 + b) (fun t' ht' z => by omega)]
            exact i7 t b ht hb (by omega)
    · refine ⟨(n3 va, n3 (vr + 1), s), ?_, ?_⟩
      · rw [nX11_row_23]
        simp (maxSteps := 400000) (disch := omega) only [n3_l, n3_add, n3_mul, n3_sub, n3_subn, n3_lt, n3_le, n3_eq, n3_eqn, n3_neq, n3_and, n3_or, n3_shl, n3_i, n3_cl, ↓hbd_0, ↓hbd_1, ↓hbd_2, hk_ob_0, hk_rd_0, hk_rd_1, hk_rd_2, hk_al_0, hk_al_1, h3r_0, h3r_1, hk_wi_0, hk_wj_0, h3w_0, h3w_1, h3v_0, hk_kI, hk_kJ, hk_kA, hk_kB, A_eq, A_ne, A_row, B_eq, B_ne, B_row, I_eq, I_ne, J_eq, J_ne, Option.bind_some, Option.some.injEq, if_true, if_false, eq_self, true_or, or_true, true_and, and_true, false_or, or_false, not_true_eq_false, not_false_eq_true, Classical.not_not, nar_b0, nar_b1, rz_0, rz_1, rz_i, ite01, Nat.add_zero, Nat.zero_add, Nat.one_mul, mul12, reduceIte, ra_z0, Nat.reduceEqDiff, Nat.reduceLT, Nat.reduceLeDiff, Nat.reduceAdd, Nat.reduceMul, Nat.reduceSub, Nat.reduceDiv, Nat.reduceMod, Bool.false_eq_true, false_and, and_false, reduceCtorEq, i2, hj5, a1 c, nX11_row_51, show 5 * (j + 1) = 5 * j + 5 by omega]
      · dsimp only
        simp only [if_neg c]
        exact ⟨i1, i2, i3, i4, i5, i6, i7, i8, trivial, trivial⟩) ((len + 4) / 5) 0 N (n3 0, n3 0, κ) (by omega) (by omega) ⟨same.refl _ _ _, hT, hB, hG, h0, fun _ _ _ _ => rfl, fun t b _ h1 h2 => by have h2' : b < n := h2; omega, Or.inl ⟨rfl, rfl, rfl, rfl, rfl⟩, rfl, rfl⟩
  rw [hw] at i3 i4 i5 i7 i8 i9
  dsimp only at i1 i2 i3 i4 i5 i6 i7 i8 i9
  obtain ⟨i9, i10⟩ := i9
  subst i9
  subst i10
  have hend : ¬ 5 * ((len + 4) / 5) < len := by omega
  refine ⟨hk_wI (hk_wI (hk_wI s' 16 1 (n3 0)) 0 11 (n3 w.2.2.2)) 0 10 (n3 0), ?_, ((i1.wI (by decide)).wI (by decide)).wI (by decide), by simp (maxSteps := 400000) (disch := omega) only [n3_l, n3_add, n3_mul, n3_sub, n3_subn, n3_lt, n3_le, n3_eq, n3_eqn, n3_neq, n3_and, n3_or, n3_shl, n3_i, n3_cl, ↓hbd_0, ↓hbd_1, ↓hbd_2, hk_ob_0, hk_rd_0, hk_rd_1, hk_rd_2, hk_al_0, hk_al_1, h3r_0, h3r_1, hk_wi_0, hk_wj_0, h3w_0, h3w_1, h3v_0, hk_kI, hk_kJ, hk_kA, hk_kB, A_eq, A_ne, A_row, B_eq, B_ne, B_row, I_eq, I_ne, J_eq, J_ne, Option.bind_some, Option.some.injEq, if_true, if_false, eq_self, true_or, or_true, true_and, and_true, false_or, or_false, not_true_eq_false, not_false_eq_true, Classical.not_not, nar_b0, nar_b1, rz_0, rz_1, rz_i, ite01, Nat.add_zero, Nat.zero_add, Nat.one_mul, mul12, reduceIte, ra_z0, Nat.reduceEqDiff, Nat.reduceLT, Nat.reduceLeDiff, Nat.reduceAdd, Nat.reduceMul, Nat.reduceSub, Nat.reduceDiv, Nat.reduceMod, Bool.false_eq_true, false_and, and_false, reduceCtorEq, i3], ?_, i5, ?_, ?_, ?_, by simp (maxSteps := 400000) (disch := omega) only [n3_l, n3_add, n3_mul, n3_sub, n3_subn, n3_lt, n3_le, n3_eq, n3_eqn, n3_neq, n3_and, n3_or, n3_shl, n3_i, n3_cl, ↓hbd_0, ↓hbd_1, ↓hbd_2, hk_ob_0, hk_rd_0, hk_rd_1, hk_rd_2, hk_al_0, hk_al_1, h3r_0, h3r_1, hk_wi_0, hk_wj_0, h3w_0, h3w_1, h3v_0, hk_kI, hk_kJ, hk_kA, hk_kB, A_eq, A_ne, A_row, B_eq, B_ne, B_row, I_eq, I_ne, J_eq, J_ne, Option.bind_some, Option.some.injEq, if_true, if_false, eq_self, true_or, or_true, true_and, and_true, false_or, or_false, not_true_eq_false, not_false_eq_true, Classical.not_not, nar_b0, nar_b1, rz_0, rz_1, rz_i, ite01, Nat.add_zero, Nat.zero_add, Nat.one_mul, mul12, reduceIte, ra_z0, Nat.reduceEqDiff, Nat.reduceLT, Nat.reduceLeDiff, Nat.reduceAdd, Nat.reduceMul, Nat.reduceSub, Nat.reduceDiv, Nat.reduceMod, Bool.false_eq_true, false_and, and_false, reduceCtorEq], by simp (maxSteps := 400000) (disch := omega) only [n3_l, n3_add, n3_mul, n3_sub, n3_subn, n3_lt, n3_le, n3_eq, n3_eqn, n3_neq, n3_and, n3_or, n3_shl, n3_i, n3_cl, ↓hbd_0, ↓hbd_1, ↓hbd_2, hk_ob_0, hk_rd_0, hk_rd_1, hk_rd_2, hk_al_0, hk_al_1, h3r_0, h3r_1, hk_wi_0, hk_wj_0, h3w_0, h3w_1, h3v_0, hk_kI, hk_kJ, hk_kA, hk_kB, A_eq, A_ne, A_row, B_eq, B_ne, B_row, I_eq, I_ne, J_eq, J_ne, Option.bind_some, Option.some.injEq, if_true, if_false, eq_self, true_or, or_true, true_and, and_true, false_or, or_false, not_true_eq_false, not_false_eq_true, Classical.not_not, nar_b0, nar_b1, rz_0, rz_1, rz_i, ite01, Nat.add_zero, Nat.zero_add, Nat.one_mul, mul12, reduceIte, ra_z0, Nat.reduceEqDiff, Nat.reduceLT, Nat.reduceLeDiff, Nat.reduceAdd, Nat.reduceMul, Nat.reduceSub, Nat.reduceDiv, Nat.reduceMod, Bool.false_eq_true, false_and, and_false, reduceCtorEq], by simp (maxSteps := 400000) (disch := omega) only [n3_l, n3_add, n3_mul, n3_sub, n3_subn, n3_lt, n3_le, n3_eq, n3_eqn, n3_neq, n3_and, n3_or, n3_shl, n3_i, n3_cl, ↓hbd_0, ↓hbd_1, ↓hbd_2, hk_ob_0, hk_rd_0, hk_rd_1, hk_rd_2, hk_al_0, hk_al_1, h3r_0, h3r_1, hk_wi_0, hk_wj_0, h3w_0, h3w_1, h3v_0, hk_kI, hk_kJ, hk_kA, hk_kB, A_eq, A_ne, A_row, B_eq, B_ne, B_row, I_eq, I_ne, J_eq, J_ne, Option.bind_some, Option.some.injEq, if_true, if_false, eq_self, true_or, or_true, true_and, and_true, false_or, or_false, not_true_eq_false, not_false_eq_true, Classical.not_not, nar_b0, nar_b1, rz_0, rz_1, rz_i, ite01, Nat.add_zero, Nat.zero_add, Nat.one_mul, mul12, reduceIte, ra_z0, Nat.reduceEqDiff, Nat.reduceLT, Nat.reduceLeDiff, Nat.reduceAdd, Nat.reduceMul, Nat.reduceSub, Nat.reduceDiv, Nat.reduceMod, Bool.false_eq_true, false_and, and_false, reduceCtorEq]⟩
  · rw [e, nX11_row_23]
    simp (maxSteps := 400000) (disch := omega) only [n3_l, n3_add, n3_mul, n3_sub, n3_subn, n3_lt, n3_le, n3_eq, n3_eqn, n3_neq, n3_and, n3_or, n3_shl, n3_i, n3_cl, ↓hbd_0, ↓hbd_1, ↓hbd_2, hk_ob_0, hk_rd_0, hk_rd_1, hk_rd_2, hk_al_0, hk_al_1, h3r_0, h3r_1, hk_wi_0, hk_wj_0, h3w_0, h3w_1, h3v_0, hk_kI, hk_kJ, hk_kA, hk_kB, A_eq, A_ne, A_row, B_eq, B_ne, B_row, I_eq, I_ne, J_eq, J_ne, Option.bind_some, Option.some.injEq, if_true, if_false, eq_self, true_or, or_true, true_and, and_true, false_or, or_false, not_true_eq_false, not_false_eq_true, Classical.not_not, nar_b0, nar_b1, rz_0, rz_1, rz_i, ite01, Nat.add_zero, Nat.zero_add, Nat.one_mul, mul12, reduceIte, ra_z0, Nat.reduceEqDiff, Nat.reduceLT, Nat.reduceLeDiff, Nat.reduceAdd, Nat.reduceMul, Nat.reduceSub, Nat.reduceDiv, Nat.reduceMod, Bool.false_eq_true, false_and, and_false, reduceCtorEq, i2, hend, c_acc]
  · intro i hi; simp (maxSteps := 400000) (disch := omega) only [n3_l, n3_add, n3_mul, n3_sub, n3_subn, n3_lt, n3_le, n3_eq, n3_eqn, n3_neq, n3_and, n3_or, n3_shl, n3_i, n3_cl, ↓hbd_0, ↓hbd_1, ↓hbd_2, hk_ob_0, hk_rd_0, hk_rd_1, hk_rd_2, hk_al_0, hk_al_1, h3r_0, h3r_1, hk_wi_0, hk_wj_0, h3w_0, h3w_1, h3v_0, hk_kI, hk_kJ, hk_kA, hk_kB, A_eq, A_ne, A_row, B_eq, B_ne, B_row, I_eq, I_ne, J_eq, J_ne, Option.bind_some, Option.some.injEq, if_true, if_false, eq_self, true_or, or_true, true_and, and_true, false_or, or_false, not_true_eq_false, not_false_eq_true, Classical.not_not, nar_b0, nar_b1, rz_0, rz_1, rz_i, ite01, Nat.add_zero, Nat.zero_add, Nat.one_mul, mul12, reduceIte, ra_z0, Nat.reduceEqDiff, Nat.reduceLT, Nat.reduceLeDiff, Nat.reduceAdd, Nat.reduceMul, Nat.reduceSub, Nat.reduceDiv, Nat.reduceMod, Bool.false_eq_true, false_and, and_false, reduceCtorEq, i4 i hi]
  · intro t b ht hb; simp (maxSteps := 400000) (disch := omega) only [n3_l, n3_add, n3_mul, n3_sub, n3_subn, n3_lt, n3_le, n3_eq, n3_eqn, n3_neq, n3_and, n3_or, n3_shl, n3_i, n3_cl, ↓hbd_0, ↓hbd_1, ↓hbd_2, hk_ob_0, hk_rd_0, hk_rd_1, hk_rd_2, hk_al_0, hk_al_1, h3r_0, h3r_1, hk_wi_0, hk_wj_0, h3w_0, h3w_1, h3v_0, hk_kI, hk_kJ, hk_kA, hk_kB, A_eq, A_ne, A_row, B_eq, B_ne, B_row, I_eq, I_ne, J_eq, J_ne, Option.bind_some, Option.some.injEq, if_true, if_false, eq_self, true_or, or_true, true_and, and_true, false_or, or_false, not_true_eq_false, not_false_eq_true, Classical.not_not, nar_b0, nar_b1, rz_0, rz_1, rz_i, ite01, Nat.add_zero, Nat.zero_add, Nat.one_mul, mul12, reduceIte, ra_z0, Nat.reduceEqDiff, Nat.reduceLT, Nat.reduceLeDiff, Nat.reduceAdd, Nat.reduceMul, Nat.reduceSub, Nat.reduceDiv, Nat.reduceMod, Bool.false_eq_true, false_and, and_false, reduceCtorEq, i6 t b ht hb]
  · intro t b ht hb hb'; simp (maxSteps := 400000) (disch := omega) only [n3_l, n3_add, n3_mul, n3_sub, n3_subn, n3_lt, n3_le, n3_eq, n3_eqn, n3_neq, n3_and, n3_or, n3_shl, n3_i, n3_cl, ↓hbd_0, ↓hbd_1, ↓hbd_2, hk_ob_0, hk_rd_0, hk_rd_1, hk_rd_2, hk_al_0, hk_al_1, h3r_0, h3r_1, hk_wi_0, hk_wj_0, h3w_0, h3w_1, h3v_0, hk_kI, hk_kJ, hk_kA, hk_kB, A_eq, A_ne, A_row, B_eq, B_ne, B_row, I_eq, I_ne, J_eq, J_ne, Option.bind_some, Option.some.injEq, if_true, if_false, eq_self, true_or, or_true, true_and, and_true, false_or, or_false, not_true_eq_false, not_false_eq_true, Classical.not_not, nar_b0, nar_b1, rz_0, rz_1, rz_i, ite01, Nat.add_zero, Nat.zero_add, Nat.one_mul, mul12, reduceIte, ra_z0, Nat.reduceEqDiff, Nat.reduceLT, Nat.reduceLeDiff, Nat.reduceAdd, Nat.reduceMul, Nat.reduceSub, Nat.reduceDiv, Nat.reduceMod, Bool.false_eq_true, false_and, and_false, reduceCtorEq, i7 t b ht hb hb']
  · simp (maxSteps := 400000) (disch := omega) only [n3_l, n3_add, n3_mul, n3_sub, n3_subn, n3_lt, n3_le, n3_eq, n3_eqn, n3_neq, n3_and, n3_or, n3_shl, n3_i, n3_cl, ↓hbd_0, ↓hbd_1, ↓hbd_2, hk_ob_0, hk_rd_0, hk_rd_1, hk_rd_2, hk_al_0, hk_al_1, h3r_0, h3r_1, hk_wi_0, hk_wj_0, h3w_0, h3w_1, h3v_0, hk_kI, hk_kJ, hk_kA, hk_kB, A_eq, A_ne, A_row, B_eq, B_ne, B_row, I_eq, I_ne, J_eq, J_ne, Option.bind_some, Option.some.injEq, if_true, if_false, eq_self, true_or, or_true, true_and, and_true, false_or, or_false, not_true_eq_false, not_false_eq_true, Classical.not_not, nar_b0, nar_b1, rz_0, rz_1, rz_i, ite01, Nat.add_zero, Nat.zero_add, Nat.one_mul, mul12, reduceIte, ra_z0, Nat.reduceEqDiff, Nat.reduceLT, Nat.reduceLeDiff, Nat.reduceAdd, Nat.reduceMul, Nat.reduceSub, Nat.reduceDiv, Nat.reduceMod, Bool.false_eq_true, false_and, and_false, reduceCtorEq]; exact i8
end
section
variable {κ κ' : hk_T}
theorem ca3P.cg {n : Nat} {T : Nat → tauT} (h : ca3P κ n T) (h1 : ∀ k ∈ [2, 3, 5, 35, 36, 37], hk_A κ' k = hk_A κ k) (h2 : ∀ q ∈ [(1, 17), (1, 18), (1, 19), (23, 9), (34, 3)], hk_I κ' q.1 q.2 = hk_I κ q.1 q.2) : ca3P κ' n T := by
  unfold ca3P
  rw [h2 (23, 9) (by decide), h2 (1, 17) (by decide), h2 (1, 18) (by decide), h2 (1, 19) (by decide), h1 2 (by decide), h1 3 (by decide), h1 5 (by decide)]
  rcases h with h | ⟨fi, sc, y, b1, b2, b3, b4⟩
  · exact Or.inl h
  · exact Or.inr ⟨fi, sc, y, b1, b2, b3, b4.cg (h1 35 (by decide)) (h1 36 (by decide)) (h1 37 (by decide)) (h2 (34, 3) (by decide))⟩
theorem ca4P.cg {n nT : Nat} {T : Nat → tauT} (h : ca4P κ n nT T) (h1 : ∀ k ∈ [2, 3, 5, 29], hk_A κ' k = hk_A κ k) (h2 : hk_I κ' 23 10 = hk_I κ 23 10) : ca4P κ' n nT T := by
  have er : rF κ' T = rF κ T := by
    funext t b
    unfold rF
    rw [h1 2 (by decide), h1 3 (by decide), h1 5 (by decide)]
  unfold ca4P
  rw [h2, er, h1 2 (by decide)]
  rcases h with h | ⟨b1, b2⟩
  · exact Or.inl h
  · exact Or.inr ⟨b1, b2.keep (h1 29 (by decide))⟩
theorem ca5P.cg {n nL : Nat} (h : ca5P κ n nL) (h1 : ∀ k ∈ [2, 7, 59, 60], hk_A κ' k = hk_A κ k) (h2 : ∀ q ∈ [(40, 12), (40, 15), (40, 16), (40, 17)], hk_I κ' q.1 q.2 = hk_I κ q.1 q.2) : ca5P κ' n nL := by
  have er : agC κ' = agC κ := by
    funext l b
    unfold agC
    rw [h1 2 (by decide), h1 7 (by decide)]
  unfold ca5P
  rw [h2 (40, 12) (by decide), er]
  rcases h with h | ⟨b1, b2⟩
  · exact Or.inl h
  · exact Or.inr ⟨b1, b2.cg (h2 (40, 15) (by decide)) (h2 (40, 16) (by decide)) (h2 (40, 17) (by decide)) (h1 59 (by decide)) (h1 60 (by decide))⟩
end
section
variable (N : Nat) {L c : Nat} {xs : Nat → Int32} {κ : hk_T}
theorem k_fact (h : Inv L xs c κ) (hN : 1000 < N) (b f v : Int32) : callOk L xs c κ (fX11_fact N 0 b f v) (fX12_fact N 69 b f v) := by
  have h0 := h
  obtain ⟨n, nT, nL, nS, T, H⟩ := h0
  have H' := H
  obtain ⟨h1, h2, h3, h4, h5, h8, h9, h10, h11, h12⟩ := H'
  have k3 := h3.hk
  have k1 := k3.1
  have n40 := k1.1.2.1
  have hF := k3.2.2.1
  by_cases w : okFact f v = true
  · by_cases g : vIn 0 (n - 1) b = true
    · obtain ⟨b, bb, rfl⟩ := vB g
      obtain ⟨f, f12, rfl⟩ := okFact_f w
      obtain ⟨f2, vv⟩ := okFact_n f12 w
      obtain ⟨κ1, e1, sa, fa, fao, as1, as2, f9, f10, fm, fl, g0⟩ := c_fact N κ (b := b) (f := f) (v := v) h1 k1.1.1 n40 f12 w bb hN
      have m1 : hk_A κ1 71 = hk_A κ 71 := sa.1 71 (by decide)
      have e2 := r_fact N κ1 (n := n) (b := b) (f := f) (v := v) (by rw [m1]; exact k1.1.2.2) n40 f12 w bb
      obtain ⟨κ2, q2⟩ : ∃ κ2, κ2 = hk_wI (hk_wA (hk_wI κ1 69 0 (n3 0)) 71 (12 * b + f) v) 69 1 (n3 0) := ⟨_, rfl⟩
      rw [← q2] at e2
      have sb : same [71] [(69, 0), (69, 1)] κ1 κ2 := by
        rw [q2]
        exact (((same.refl _ _ _).wI (by decide)).wA (by decide)).wI (by decide)
      have s2 : same [2, 25, 71] [(23, 9), (23, 10), (40, 12), (61, 4), (0, 10), (69, 0), (69, 1)] κ κ2 := (sa.weak (by decide) (by decide)).trans (sb.weak (by decide) (by decide))
      have r2 : hk_A κ2 2 = hk_A κ1 2 := sb.1 2 (by decide)
      have r25 : hk_A κ2 25 = hk_A κ1 25 := sb.1 25 (by decide)
      have m2 : ∀ y, hk_A κ2 71 y = if y = 12 * b + f then v else hk_A κ 71 y := fun y => by rw [q2, A_wI, A_at, A_wI, m1]
      have mo : ∀ y, 480 ≤ y → hk_A κ2 71 y = hk_A κ 71 y := fun y hy => by rw [m2, if_neg (by omega)]
      have eI := s2.i1 (by decide)
      have old : ∀ i, i ≠ 12 * b + f → hk_A κ2 2 i = hk_A κ 2 i := fun i g1 => by rw [r2]; exact fao i g1
      refine ⟨hk_A κ 2 (12 * b + f), κ1, κ2, e1, ?_, sa.2.2.2.2.2.2.2.2, Inv.acc (n' := n) (nT' := nT) (nL' := nL) (nS' := nS) (T' := T) H s2 (by decide) (by decide) ⟨k3.1.r (fun j _ _ => eI j) (fun x _ _ => mo x (by omega)), k3.2.1.r (fun j _ _ => eI j) (fun x _ _ => mo x (by omega)), ⟨fun i hi => ?_, fun i g1 g2 => ?_, fun b' hb => ?_⟩, k3.2.2.2.1.r (s2.1 3 (by decide)) (s2.1 4 (by decide)) (s2.1 5 (by decide)) (fun x _ _ => mo x (by omega)), k3.2.2.2.2.1.r (s2.1 12 (by decide)) (s2.1 13 (by decide)) (s2.1 14 (by decide)) (fun x _ _ => mo x (by omega)), k3.2.2.2.2.2.1.r k3.1.2.2.1.2.1 (s2.1 7 (by decide)) (s2.1 8 (by decide)) (fun x _ _ => mo x (by omega)), k3.2.2.2.2.2.2.1.r k3.1.2.2.2.2.1 (s2.1 11 (by decide)) (fun x _ _ => mo x (by omega)), k3.2.2.2.2.2.2.2.r (s2.1 9 (by decide)) (s2.1 10 (by decide)) (fun x _ _ => mo x (by omega))⟩ (s2.ttq k3.1.2.1.2.1 (fun x _ _ => mo x (by omega)) h4) (s2.sa (by decide) (by decide) (by rw [sb.2.2.1 0 10 (by decide)]; exact g0) (by rw [q2, I_eq]) h8) ⟨?_, s2.c2 (by decide) h12.2.1, Or.inl (by rw [sb.2.2.1 23 9 (by decide)]; exact f9), Or.inl (by rw [sb.2.2.1 23 10 (by decide)]; exact f10), ?_, ?_⟩⟩
      · rw [e2, m1, hF.1 _ (by omega)]
      · by_cases c0 : i = 12 * b + f
        · rw [c0, m2, if_pos rfl, r2, fa]
        · rw [old i c0, m2, if_neg c0]
          exact hF.1 i hi
      · rw [old i (by omega)]
        exact hF.2.1 i g1 g2
      · by_cases e : b' = b
        · subst e
          exact bkOk_set (hF.2.2 b' bb) f2 f12 vv (by rw [r2]; exact fa) old
        · exact (hF.2.2 b' hb).cg (fun i g1 g2 => old i (by omega))
      · intro t' b' ht hb ne
        have t8 := k1.2.1.2.1
        rw [r25] at ne
        by_cases e : b' = b
        · subst e
          exact absurd (as1 t' (by omega)) ne
        · rw [s2.1 24 (by decide), fx_cg (F := hk_A κ 2) (b := b') (fun i g1 g2 => old i (by omega))]
          rw [as2 _ (fun t'' _ z => by omega)] at ne
          exact h12.1 t' b' ht hb ne
      · by_cases c5 : f = 3 ∨ f = 9 ∨ f = 10
        · rw [if_pos c5] at fm
          exact Or.inl (by rw [sb.2.2.1 40 12 (by decide)]; exact fm)
        · rw [if_neg c5] at fm
          have er : agC κ2 = agC κ := by
            funext l' b'
            unfold agC sp_agree sp_ag3 sp_ag2 sp_ag1 sp_ag0
            rw [s2.1 7 (by decide), old (12 * b') (by omega), old (12 * b' + 1) (by omega), old (12 * b' + 3) (by omega), old (12 * b' + 9) (by omega), old (12 * b' + 10) (by omega)]
          rw [sb.2.2.1 40 12 (by decide), fm, er]
          rcases h12.2.2.2.2.1 with z | ⟨z1, z2⟩
          · exact Or.inl z
          · exact Or.inr ⟨z1, z2.cg (s2.2.2.1 40 15 (by decide)) (s2.2.2.1 40 16 (by decide)) (s2.2.2.1 40 17 (by decide)) (s2.1 59 (by decide)) (s2.1 60 (by decide))⟩
      · by_cases c6 : f = 7 ∨ f = 8
        · rw [if_pos c6] at fl
          exact Or.inl (by rw [sb.2.2.1 61 4 (by decide)]; exact fl)
        · rw [if_neg c6] at fl
          rw [sb.2.2.1 61 4 (by decide), fl, s2.1 11 (by decide)]
          rcases h12.2.2.2.2.2 with z | ⟨z1, z2⟩
          · exact Or.inl z
          · exact Or.inr ⟨z1, z2.facts (s2.2.2.1 61 6 (by decide)) (s2.1 65 (by decide)) (fun i hi => ⟨old _ (by omega), old _ (by omega)⟩)⟩
    · exact callOk.ref h (c_fact_y N κ h1 k1.1.1 n40 w g) (r_fact_y N (cRef κ 2) k1.1.2.2 n40 w g)
  · exact callOk.ref h (c_fact_x N κ h1 w) (r_fact_x N _ w)
/-- what arrives with a row -/
theorem ro_facts {Tp F : Nat → Int32} {len n0 : Nat} (h : ∀ b, b < n0 → bkOk F b) : ∀ k, (∀ i, i < 12 * n0 → (fo (roS Tp len) 0 k (n0, F, 0, 0)).2.1 i = F i) ∧ n0 ≤ (fo (roS Tp len) 0 k (n0, F, 0, 0)).1 ∧ ∀ b, b < (fo (roS Tp len) 0 k (n0, F, 0, 0)).1 → bkOk (fo (roS Tp len) 0 k (n0, F, 0, 0)).2.1 b := by
  intro k
  induction k with
  | zero => exact ⟨fun _ _ => rfl, Nat.le_refl _, h⟩
  | succ k ih =>
    rw [fo_last]
    generalize fo (roS Tp len) 0 k (n0, F, 0, 0) = s at ih ⊢
    obtain ⟨i1, i2, i3⟩ := ih
    unfold roS
    split
    · rename_i c
      refine ⟨fun i hi => ?_, by dsimp only; omega, add_ok i3 c.2.2⟩
      dsimp only
      rw [add_old (by omega)]
      exact i1 i hi
    · exact ⟨i1, i2, i3⟩
theorem k_row (h : Inv L xs c κ) (hN : 1000 < N) : callOk L xs c κ (fX11_row N 0) (fX12_row N 69) := by
  have h0 := h
  obtain ⟨n, nT, nL, nS, T, H⟩ := h0
  have H' := H
  obtain ⟨h1, h2, h3, h4, h5, h8, h9, h10, h11, h12⟩ := H'
  have k3 := h3.hk
  have k1 := k3.1
  have n40 := k1.1.2.1
  have hF := k3.2.2.1
  obtain ⟨len, l4, t1, t2, ag⟩ := h9.ex
  by_cases z : len = 0
  · subst z
    have c1 := c_row0 N κ t1
    have r1 := r_row0 N (cRef κ 6) t2
    have sI : hk_I (rRef (cRef κ 6) 6) 69 8 = n3 0 := t2
    refine ⟨-n3 6, cRef κ 6, _, c1, r1, rfl, ?_⟩
    have iv := Inv.ref (k := 6) h
    obtain ⟨n', nT', nL', nS', T', I⟩ := iv
    have s : same [] [(69, 8)] (rRef (cRef κ 6) 6) (hk_wA (hk_wI (hk_wI (hk_wI (cRef κ 6) 69 0 (n3 0)) 69 8 (n3 0)) 69 1 (-n3 6)) 70 6 (hk_A (cRef κ 6) 70 6 + n3 1)) := by
      refine ⟨fun k _ => rfl, fun k _ => rfl, fun k j hk => ?_, rfl, rfl, rfl, rfl, rfl, rfl⟩
      have hk' : ¬ (k = 69 ∧ j = 8) := fun q => hk (by rw [q.1, q.2]; decide)
      show hk_I (hk_wI (hk_wI (hk_wI (cRef κ 6) 69 0 (n3 0)) 69 8 (n3 0)) 69 1 (-n3 6)) k j = hk_I (hk_wI (hk_wI (cRef κ 6) 69 0 (n3 0)) 69 1 (-n3 6)) k j
      by_cases e1 : k = 69 ∧ j = 1
      · rw [e1.1, e1.2, I_eq, I_eq]
      · have o1 : k ≠ 69 ∨ j ≠ 1 := by omega
        have o2 : k ≠ 69 ∨ j ≠ 8 := by omega
        rw [I_ne o1, I_ne o1, I_ne o2]
    obtain ⟨g1, g2, g3, g4, g5, g8, g9, g10, g11, g12⟩ := I
    exact InvC.inv (n := n') (nT := nT') (nL := nL') (nS := nS') (T := T') ⟨s.xx g1, by obtain ⟨b1, b2, z, b3, b4⟩ := g2; exact ⟨b1, b2, z, b3.cg rfl rfl rfl, b4⟩, s.hr (by decide) (by decide) g3, s.ttq g3.1.2.1.2.1 (fun x _ _ => rfl) g4, s.im (by decide) (by decide) g5, s.sc (by decide) (by decide) g8, taI_of (l := 0) (by omega) t1 (by show hk_I (hk_wI (hk_wI (hk_wI (cRef κ 6) 69 0 (n3 0)) 69 8 (n3 0)) 69 1 (-n3 6)) 69 8 = _; rw [I_ne (by decide), I_eq]) (fun i hi => absurd hi (by omega)), s.wo (by decide) (by decide) g10, by obtain ⟨a, u, b1, b2, b3⟩ := g11; exact ⟨a, u, b1, b2, b3⟩, s.ca (by decide) (by decide) g12⟩
  · obtain ⟨w, ew⟩ : ∃ w, fo (roS (hk_A κ 17) len) 0 ((len + 4) / 5) (n, hk_A κ 2, 0, 0) = w := ⟨_, rfl⟩
    obtain ⟨κ1, e1, sa, i13, fa, fz, as1, as2, fl, t16, t11, g0⟩ := c_rowE N κ (G := hk_A κ 2) h1 k1.1.1 n40 t1 l4 (by omega) hN (fun _ _ => rfl) (fun i g1 g2 => hF.2.1 i g1 g2) ew
    have m1 : hk_A κ1 71 = hk_A κ 71 := sa.1 71 (by decide)
    have r74 : hk_A κ1 74 = hk_A κ 74 := sa.1 74 (by decide)
    have ew2 : fo (roS (hk_A κ1 74) len) 0 ((len + 4) / 5) (n, hk_A κ 2, 0, 0) = w := by
      rw [← ew, r74]
      refine fo_congr _ _ _ (fun j s _ hj => ?_)
      unfold roS
      by_cases c : 5 * j + 5 ≤ len
      · have q : ∀ g, g < 5 → hk_A κ 74 (5 * j + g) = hk_A κ 17 (5 * j + g) := fun g hg => by
          obtain ⟨v, -, v1, v2⟩ := ag (5 * j + g) (by omega)
          rw [v1, v2]
        have q0 : hk_A κ 74 (5 * j) = hk_A κ 17 (5 * j) := q 0 (by omega)
        rw [q0, q 1 (by omega), q 2 (by omega), q 3 (by omega), q 4 (by omega)]
      · rw [if_neg (fun z => c z.1), if_neg (fun z => c z.1)]
    obtain ⟨κ2, e2, sb, j480, fb, fo', t8, t6, g1⟩ := r_row N κ1 (n := n) (len := len) (G := hk_A κ 2) (by rw [m1]; exact k1.1.2.2) n40 (by rw [sa.2.2.1 69 8 (by decide)]; exact t2) l4 (by omega) hN (fun i hi => by rw [m1]; exact hF.1 i hi) ew2
    have ro := ro_ok (hk_A κ 17) len n (hk_A κ 2) n40 ((len + 4) / 5)
    have rf := ro_facts (Tp := hk_A κ 17) (len := len) hF.2.2 ((len + 4) / 5)
    rw [ew] at ro rf
    obtain ⟨w40, wn, -, -⟩ := ro
    obtain ⟨wo, -, wk⟩ := rf
    have s2 : same [2, 25, 71] [(1, 13), (23, 9), (23, 10), (40, 12), (16, 1), (0, 11), (0, 10), (69, 0), (69, 1), (69, 6), (69, 8)] κ κ2 := (sa.weak (by decide) (by decide)).trans (sb.weak (by decide) (by decide))
    have r2 : ∀ i, i < 480 → hk_A κ2 2 i = w.2.1 i := fun i hi => by rw [sb.1 2 (by decide)]; exact fa i hi
    have r25 : hk_A κ2 25 = hk_A κ1 25 := sb.1 25 (by decide)
    have mo : ∀ y, 480 < y → hk_A κ2 71 y = hk_A κ 71 y := fun y hy => by rw [fo' y hy, m1]
    have eI : ∀ j, j ≠ 13 → hk_I κ2 1 j = hk_I κ 1 j := fun j hj => s2.2.2.1 1 j (by simp; omega)
    have old : ∀ i, i < 12 * n → hk_A κ2 2 i = hk_A κ 2 i := fun i hi => by rw [r2 i (by omega), wo i hi]
    have hZ : hrZ (hk_A κ2 11) (hk_A κ2 71) nS w.1 := by
      have z := k3.2.2.2.2.2.2.1.r (M' := hk_A κ2 71) (A' := hk_A κ2 11) k1.2.2.2.2.1 (s2.1 11 (by decide)) (fun x _ _ => mo x (by omega))
      refine ⟨fun i hi => ?_, z.2⟩
      obtain ⟨q, q1, q2⟩ := z.1 i hi
      exact ⟨q, by omega, q2⟩
    have hFn : hrF (hk_A κ2 2) (hk_A κ2 71) w.1 := ⟨fun i hi => by rw [fb i hi, r2 i (by omega)], fun i g1 g2 => by rw [r2 i g2]; exact fz i g1 g2, fun b hb => (wk b hb).cg (fun i g1 g2 => r2 i (by omega))⟩
    refine ⟨n3 w.2.2.1, κ1, κ2, e1, e2, sa.2.2.2.2.2.2.2.2, InvC.inv (n := w.1) (nT := nT) (nL := nL) (nS := nS) (T := T) ⟨s2.xx h1, s2.ro h2, HK.hr ⟨⟨⟨by rw [sb.2.2.1 1 13 (by decide)]; exact i13, w40, j480⟩, ?_, ?_, ?_⟩, k3.2.1.r (fun j _ _ => eI j (by omega)) (fun x _ _ => mo x (by omega)), hFn, k3.2.2.2.1.r (s2.1 3 (by decide)) (s2.1 4 (by decide)) (s2.1 5 (by decide)) (fun x _ _ => mo x (by omega)), k3.2.2.2.2.1.r (s2.1 12 (by decide)) (s2.1 13 (by decide)) (s2.1 14 (by decide)) (fun x _ _ => mo x (by omega)), k3.2.2.2.2.2.1.r k3.1.2.2.1.2.1 (s2.1 7 (by decide)) (s2.1 8 (by decide)) (fun x _ _ => mo x (by omega)), hZ, k3.2.2.2.2.2.2.2.r (s2.1 9 (by decide)) (s2.1 10 (by decide)) (fun x _ _ => mo x (by omega))⟩, s2.ttq k3.1.2.1.2.1 (fun x _ _ => mo x (by omega)) h4, s2.im (by decide) (by decide) h5, ⟨?_, ?_, ?_, ?_⟩, taI_of (l := 0) (by omega) (by rw [sb.2.2.1 16 1 (by decide)]; exact t16) t8 (fun i hi => absurd hi (by omega)), s2.wo (by decide) (by decide) h10, s2.rf (by decide) (by decide) h11, ⟨?_, s2.c2 (by decide) h12.2.1, ?_, ?_, ?_, ?_⟩⟩⟩
    · rw [eI 14 (by omega), mo 481 (by omega)]; exact k1.2.1
    · rw [eI 15 (by omega), mo 482 (by omega)]; exact k1.2.2.1
    · rw [eI 16 (by omega), mo 483 (by omega)]; exact k1.2.2.2
    · rw [sb.2.2.1 0 10 (by decide), g0, g1]
    · rw [sb.2.2.1 0 11 (by decide), t11, t6]
    · rw [s2.2.2.1 0 12 (by decide), s2.2.2.1 69 13 (by decide)]
      exact h8.2.2.1
    · rw [s2.1 68 (by decide), s2.1 70 (by decide)]
      exact h8.2.2.2
    · intro t' b' ht hb ne
      have t8' := k1.2.1.2.1
      rw [r25] at ne
      by_cases e : b' < n
      · rw [s2.1 24 (by decide), fx_cg (F := hk_A κ 2) (b := b') (fun i g1 g2 => old i (by omega))]
        rw [as1 t' b' (by omega) e] at ne
        exact h12.1 t' b' ht e ne
      · exact absurd (as2 t' b' (by omega) (by omega) hb) ne
    · rcases fl with ⟨q1, qF, q2, q3, q4⟩ | ⟨q2, q3, q4⟩
      · rw [q1]
        refine ca3P.cg (κ := κ) h12.2.2.1 (fun k hk => ?_) (fun q hq => ?_)
        · by_cases e : k = 2
          · rw [e, sb.1 2 (by decide), qF]
          · have : ∀ k ∈ [2, 3, 5, 35, 36, 37], k ≠ 2 → k ∉ [2, 25, 71] := by decide
            exact s2.1 k (this k hk e)
        · by_cases e : q = (23, 9)
          · rw [e]
            show hk_I κ2 23 9 = hk_I κ 23 9
            rw [sb.2.2.1 23 9 (by decide), q2]
          · have : ∀ q ∈ [(1, 17), (1, 18), (1, 19), (23, 9), (34, 3)], q ≠ (23, 9) → q ∉ [(1, 13), (23, 9), (23, 10), (40, 12), (16, 1), (0, 11), (0, 10), (69, 0), (69, 1), (69, 6), (69, 8)] := by decide
            exact s2.2.2.1 q.1 q.2 (this q hq e)
      · exact Or.inl (by rw [sb.2.2.1 23 9 (by decide)]; exact q2)
    · rcases fl with ⟨q1, qF, q2, q3, q4⟩ | ⟨q2, q3, q4⟩
      · rw [q1]
        refine ca4P.cg (κ := κ) h12.2.2.2.1 (fun k hk => ?_) (by rw [sb.2.2.1 23 10 (by decide), q3])
        by_cases e : k = 2
        · rw [e, sb.1 2 (by decide), qF]
        · have : ∀ k ∈ [2, 3, 5, 29], k ≠ 2 → k ∉ [2, 25, 71] := by decide
          exact s2.1 k (this k hk e)
      · exact Or.inl (by rw [sb.2.2.1 23 10 (by decide)]; exact q3)
    · rcases fl with ⟨q1, qF, q2, q3, q4⟩ | ⟨q2, q3, q4⟩
      · rw [q1]
        refine ca5P.cg (κ := κ) h12.2.2.2.2.1 (fun k hk => ?_) (fun q hq => ?_)
        · by_cases e : k = 2
          · rw [e, sb.1 2 (by decide), qF]
          · have : ∀ k ∈ [2, 7, 59, 60], k ≠ 2 → k ∉ [2, 25, 71] := by decide
            exact s2.1 k (this k hk e)
        · by_cases e : q = (40, 12)
          · rw [e]
            show hk_I κ2 40 12 = hk_I κ 40 12
            rw [sb.2.2.1 40 12 (by decide), q4]
          · have : ∀ q ∈ [(40, 12), (40, 15), (40, 16), (40, 17)], q ≠ (40, 12) → q ∉ [(1, 13), (23, 9), (23, 10), (40, 12), (16, 1), (0, 11), (0, 10), (69, 0), (69, 1), (69, 6), (69, 8)] := by decide
            exact s2.2.2.1 q.1 q.2 (this q hq e)
      · exact Or.inl (by rw [sb.2.2.1 40 12 (by decide)]; exact q4)
    · rcases h12.2.2.2.2.2 with z | ⟨z1, z2⟩
      · exact Or.inl (by rw [s2.2.2.1 61 4 (by decide)]; exact z)
      · refine Or.inr ⟨by rw [s2.2.2.1 61 4 (by decide)]; exact z1, ?_⟩
        rw [s2.1 11 (by decide)]
        refine z2.facts (s2.2.2.1 61 6 (by decide)) (s2.1 65 (by decide)) (fun i hi => ?_)
        have zl := zF_lt k3.2.2.2.2.2.2.1 n40 hi
        exact ⟨old _ (by omega), old _ (by omega)⟩
end
