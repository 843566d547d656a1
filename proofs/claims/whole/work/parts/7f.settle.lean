/-! all seats; a history settled by the class -/
def shO : Option Nat → Nat
  | none => 1000
  | some s => s / 99
def loadS (mk : Nat → Bool) (se : Nat → Option Nat) (rt : Nat → Nat → Bool) (F : Nat → Int32) (x n : Nat) : Int32 := fo (fun b s => if howG mk se rt b = 4 ∧ shO (se b) = x then s + F (12 * b + 3) else s) 0 n (n3 0)
/-- what the class keeps of seats is so -/
def cA (κ : hk_T) (F : Nat → Int32) (T : Nat → tauT) (nT nB : Nat) : Prop := ∀ t b, t < nT → b < nB → ¬ hk_A κ 25 (t * 40 + b) = n3 0 → hk_A κ 24 (t * 40 + b) = seatI (seatX (T t) (fx F b))
def cTs (κ : hk_T) (T : Nat → tauT) (nT : Nat) : Prop := ∀ t, t < nT → ∃ q, hk_Q κ 6 t = some q ∧ cTx (hk_D κ) q (T t) ∧ tauOk (T t)
def rTs (κ : hk_T) (T : Nat → tauT) (nT : Nat) : Prop := ∀ t, t < nT → rTx (fun i => hk_A κ 71 (760 + 900 * t + i)) (T t) ∧ tauOk (T t)
theorem cTs.mono {κ κ' : hk_T} {T : Nat → tauT} {nT : Nat} (h : cTs κ T nT) (hQ : hk_Q κ' = hk_Q κ) (hD : hk_D κ' = hk_D κ) : cTs κ' T nT := by
  intro t ht
  obtain ⟨q, a, b, c⟩ := h t ht
  exact ⟨q, by rw [hQ]; exact a, by rw [hD]; exact b, c⟩
section
variable (N : Nat) (κ : hk_T)
theorem r_findSeats {n nT : Nat} {T : Nat → tauT} (hB : hk_A κ 71 480 = n3 n) (hn : n ≤ 40) (hT : hk_A κ 71 481 = n3 nT) (hnT : nT ≤ 8) (hN : 100000 < N) (hr : rTs κ T nT) (hX : ∀ b, b < n → factsOk (fx (hk_A κ 71) b)) :
    ∃ κ', fX12_findSeats N 69 (hp κ) = some (hp κ') ∧ same [82, 83, 84, 85] [(69, 27), (69, 30), (69, 33)] κ κ' ∧ ∀ t b, t < nT → b < n → hk_A κ' 84 (40 * t + b) = seatR (seatX (T t) (fx (hk_A κ 71) b)) ∧ hk_A κ' 85 (40 * t + b) = (if (rsO (rSD (hk_A κ 71)) (rHI (hk_A κ 71)) (hk_A κ 71) b (seatX (T t) (fx (hk_A κ 71) b))) = none then n3 0 else n3 1) := by
  unfold fX12_findSeats nX12_findSeats_0
  simp (maxSteps := 400000) (disch := omega) only [n3_l, n3_add, n3_mul, n3_sub, n3_subn, n3_lt, n3_le, n3_eq, n3_eqn, n3_neq, n3_and, n3_or, n3_shl, n3_i, n3_cl, ↓hbd_0, ↓hbd_1, ↓hbd_2, hk_ob_0, hk_rd_0, hk_rd_1, hk_rd_2, hk_al_0, hk_al_1, h3r_0, h3r_1, hk_wi_0, hk_wj_0, h3w_0, h3w_1, h3v_0, hk_kI, hk_kJ, hk_kA, hk_kB, A_eq, A_ne, A_row, B_eq, B_ne, B_row, I_eq, I_ne, J_eq, J_ne, Option.bind_some, Option.some.injEq, if_true, if_false, eq_self, true_or, or_true, true_and, and_true, false_or, or_false, not_true_eq_false, not_false_eq_true, Classical.not_not, nar_b0, nar_b1, rz_0, rz_1, rz_i, ite01, Nat.add_zero, Nat.zero_add, Nat.one_mul, mul12, reduceIte, ra_z0, Nat.reduceEqDiff, Nat.reduceLT, Nat.reduceLeDiff, Nat.reduceAdd, Nat.reduceMul, Nat.reduceSub, Nat.reduceDiv, Nat.reduceMod, Bool.false_eq_true, false_and, and_false, reduceCtorEq]
  obtain ⟨m', s', e, i1, i2⟩ := lpx (fun m t (s : hk_T) => nX12_findSeats_2 N m 69 (n3 t) (hp s)) nT (fun t r => same [82, 83, 84, 85] [(69, 27), (69, 30), (69, 33)] κ r ∧ ∀ t' b, t' < t → b < n → hk_A r 84 (40 * t' + b) = seatR (seatX (T t') (fx (hk_A κ 71) b)) ∧ hk_A r 85 (40 * t' + b) = (if (rsO (rSD (hk_A κ 71)) (rHI (hk_A κ 71)) (hk_A κ 71) b (seatX (T t') (fx (hk_A κ 71) b))) = none then n3 0 else n3 1)) (by
    intro m t r ht ⟨i1, i2⟩
    have eR : hk_A r 71 = hk_A κ 71 := i1.1 71 (by decide)
    obtain ⟨m2, s2, e2, j1, j2, j3⟩ := lpx (fun m' b (s : hk_T) => nX12_findSeats_16 N (nX12_findSeats_2 N m) m' 69 (n3 t) (n3 b) (hp s)) n (fun b r' => same [82, 83, 84, 85] [(69, 27), (69, 30), (69, 33)] κ r' ∧ (∀ t' b', t' < t → b' < n → hk_A r' 84 (40 * t' + b') = hk_A r 84 (40 * t' + b') ∧ hk_A r' 85 (40 * t' + b') = hk_A r 85 (40 * t' + b')) ∧ ∀ b', b' < b → hk_A r' 84 (40 * t + b') = seatR (seatX (T t) (fx (hk_A κ 71) b')) ∧ hk_A r' 85 (40 * t + b') = (if (rsO (rSD (hk_A κ 71)) (rHI (hk_A κ 71)) (hk_A κ 71) b' (seatX (T t) (fx (hk_A κ 71) b'))) = none then n3 0 else n3 1)) (by
      intro m' b r' hb ⟨j1, j2, j3⟩
      have eR' : hk_A r' 71 = hk_A κ 71 := j1.1 71 (by decide)
      obtain ⟨hr1, hr2⟩ := hr t ht
      obtain ⟨k, f1, f2, f3, f4, f5⟩ := r_findSeat N r' (t := t) (b := b) (τ := T t) (by omega) (by omega) hN (by rw [eR']; exact hr1) hr2 (by rw [eR']; exact hX b hb)
      rw [eR'] at f3 f4
      refine ⟨k, ?_, j1.trans (f2.weak (by decide) (by decide)), ?_, ?_⟩
      · rw [nX12_findSeats_16]
        simp (maxSteps := 400000) (disch := omega) only [n3_l, n3_add, n3_mul, n3_sub, n3_subn, n3_lt, n3_le, n3_eq, n3_eqn, n3_neq, n3_and, n3_or, n3_shl, n3_i, n3_cl, ↓hbd_0, ↓hbd_1, ↓hbd_2, hk_ob_0, hk_rd_0, hk_rd_1, hk_rd_2, hk_al_0, hk_al_1, h3r_0, h3r_1, hk_wi_0, hk_wj_0, h3w_0, h3w_1, h3v_0, hk_kI, hk_kJ, hk_kA, hk_kB, A_eq, A_ne, A_row, B_eq, B_ne, B_row, I_eq, I_ne, J_eq, J_ne, Option.bind_some, Option.some.injEq, if_true, if_false, eq_self, true_or, or_true, true_and, and_true, false_or, or_false, not_true_eq_false, not_false_eq_true, Classical.not_not, nar_b0, nar_b1, rz_0, rz_1, rz_i, ite01, Nat.add_zero, Nat.zero_add, Nat.one_mul, mul12, reduceIte, ra_z0, Nat.reduceEqDiff, Nat.reduceLT, Nat.reduceLeDiff, Nat.reduceAdd, Nat.reduceMul, Nat.reduceSub, Nat.reduceDiv, Nat.reduceMod, Bool.false_eq_true, false_and, and_false, reduceCtorEq, eR', hB, hb, f1]
      · intro t' b' h1 h2
        have := f5 (40 * t' + b') (by omega)
        rw [this.1, this.2]
        exact j2 t' b' h1 h2
      · intro b' hb'
        by_cases eb : b' = b
        · subst eb; exact ⟨f3, f4⟩
        · have := f5 (40 * t + b') (by omega)
          rw [this.1, this.2]
          exact j3 b' (by omega)) n 0 N r (by omega) (by omega) ⟨i1, fun _ _ _ _ => ⟨rfl, rfl⟩, fun b' hb' => by omega⟩
    refine ⟨s2, ?_, j1, ?_⟩
    · rw [nX12_findSeats_2]
      simp (maxSteps := 400000) (disch := omega) only [n3_l, n3_add, n3_mul, n3_sub, n3_subn, n3_lt, n3_le, n3_eq, n3_eqn, n3_neq, n3_and, n3_or, n3_shl, n3_i, n3_cl, ↓hbd_0, ↓hbd_1, ↓hbd_2, hk_ob_0, hk_rd_0, hk_rd_1, hk_rd_2, hk_al_0, hk_al_1, h3r_0, h3r_1, hk_wi_0, hk_wj_0, h3w_0, h3w_1, h3v_0, hk_kI, hk_kJ, hk_kA, hk_kB, A_eq, A_ne, A_row, B_eq, B_ne, B_row, I_eq, I_ne, J_eq, J_ne, Option.bind_some, Option.some.injEq, if_true, if_false, eq_self, true_or, or_true, true_and, and_true, false_or, or_false, not_true_eq_false, not_false_eq_true, Classical.not_not, nar_b0, nar_b1, rz_0, rz_1, rz_i, ite01, Nat.add_zero, Nat.zero_add, Nat.one_mul, mul12, reduceIte, ra_z0, Nat.reduceEqDiff, Nat.reduceLT, Nat.reduceLeDiff, Nat.reduceAdd, Nat.reduceMul, Nat.reduceSub, Nat.reduceDiv, Nat.reduceMod, Bool.false_eq_true, false_and, and_false, reduceCtorEq, eR, hT, ht]
      rw [e2, nX12_findSeats_16]
      simp (maxSteps := 400000) (disch := omega) only [n3_l, n3_add, n3_mul, n3_sub, n3_subn, n3_lt, n3_le, n3_eq, n3_eqn, n3_neq, n3_and, n3_or, n3_shl, n3_i, n3_cl, ↓hbd_0, ↓hbd_1, ↓hbd_2, hk_ob_0, hk_rd_0, hk_rd_1, hk_rd_2, hk_al_0, hk_al_1, h3r_0, h3r_1, hk_wi_0, hk_wj_0, h3w_0, h3w_1, h3v_0, hk_kI, hk_kJ, hk_kA, hk_kB, A_eq, A_ne, A_row, B_eq, B_ne, B_row, I_eq, I_ne, J_eq, J_ne, Option.bind_some, Option.some.injEq, if_true, if_false, eq_self, true_or, or_true, true_and, and_true, false_or, or_false, not_true_eq_false, not_false_eq_true, Classical.not_not, nar_b0, nar_b1, rz_0, rz_1, rz_i, ite01, Nat.add_zero, Nat.zero_add, Nat.one_mul, mul12, reduceIte, ra_z0, Nat.reduceEqDiff, Nat.reduceLT, Nat.reduceLeDiff, Nat.reduceAdd, Nat.reduceMul, Nat.reduceSub, Nat.reduceDiv, Nat.reduceMod, Bool.false_eq_true, false_and, and_false, reduceCtorEq, j1.1 71 (by decide), hB, Nat.lt_irrefl]
    · intro t' b h1 h2
      by_cases et : t' = t
      · subst et; exact j3 b h2
      · have := j2 t' b (by omega) h2
        rw [this.1, this.2]
        exact i2 t' b (by omega) h2) nT 0 N κ (by omega) (by omega) ⟨same.refl _ _ _, fun t' b h => by omega⟩
  refine ⟨s', ?_, i1, i2⟩
  rw [e, nX12_findSeats_2]
  simp (maxSteps := 400000) (disch := omega) only [n3_l, n3_add, n3_mul, n3_sub, n3_subn, n3_lt, n3_le, n3_eq, n3_eqn, n3_neq, n3_and, n3_or, n3_shl, n3_i, n3_cl, ↓hbd_0, ↓hbd_1, ↓hbd_2, hk_ob_0, hk_rd_0, hk_rd_1, hk_rd_2, hk_al_0, hk_al_1, h3r_0, h3r_1, hk_wi_0, hk_wj_0, h3w_0, h3w_1, h3v_0, hk_kI, hk_kJ, hk_kA, hk_kB, A_eq, A_ne, A_row, B_eq, B_ne, B_row, I_eq, I_ne, J_eq, J_ne, Option.bind_some, Option.some.injEq, if_true, if_false, eq_self, true_or, or_true, true_and, and_true, false_or, or_false, not_true_eq_false, not_false_eq_true, Classical.not_not, nar_b0, nar_b1, rz_0, rz_1, rz_i, ite01, Nat.add_zero, Nat.zero_add, Nat.one_mul, mul12, reduceIte, ra_z0, Nat.reduceEqDiff, Nat.reduceLT, Nat.reduceLeDiff, Nat.reduceAdd, Nat.reduceMul, Nat.reduceSub, Nat.reduceDiv, Nat.reduceMod, Bool.false_eq_true, false_and, and_false, reduceCtorEq, i1.1 71 (by decide), hT, Nat.lt_irrefl]
def howC (rb : Nat → Bool) (hd : Nat → Int32) : Option Nat → Int32
  | none => n3 1
  | some s => if rb s = true then (if hd s ≤ n3 0 then n3 4 else n3 3) else n3 2
theorem c_howAt {b : Nat} {so : Option Nat} (hb : b < 40) (hs : ∀ s, so = some s → s < 5346) : fX1_howAt N 23 (n3 b) (seatI so) (hp κ) = some (if hk_A κ 2 (12 * b) = -n3 1 then n3 0 else howC (rtB (hk_A κ 3) (hk_A κ 5) (hk_A κ 2) b) (hk_A κ 27) so, hp κ) := by
  unfold fX1_howAt nX1_howAt_0 nX1_howAt_48
  simp (maxSteps := 400000) (disch := omega) only [n3_l, n3_add, n3_mul, n3_sub, n3_subn, n3_lt, n3_le, n3_eq, n3_eqn, n3_neq, n3_and, n3_or, n3_shl, n3_i, n3_cl, ↓hbd_0, ↓hbd_1, ↓hbd_2, hk_ob_0, hk_rd_0, hk_rd_1, hk_rd_2, hk_al_0, hk_al_1, h3r_0, h3r_1, hk_wi_0, hk_wj_0, h3w_0, h3w_1, h3v_0, hk_kI, hk_kJ, hk_kA, hk_kB, A_eq, A_ne, A_row, B_eq, B_ne, B_row, I_eq, I_ne, J_eq, J_ne, Option.bind_some, Option.some.injEq, if_true, if_false, eq_self, true_or, or_true, true_and, and_true, false_or, or_false, not_true_eq_false, not_false_eq_true, Classical.not_not, nar_b0, nar_b1, rz_0, rz_1, rz_i, ite01, Nat.add_zero, Nat.zero_add, Nat.one_mul, mul12, reduceIte, ra_z0, Nat.reduceEqDiff, Nat.reduceLT, Nat.reduceLeDiff, Nat.reduceAdd, Nat.reduceMul, Nat.reduceSub, Nat.reduceDiv, Nat.reduceMod, Bool.false_eq_true, false_and, and_false, reduceCtorEq, h_isMarked, ne_eq]
  by_cases hm : hk_A κ 2 (12 * b) = -n3 1
  · simp (maxSteps := 400000) (disch := omega) only [n3_l, n3_add, n3_mul, n3_sub, n3_subn, n3_lt, n3_le, n3_eq, n3_eqn, n3_neq, n3_and, n3_or, n3_shl, n3_i, n3_cl, ↓hbd_0, ↓hbd_1, ↓hbd_2, hk_ob_0, hk_rd_0, hk_rd_1, hk_rd_2, hk_al_0, hk_al_1, h3r_0, h3r_1, hk_wi_0, hk_wj_0, h3w_0, h3w_1, h3v_0, hk_kI, hk_kJ, hk_kA, hk_kB, A_eq, A_ne, A_row, B_eq, B_ne, B_row, I_eq, I_ne, J_eq, J_ne, Option.bind_some, Option.some.injEq, if_true, if_false, eq_self, true_or, or_true, true_and, and_true, false_or, or_false, not_true_eq_false, not_false_eq_true, Classical.not_not, nar_b0, nar_b1, rz_0, rz_1, rz_i, ite01, Nat.add_zero, Nat.zero_add, Nat.one_mul, mul12, reduceIte, ra_z0, Nat.reduceEqDiff, Nat.reduceLT, Nat.reduceLeDiff, Nat.reduceAdd, Nat.reduceMul, Nat.reduceSub, Nat.reduceDiv, Nat.reduceMod, Bool.false_eq_true, false_and, and_false, reduceCtorEq, hm]
  · cases so with
    | none =>
      have e : seatI none = -n3 1 := rfl
      simp (maxSteps := 400000) (disch := omega) only [n3_l, n3_add, n3_mul, n3_sub, n3_subn, n3_lt, n3_le, n3_eq, n3_eqn, n3_neq, n3_and, n3_or, n3_shl, n3_i, n3_cl, ↓hbd_0, ↓hbd_1, ↓hbd_2, hk_ob_0, hk_rd_0, hk_rd_1, hk_rd_2, hk_al_0, hk_al_1, h3r_0, h3r_1, hk_wi_0, hk_wj_0, h3w_0, h3w_1, h3v_0, hk_kI, hk_kJ, hk_kA, hk_kB, A_eq, A_ne, A_row, B_eq, B_ne, B_row, I_eq, I_ne, J_eq, J_ne, Option.bind_some, Option.some.injEq, if_true, if_false, eq_self, true_or, or_true, true_and, and_true, false_or, or_false, not_true_eq_false, not_false_eq_true, Classical.not_not, nar_b0, nar_b1, rz_0, rz_1, rz_i, ite01, Nat.add_zero, Nat.zero_add, Nat.one_mul, mul12, reduceIte, ra_z0, Nat.reduceEqDiff, Nat.reduceLT, Nat.reduceLeDiff, Nat.reduceAdd, Nat.reduceMul, Nat.reduceSub, Nat.reduceDiv, Nat.reduceMod, Bool.false_eq_true, false_and, and_false, reduceCtorEq, hm, e]
      rfl
    | some s =>
      have h5 := hs s rfl
      have e : seatI (some s) = n3 s := rfl
      have er := @rtB_iff (hk_A κ 3) (hk_A κ 5) (hk_A κ 2) b s
      unfold howC
      simp (maxSteps := 400000) (disch := omega) only [n3_l, n3_add, n3_mul, n3_sub, n3_subn, n3_lt, n3_le, n3_eq, n3_eqn, n3_neq, n3_and, n3_or, n3_shl, n3_i, n3_cl, ↓hbd_0, ↓hbd_1, ↓hbd_2, hk_ob_0, hk_rd_0, hk_rd_1, hk_rd_2, hk_al_0, hk_al_1, h3r_0, h3r_1, hk_wi_0, hk_wj_0, h3w_0, h3w_1, h3v_0, hk_kI, hk_kJ, hk_kA, hk_kB, A_eq, A_ne, A_row, B_eq, B_ne, B_row, I_eq, I_ne, J_eq, J_ne, Option.bind_some, Option.some.injEq, if_true, if_false, eq_self, true_or, or_true, true_and, and_true, false_or, or_false, not_true_eq_false, not_false_eq_true, Classical.not_not, nar_b0, nar_b1, rz_0, rz_1, rz_i, ite01, Nat.add_zero, Nat.zero_add, Nat.one_mul, mul12, reduceIte, ra_z0, Nat.reduceEqDiff, Nat.reduceLT, Nat.reduceLeDiff, Nat.reduceAdd, Nat.reduceMul, Nat.reduceSub, Nat.reduceDiv, Nat.reduceMod, Bool.false_eq_true, false_and, and_false, reduceCtorEq, hm, e, h_isRight]
      simp only [er]
      (repeat' split) <;> first | rfl | contradiction
theorem c_settle_t {n nT fi sc y : Nat} {T : Nat → tauT} (hB : hk_I κ 1 13 = n3 n) (hn : n ≤ 40) (hfi : fi < nT) (hsc : sc < nT) (hnT : nT ≤ 8) (hN : 100000 < N) (hc : cTs κ T nT) (hX : ∀ b, b < n → factsOk (fx (hk_A κ 2) b)) (hA : cA κ (hk_A κ 2) T nT n) (hH : ∀ s, s < 5346 → hk_A κ 27 s = n3 0)
    {se : Nat → Option Nat} (hse : ∀ b, se b = seatX (T (if hk_A κ 2 (12 * b + 2) < n3 y then fi else sc)) (fx (hk_A κ 2) b)) {rt : Nat → Nat → Bool} (hrt : rt = rtB (hk_A κ 3) (hk_A κ 5) (hk_A κ 2)) :
    ∃ κ', fX1_settle N 23 30 (n3 fi) (n3 sc) (n3 y) (hp κ) = some (hp κ') ∧ same [22, 24, 25, 27, 31, 32, 33] [(30, 3)] κ κ' ∧ cA κ' (hk_A κ 2) T nT n ∧ (∀ s, s < 5346 → hk_A κ' 27 s = n3 0) ∧ (∀ b, b < n → hk_A κ' 31 b = n3 (howG (mkF (hk_A κ 2)) se rt b) ∧ hk_A κ' 32 b = seatI (se b)) ∧ (∀ x, x < 54 → hk_A κ' 33 x = loadS (mkF (hk_A κ 2)) se rt (hk_A κ 2) x n) ∧ hk_I κ' 30 3 = n3 (cnt (fun b => howG (mkF (hk_A κ 2)) se rt b = 4) n) := by
  have hs5 : ∀ b s, se b = some s → s < 5346 := fun b s h => by rw [hse b] at h; exact seatX_lt h
  have hs0 : ∀ b, mkF (hk_A κ 2) b = false → se b = none := fun b h => by
    have : hk_A κ 2 (12 * b) = -n3 1 := by simpa [mkF] using h
    rw [hse b]; unfold seatX; rw [fx_0, if_pos this]
  obtain ⟨k0, e0, s0, v0⟩ := f_fill3 N (hk_wI κ 30 3 (n3 0)) (k := 33) (n := 54) rfl (by omega) (by omega) (n3 0)
  have ss0 : same [22, 24, 25, 27, 31, 32, 33] [(30, 3)] κ k0 := ((same.refl _ _ κ).wI (by decide)).trans (s0.weak (by decide) (by decide))
  have ss0' : same [33] [(30, 3)] κ k0 := ((same.refl _ _ κ).wI (by decide)).trans (s0.weak (by decide) (by decide))
  have loop1 : ∃ r m', nX1_settle_16 N N 23 30 (n3 fi) (n3 sc) (n3 y) (n3 0) (hp k0) = nX1_settle_16 N (m' + 1) 23 30 (n3 fi) (n3 sc) (n3 y) (n3 n) (hp r) ∧ same [22, 24, 25, 27, 31, 32, 33] [(30, 3)] κ r ∧ cA r (hk_A κ 2) T nT n ∧ (∀ s, s < 5346 → hk_A r 27 s = if ∃ b', b' < n ∧ rsG se rt b' = some s then n3 1 else n3 0) ∧ (∀ b, b < n → hk_A r 31 b = n3 (howG (mkF (hk_A κ 2)) se rt b) ∧ hk_A r 32 b = seatI (se b)) ∧ (∀ x, x < 54 → hk_A r 33 x = loadS (mkF (hk_A κ 2)) se rt (hk_A κ 2) x n) ∧ hk_I r 30 3 = n3 (cnt (fun b => howG (mkF (hk_A κ 2)) se rt b = 4) n) := by
    obtain ⟨m', r, e, i⟩ := lpx (fun m b (s : hk_T) => nX1_settle_16 N m 23 30 (n3 fi) (n3 sc) (n3 y) (n3 b) (hp s)) n (fun b r => same [22, 24, 25, 27, 31, 32, 33] [(30, 3)] κ r ∧ cA r (hk_A κ 2) T nT n ∧ (∀ s, s < 5346 → hk_A r 27 s = if ∃ b', b' < b ∧ rsG se rt b' = some s then n3 1 else n3 0) ∧ (∀ b', b' < b → hk_A r 31 b' = n3 (howG (mkF (hk_A κ 2)) se rt b') ∧ hk_A r 32 b' = seatI (se b')) ∧ (∀ x, x < 54 → hk_A r 33 x = loadS (mkF (hk_A κ 2)) se rt (hk_A κ 2) x b) ∧ hk_I r 30 3 = n3 (cnt (fun b => howG (mkF (hk_A κ 2)) se rt b = 4) b)) (by
      intro m b r hb ⟨i1, i2, i3, i4, i5, i6⟩
      have eF : hk_A r 2 = hk_A κ 2 := i1.1 2 (by decide)
      have e3 : hk_A r 3 = hk_A κ 3 := i1.1 3 (by decide)
      have e5 : hk_A r 5 = hk_A κ 5 := i1.1 5 (by decide)
      have hB' : hk_I r 1 13 = n3 n := by rw [i1.2.2.1 1 13 (by decide)]; exact hB
      have c1 := cnt_le (fun b => howG (mkF (hk_A κ 2)) se rt b = 4) b
      obtain ⟨g, hg8, hg⟩ : ∃ g, g < nT ∧ g = (if hk_A κ 2 (12 * b + 2) < n3 y then fi else sc) := ⟨_, by split <;> omega, rfl⟩
      have step : nX1_settle_16 N (m + 1) 23 30 (n3 fi) (n3 sc) (n3 y) (n3 b) (hp r) = nX1_settle_48 N (nX1_settle_16 N m) 23 30 (n3 fi) (n3 sc) (n3 y) (n3 b) (n3 g) (hp r) := by
        rw [nX1_settle_16]
        simp (maxSteps := 400000) (disch := omega) only [n3_l, n3_add, n3_mul, n3_sub, n3_subn, n3_lt, n3_le, n3_eq, n3_eqn, n3_neq, n3_and, n3_or, n3_shl, n3_i, n3_cl, ↓hbd_0, ↓hbd_1, ↓hbd_2, hk_ob_0, hk_rd_0, hk_rd_1, hk_rd_2, hk_al_0, hk_al_1, h3r_0, h3r_1, hk_wi_0, hk_wj_0, h3w_0, h3w_1, h3v_0, hk_kI, hk_kJ, hk_kA, hk_kB, A_eq, A_ne, A_row, B_eq, B_ne, B_row, I_eq, I_ne, J_eq, J_ne, Option.bind_some, Option.some.injEq, if_true, if_false, eq_self, true_or, or_true, true_and, and_true, false_or, or_false, not_true_eq_false, not_false_eq_true, Classical.not_not, nar_b0, nar_b1, rz_0, rz_1, rz_i, ite01, Nat.add_zero, Nat.zero_add, Nat.one_mul, mul12, reduceIte, ra_z0, Nat.reduceEqDiff, Nat.reduceLT, Nat.reduceLeDiff, Nat.reduceAdd, Nat.reduceMul, Nat.reduceSub, Nat.reduceDiv, Nat.reduceMod, Bool.false_eq_true, false_and, and_false, reduceCtorEq, hB', hb, h_factOf, eF]
        rw [hg]
        split <;> rfl
      obtain ⟨q, q1, q2, q3⟩ := (hc.mono i1.2.2.2.1 i1.2.2.2.2.2.1) g hg8
      obtain ⟨k, f1, f2, f3, f4⟩ := c_seatOf N r (t := g) (b := b) (q := q) (τ := T g) (by omega) (by omega) hN q1 q2 q3 (by rw [eF]; exact hX b hb) (by rw [eF]; exact i2 g b hg8 hb)
      have ese : se b = seatX (T g) (fx (hk_A κ 2) b) := by rw [hse b, hg]
      rw [eF, ← ese] at f1 f4
      have hw4 := howG_le (mkF (hk_A κ 2)) se rt b
      have cA' : ∀ k', same [22, 27, 31, 32, 33] [(30, 3)] k k' → cA k' (hk_A κ 2) T nT n := by
        intro k' hk' t' b' h1 h2 h3
        rw [hk'.1 24 (by decide)]
        rw [hk'.1 25 (by decide)] at h3
        by_cases ei : t' * 40 + b' = g * 40 + b
        · have e1 : t' = g := by omega
          have e2 : b' = b := by omega
          subst e1; subst e2; rw [f4, ese]
        · rw [(f3 _ ei).1]
          rw [(f3 _ ei).2] at h3
          exact i2 t' b' h1 h2 h3
      have k27 : hk_A k 27 = hk_A r 27 := f2.1 27 (by decide)
      have ha : fX1_howAt N 23 (n3 b) (seatI (se b)) (hp (hk_wA k 32 b (seatI (se b)))) = some (n3 (howG (mkF (hk_A κ 2)) se rt b), hp (hk_wA k 32 b (seatI (se b)))) := by
        rw [c_howAt N _ (by omega) (fun s => hs5 b s)]
        congr 2
        have w2 : hk_A (hk_wA k 32 b (seatI (se b))) 2 = hk_A κ 2 := by rw [A_row (by decide), f2.1 2 (by decide), eF]
        have w3 : hk_A (hk_wA k 32 b (seatI (se b))) 3 = hk_A κ 3 := by rw [A_row (by decide), f2.1 3 (by decide), e3]
        have w5 : hk_A (hk_wA k 32 b (seatI (se b))) 5 = hk_A κ 5 := by rw [A_row (by decide), f2.1 5 (by decide), e5]
        have w27 : hk_A (hk_wA k 32 b (seatI (se b))) 27 = hk_A r 27 := by rw [A_row (by decide), k27]
        rw [w2, w3, w5, w27, ← hrt]
        unfold howG
        by_cases hm : hk_A κ 2 (12 * b) = -n3 1
        · rw [if_pos hm, if_pos (by simp [mkF, hm])]
        · rw [if_neg hm, if_neg (by simp [mkF, hm])]
          cases hq : se b with
          | none => rfl
          | some s =>
            unfold howC
            dsimp only
            by_cases hr : rt b s = true
            · rw [if_pos hr, if_pos hr, i3 s (hs5 b s hq)]
              by_cases hx : ∃ b', b' < b ∧ rsG se rt b' = some s
              · rw [if_pos hx, if_pos hx]; rfl
              · rw [if_neg hx, if_neg hx]; rfl
            · rw [if_neg hr, if_neg hr]
      by_cases c4 : howG (mkF (hk_A κ 2)) se rt b = 4
      · obtain ⟨s, r1, r2⟩ := (howG_4 hs0).mp c4
        have hqs : se b = some s := by
          unfold rsG at r1
          cases hq : se b with
          | none => rw [hq] at r1; cases r1
          | some s' => rw [hq] at r1; dsimp only at r1; split at r1
                       · exact r1
                       · cases r1
        have h5 := hs5 b s hqs
        have hsd : s / 99 < 54 := by omega
        have eI : seatI (se b) = n3 s := by rw [hqs]; rfl
        refine ⟨hk_wA (hk_wI (hk_wA (hk_wA (hk_wA k 32 b (n3 s)) 31 b (n3 4)) 27 s (n3 1)) 30 3 (n3 (cnt (fun b => howG (mkF (hk_A κ 2)) se rt b = 4) b + 1))) 33 (s / 99) (loadS (mkF (hk_A κ 2)) se rt (hk_A κ 2) (s / 99) b + hk_A κ 2 (12 * b + 3)), ?_, ?_, ?_, ?_, ?_, ?_, ?_⟩
        · rw [step]
          unfold nX1_settle_48 nX1_settle_136
          simp (maxSteps := 400000) (disch := omega) only [n3_l, n3_add, n3_mul, n3_sub, n3_subn, n3_lt, n3_le, n3_eq, n3_eqn, n3_neq, n3_and, n3_or, n3_shl, n3_i, n3_cl, ↓hbd_0, ↓hbd_1, ↓hbd_2, hk_ob_0, hk_rd_0, hk_rd_1, hk_rd_2, hk_al_0, hk_al_1, h3r_0, h3r_1, hk_wi_0, hk_wj_0, h3w_0, h3w_1, h3v_0, hk_kI, hk_kJ, hk_kA, hk_kB, A_eq, A_ne, A_row, B_eq, B_ne, B_row, I_eq, I_ne, J_eq, J_ne, Option.bind_some, Option.some.injEq, if_true, if_false, eq_self, true_or, or_true, true_and, and_true, false_or, or_false, not_true_eq_false, not_false_eq_true, Classical.not_not, nar_b0, nar_b1, rz_0, rz_1, rz_i, ite01, Nat.add_zero, Nat.zero_add, Nat.one_mul, mul12, reduceIte, ra_z0, Nat.reduceEqDiff, Nat.reduceLT, Nat.reduceLeDiff, Nat.reduceAdd, Nat.reduceMul, Nat.reduceSub, Nat.reduceDiv, Nat.reduceMod, Bool.false_eq_true, false_and, and_false, reduceCtorEq, f1]
          rw [eI] at ha
          simp (maxSteps := 400000) (disch := omega) only [n3_l, n3_add, n3_mul, n3_sub, n3_subn, n3_lt, n3_le, n3_eq, n3_eqn, n3_neq, n3_and, n3_or, n3_shl, n3_i, n3_cl, ↓hbd_0, ↓hbd_1, ↓hbd_2, hk_ob_0, hk_rd_0, hk_rd_1, hk_rd_2, hk_al_0, hk_al_1, h3r_0, h3r_1, hk_wi_0, hk_wj_0, h3w_0, h3w_1, h3v_0, hk_kI, hk_kJ, hk_kA, hk_kB, A_eq, A_ne, A_row, B_eq, B_ne, B_row, I_eq, I_ne, J_eq, J_ne, Option.bind_some, Option.some.injEq, if_true, if_false, eq_self, true_or, or_true, true_and, and_true, false_or, or_false, not_true_eq_false, not_false_eq_true, Classical.not_not, nar_b0, nar_b1, rz_0, rz_1, rz_i, ite01, Nat.add_zero, Nat.zero_add, Nat.one_mul, mul12, reduceIte, ra_z0, Nat.reduceEqDiff, Nat.reduceLT, Nat.reduceLeDiff, Nat.reduceAdd, Nat.reduceMul, Nat.reduceSub, Nat.reduceDiv, Nat.reduceMod, Bool.false_eq_true, false_and, and_false, reduceCtorEq, eI, ha, c4]
          have iST : hk_I k 30 3 = n3 (cnt (fun b => howG (mkF (hk_A κ 2)) se rt b = 4) b) := by rw [f2.2.2.1 30 3 (by decide)]; exact i6
          have iLO : hk_A k 33 (s / 99) = loadS (mkF (hk_A κ 2)) se rt (hk_A κ 2) (s / 99) b := by rw [f2.1 33 (by decide)]; exact i5 _ hsd
          have i2' : hk_A k 2 = hk_A κ 2 := by rw [f2.1 2 (by decide), eF]
          simp (maxSteps := 400000) (disch := omega) only [n3_l, n3_add, n3_mul, n3_sub, n3_subn, n3_lt, n3_le, n3_eq, n3_eqn, n3_neq, n3_and, n3_or, n3_shl, n3_i, n3_cl, ↓hbd_0, ↓hbd_1, ↓hbd_2, hk_ob_0, hk_rd_0, hk_rd_1, hk_rd_2, hk_al_0, hk_al_1, h3r_0, h3r_1, hk_wi_0, hk_wj_0, h3w_0, h3w_1, h3v_0, hk_kI, hk_kJ, hk_kA, hk_kB, A_eq, A_ne, A_row, B_eq, B_ne, B_row, I_eq, I_ne, J_eq, J_ne, Option.bind_some, Option.some.injEq, if_true, if_false, eq_self, true_or, or_true, true_and, and_true, false_or, or_false, not_true_eq_false, not_false_eq_true, Classical.not_not, nar_b0, nar_b1, rz_0, rz_1, rz_i, ite01, Nat.add_zero, Nat.zero_add, Nat.one_mul, mul12, reduceIte, ra_z0, Nat.reduceEqDiff, Nat.reduceLT, Nat.reduceLeDiff, Nat.reduceAdd, Nat.reduceMul, Nat.reduceSub, Nat.reduceDiv, Nat.reduceMod, Bool.false_eq_true, false_and, and_false, reduceCtorEq, iST, n3_div, iLO, h_factOf, i2']
        · exact (((((i1.trans (f2.weak (by decide) (by decide))).wA (by decide)).wA (by decide)).wA (by decide)).wI (by decide)).wA (by decide)
        · exact cA' _ ((((((same.refl _ _ k).wA (by decide)).wA (by decide)).wA (by decide)).wI (by decide)).wA (by decide))
        · intro z hz
          by_cases ez : z = s
          · subst ez
            have hx : ∃ b', b' < b + 1 ∧ rsG se rt b' = some z := ⟨b, by omega, r1⟩
            rw [if_pos hx]; simp (maxSteps := 400000) (disch := omega) only [n3_l, n3_add, n3_mul, n3_sub, n3_subn, n3_lt, n3_le, n3_eq, n3_eqn, n3_neq, n3_and, n3_or, n3_shl, n3_i, n3_cl, ↓hbd_0, ↓hbd_1, ↓hbd_2, hk_ob_0, hk_rd_0, hk_rd_1, hk_rd_2, hk_al_0, hk_al_1, h3r_0, h3r_1, hk_wi_0, hk_wj_0, h3w_0, h3w_1, h3v_0, hk_kI, hk_kJ, hk_kA, hk_kB, A_eq, A_ne, A_row, B_eq, B_ne, B_row, I_eq, I_ne, J_eq, J_ne, Option.bind_some, Option.some.injEq, if_true, if_false, eq_self, true_or, or_true, true_and, and_true, false_or, or_false, not_true_eq_false, not_false_eq_true, Classical.not_not, nar_b0, nar_b1, rz_0, rz_1, rz_i, ite01, Nat.add_zero, Nat.zero_add, Nat.one_mul, mul12, reduceIte, ra_z0, Nat.reduceEqDiff, Nat.reduceLT, Nat.reduceLeDiff, Nat.reduceAdd, Nat.reduceMul, Nat.reduceSub, Nat.reduceDiv, Nat.reduceMod, Bool.false_eq_true, false_and, and_false, reduceCtorEq]
          · have hx : (∃ b', b' < b + 1 ∧ rsG se rt b' = some z) ↔ ∃ b', b' < b ∧ rsG se rt b' = some z := by
              constructor
              · rintro ⟨b', a1, a2⟩
                by_cases eb : b' = b
                · subst eb; rw [r1] at a2; cases a2; exact absurd rfl ez
                · exact ⟨b', by omega, a2⟩
              · rintro ⟨b', a1, a2⟩; exact ⟨b', by omega, a2⟩
            simp only [hx]
            simp (maxSteps := 400000) (disch := omega) only [n3_l, n3_add, n3_mul, n3_sub, n3_subn, n3_lt, n3_le, n3_eq, n3_eqn, n3_neq, n3_and, n3_or, n3_shl, n3_i, n3_cl, ↓hbd_0, ↓hbd_1, ↓hbd_2, hk_ob_0, hk_rd_0, hk_rd_1, hk_rd_2, hk_al_0, hk_al_1, h3r_0, h3r_1, hk_wi_0, hk_wj_0, h3w_0, h3w_1, h3v_0, hk_kI, hk_kJ, hk_kA, hk_kB, A_eq, A_ne, A_row, B_eq, B_ne, B_row, I_eq, I_ne, J_eq, J_ne, Option.bind_some, Option.some.injEq, if_true, if_false, eq_self, true_or, or_true, true_and, and_true, false_or, or_false, not_true_eq_false, not_false_eq_true, Classical.not_not, nar_b0, nar_b1, rz_0, rz_1, rz_i, ite01, Nat.add_zero, Nat.zero_add, Nat.one_mul, mul12, reduceIte, ra_z0, Nat.reduceEqDiff, Nat.reduceLT, Nat.reduceLeDiff, Nat.reduceAdd, Nat.reduceMul, Nat.reduceSub, Nat.reduceDiv, Nat.reduceMod, Bool.false_eq_true, false_and, and_false, reduceCtorEq, k27]
            exact i3 z hz
        · intro b' hb'
          by_cases eb : b' = b
          · subst eb; rw [c4, eI]; constructor <;> simp (maxSteps := 400000) (disch := omega) only [n3_l, n3_add, n3_mul, n3_sub, n3_subn, n3_lt, n3_le, n3_eq, n3_eqn, n3_neq, n3_and, n3_or, n3_shl, n3_i, n3_cl, ↓hbd_0, ↓hbd_1, ↓hbd_2, hk_ob_0, hk_rd_0, hk_rd_1, hk_rd_2, hk_al_0, hk_al_1, h3r_0, h3r_1, hk_wi_0, hk_wj_0, h3w_0, h3w_1, h3v_0, hk_kI, hk_kJ, hk_kA, hk_kB, A_eq, A_ne, A_row, B_eq, B_ne, B_row, I_eq, I_ne, J_eq, J_ne, Option.bind_some, Option.some.injEq, if_true, if_false, eq_self, true_or, or_true, true_and, and_true, false_or, or_false, not_true_eq_false, not_false_eq_true, Classical.not_not, nar_b0, nar_b1, rz_0, rz_1, rz_i, ite01, Nat.add_zero, Nat.zero_add, Nat.one_mul, mul12, reduceIte, ra_z0, Nat.reduceEqDiff, Nat.reduceLT, Nat.reduceLeDiff, Nat.reduceAdd, Nat.reduceMul, Nat.reduceSub, Nat.reduceDiv, Nat.reduceMod, Bool.false_eq_true, false_and, and_false, reduceCtorEq]
          · have := i4 b' (by omega)
            rw [← f2.1 31 (by decide), ← f2.1 32 (by decide)] at this
            constructor
            · simp (maxSteps := 400000) (disch := omega) only [n3_l, n3_add, n3_mul, n3_sub, n3_subn, n3_lt, n3_le, n3_eq, n3_eqn, n3_neq, n3_and, n3_or, n3_shl, n3_i, n3_cl, ↓hbd_0, ↓hbd_1, ↓hbd_2, hk_ob_0, hk_rd_0, hk_rd_1, hk_rd_2, hk_al_0, hk_al_1, h3r_0, h3r_1, hk_wi_0, hk_wj_0, h3w_0, h3w_1, h3v_0, hk_kI, hk_kJ, hk_kA, hk_kB, A_eq, A_ne, A_row, B_eq, B_ne, B_row, I_eq, I_ne, J_eq, J_ne, Option.bind_some, Option.some.injEq, if_true, if_false, eq_self, true_or, or_true, true_and, and_true, false_or, or_false, not_true_eq_false, not_false_eq_true, Classical.not_not, nar_b0, nar_b1, rz_0, rz_1, rz_i, ite01, Nat.add_zero, Nat.zero_add, Nat.one_mul, mul12, reduceIte, ra_z0, Nat.reduceEqDiff, Nat.reduceLT, Nat.reduceLeDiff, Nat.reduceAdd, Nat.reduceMul, Nat.reduceSub, Nat.reduceDiv, Nat.reduceMod, Bool.false_eq_true, false_and, and_false, reduceCtorEq, this.1]
            · simp (maxSteps := 400000) (disch := omega) only [n3_l, n3_add, n3_mul, n3_sub, n3_subn, n3_lt, n3_le, n3_eq, n3_eqn, n3_neq, n3_and, n3_or, n3_shl, n3_i, n3_cl, ↓hbd_0, ↓hbd_1, ↓hbd_2, hk_ob_0, hk_rd_0, hk_rd_1, hk_rd_2, hk_al_0, hk_al_1, h3r_0, h3r_1, hk_wi_0, hk_wj_0, h3w_0, h3w_1, h3v_0, hk_kI, hk_kJ, hk_kA, hk_kB, A_eq, A_ne, A_row, B_eq, B_ne, B_row, I_eq, I_ne, J_eq, J_ne, Option.bind_some, Option.some.injEq, if_true, if_false, eq_self, true_or, or_true, true_and, and_true, false_or, or_false, not_true_eq_false, not_false_eq_true, Classical.not_not, nar_b0, nar_b1, rz_0, rz_1, rz_i, ite01, Nat.add_zero, Nat.zero_add, Nat.one_mul, mul12, reduceIte, ra_z0, Nat.reduceEqDiff, Nat.reduceLT, Nat.reduceLeDiff, Nat.reduceAdd, Nat.reduceMul, Nat.reduceSub, Nat.reduceDiv, Nat.reduceMod, Bool.false_eq_true, false_and, and_false, reduceCtorEq, this.2]
        · intro x hx
          unfold loadS
          rw [fo_last, Nat.zero_add]
          by_cases ex : x = s / 99
          · subst ex
            have : howG (mkF (hk_A κ 2)) se rt b = 4 ∧ shO (se b) = s / 99 := ⟨c4, by rw [hqs]; rfl⟩
            rw [if_pos this]
            simp (maxSteps := 400000) (disch := omega) only [n3_l, n3_add, n3_mul, n3_sub, n3_subn, n3_lt, n3_le, n3_eq, n3_eqn, n3_neq, n3_and, n3_or, n3_shl, n3_i, n3_cl, ↓hbd_0, ↓hbd_1, ↓hbd_2, hk_ob_0, hk_rd_0, hk_rd_1, hk_rd_2, hk_al_0, hk_al_1, h3r_0, h3r_1, hk_wi_0, hk_wj_0, h3w_0, h3w_1, h3v_0, hk_kI, hk_kJ, hk_kA, hk_kB, A_eq, A_ne, A_row, B_eq, B_ne, B_row, I_eq, I_ne, J_eq, J_ne, Option.bind_some, Option.some.injEq, if_true, if_false, eq_self, true_or, or_true, true_and, and_true, false_or, or_false, not_true_eq_false, not_false_eq_true, Classical.not_not, nar_b0, nar_b1, rz_0, rz_1, rz_i, ite01, Nat.add_zero, Nat.zero_add, Nat.one_mul, mul12, reduceIte, ra_z0, Nat.reduceEqDiff, Nat.reduceLT, Nat.reduceLeDiff, Nat.reduceAdd, Nat.reduceMul, Nat.reduceSub, Nat.reduceDiv, Nat.reduceMod, Bool.false_eq_true, false_and, and_false, reduceCtorEq]
          · have : ¬ (howG (mkF (hk_A κ 2)) se rt b = 4 ∧ shO (se b) = x) := fun z => ex (by rw [← z.2, hqs]; rfl)
            rw [if_neg this]
            simp (maxSteps := 400000) (disch := omega) only [n3_l, n3_add, n3_mul, n3_sub, n3_subn, n3_lt, n3_le, n3_eq, n3_eqn, n3_neq, n3_and, n3_or, n3_shl, n3_i, n3_cl, ↓hbd_0, ↓hbd_1, ↓hbd_2, hk_ob_0, hk_rd_0, hk_rd_1, hk_rd_2, hk_al_0, hk_al_1, h3r_0, h3r_1, hk_wi_0, hk_wj_0, h3w_0, h3w_1, h3v_0, hk_kI, hk_kJ, hk_kA, hk_kB, A_eq, A_ne, A_row, B_eq, B_ne, B_row, I_eq, I_ne, J_eq, J_ne, Option.bind_some, Option.some.injEq, if_true, if_false, eq_self, true_or, or_true, true_and, and_true, false_or, or_false, not_true_eq_false, not_false_eq_true, Classical.not_not, nar_b0, nar_b1, rz_0, rz_1, rz_i, ite01, Nat.add_zero, Nat.zero_add, Nat.one_mul, mul12, reduceIte, ra_z0, Nat.reduceEqDiff, Nat.reduceLT, Nat.reduceLeDiff, Nat.reduceAdd, Nat.reduceMul, Nat.reduceSub, Nat.reduceDiv, Nat.reduceMod, Bool.false_eq_true, false_and, and_false, reduceCtorEq, f2.1 33 (by decide)]
            exact i5 x hx
        · rw [cnt, if_pos c4]; simp (maxSteps := 400000) (disch := omega) only [n3_l, n3_add, n3_mul, n3_sub, n3_subn, n3_lt, n3_le, n3_eq, n3_eqn, n3_neq, n3_and, n3_or, n3_shl, n3_i, n3_cl, ↓hbd_0, ↓hbd_1, ↓hbd_2, hk_ob_0, hk_rd_0, hk_rd_1, hk_rd_2, hk_al_0, hk_al_1, h3r_0, h3r_1, hk_wi_0, hk_wj_0, h3w_0, h3w_1, h3v_0, hk_kI, hk_kJ, hk_kA, hk_kB, A_eq, A_ne, A_row, B_eq, B_ne, B_row, I_eq, I_ne, J_eq, J_ne, Option.bind_some, Option.some.injEq, if_true, if_false, eq_self, true_or, or_true, true_and, and_true, false_or, or_false, not_true_eq_false, not_false_eq_true, Classical.not_not, nar_b0, nar_b1, rz_0, rz_1, rz_i, ite01, Nat.add_zero, Nat.zero_add, Nat.one_mul, mul12, reduceIte, ra_z0, Nat.reduceEqDiff, Nat.reduceLT, Nat.reduceLeDiff, Nat.reduceAdd, Nat.reduceMul, Nat.reduceSub, Nat.reduceDiv, Nat.reduceMod, Bool.false_eq_true, false_and, and_false, reduceCtorEq]
      · refine ⟨hk_wA (hk_wA k 32 b (seatI (se b))) 31 b (n3 (howG (mkF (hk_A κ 2)) se rt b)), ?_, ?_, ?_, ?_, ?_, ?_, ?_⟩
        · rw [step]
          unfold nX1_settle_48 nX1_settle_136
          simp (maxSteps := 400000) (disch := omega) only [n3_l, n3_add, n3_mul, n3_sub, n3_subn, n3_lt, n3_le, n3_eq, n3_eqn, n3_neq, n3_and, n3_or, n3_shl, n3_i, n3_cl, ↓hbd_0, ↓hbd_1, ↓hbd_2, hk_ob_0, hk_rd_0, hk_rd_1, hk_rd_2, hk_al_0, hk_al_1, h3r_0, h3r_1, hk_wi_0, hk_wj_0, h3w_0, h3w_1, h3v_0, hk_kI, hk_kJ, hk_kA, hk_kB, A_eq, A_ne, A_row, B_eq, B_ne, B_row, I_eq, I_ne, J_eq, J_ne, Option.bind_some, Option.some.injEq, if_true, if_false, eq_self, true_or, or_true, true_and, and_true, false_or, or_false, not_true_eq_false, not_false_eq_true, Classical.not_not, nar_b0, nar_b1, rz_0, rz_1, rz_i, ite01, Nat.add_zero, Nat.zero_add, Nat.one_mul, mul12, reduceIte, ra_z0, Nat.reduceEqDiff, Nat.reduceLT, Nat.reduceLeDiff, Nat.reduceAdd, Nat.reduceMul, Nat.reduceSub, Nat.reduceDiv, Nat.reduceMod, Bool.false_eq_true, false_and, and_false, reduceCtorEq, f1]
          simp (maxSteps := 400000) (disch := omega) only [n3_l, n3_add, n3_mul, n3_sub, n3_subn, n3_lt, n3_le, n3_eq, n3_eqn, n3_neq, n3_and, n3_or, n3_shl, n3_i, n3_cl, ↓hbd_0, ↓hbd_1, ↓hbd_2, hk_ob_0, hk_rd_0, hk_rd_1, hk_rd_2, hk_al_0, hk_al_1, h3r_0, h3r_1, hk_wi_0, hk_wj_0, h3w_0, h3w_1, h3v_0, hk_kI, hk_kJ, hk_kA, hk_kB, A_eq, A_ne, A_row, B_eq, B_ne, B_row, I_eq, I_ne, J_eq, J_ne, Option.bind_some, Option.some.injEq, if_true, if_false, eq_self, true_or, or_true, true_and, and_true, false_or, or_false, not_true_eq_false, not_false_eq_true, Classical.not_not, nar_b0, nar_b1, rz_0, rz_1, rz_i, ite01, Nat.add_zero, Nat.zero_add, Nat.one_mul, mul12, reduceIte, ra_z0, Nat.reduceEqDiff, Nat.reduceLT, Nat.reduceLeDiff, Nat.reduceAdd, Nat.reduceMul, Nat.reduceSub, Nat.reduceDiv, Nat.reduceMod, Bool.false_eq_true, false_and, and_false, reduceCtorEq, ha, c4]
        · exact ((i1.trans (f2.weak (by decide) (by decide))).wA (by decide)).wA (by decide)
        · exact cA' _ (((same.refl _ _ k).wA (by decide)).wA (by decide))
        · intro z hz
          have hx : (∃ b', b' < b + 1 ∧ rsG se rt b' = some z) ↔ ∃ b', b' < b ∧ rsG se rt b' = some z := by
            constructor
            · rintro ⟨b', a1, a2⟩
              by_cases eb : b' = b
              · subst eb
                by_cases hy : ∃ b2, b2 < b' ∧ rsG se rt b2 = some z
                · exact hy
                · exact absurd ((howG_4 hs0).mpr ⟨z, a2, hy⟩) c4
              · exact ⟨b', by omega, a2⟩
            · rintro ⟨b', a1, a2⟩; exact ⟨b', by omega, a2⟩
          simp only [hx]
          simp (maxSteps := 400000) (disch := omega) only [n3_l, n3_add, n3_mul, n3_sub, n3_subn, n3_lt, n3_le, n3_eq, n3_eqn, n3_neq, n3_and, n3_or, n3_shl, n3_i, n3_cl, ↓hbd_0, ↓hbd_1, ↓hbd_2, hk_ob_0, hk_rd_0, hk_rd_1, hk_rd_2, hk_al_0, hk_al_1, h3r_0, h3r_1, hk_wi_0, hk_wj_0, h3w_0, h3w_1, h3v_0, hk_kI, hk_kJ, hk_kA, hk_kB, A_eq, A_ne, A_row, B_eq, B_ne, B_row, I_eq, I_ne, J_eq, J_ne, Option.bind_some, Option.some.injEq, if_true, if_false, eq_self, true_or, or_true, true_and, and_true, false_or, or_false, not_true_eq_false, not_false_eq_true, Classical.not_not, nar_b0, nar_b1, rz_0, rz_1, rz_i, ite01, Nat.add_zero, Nat.zero_add, Nat.one_mul, mul12, reduceIte, ra_z0, Nat.reduceEqDiff, Nat.reduceLT, Nat.reduceLeDiff, Nat.reduceAdd, Nat.reduceMul, Nat.reduceSub, Nat.reduceDiv, Nat.reduceMod, Bool.false_eq_true, false_and, and_false, reduceCtorEq, k27]
          exact i3 z hz
        · intro b' hb'
          by_cases eb : b' = b
          · subst eb; constructor <;> simp (maxSteps := 400000) (disch := omega) only [n3_l, n3_add, n3_mul, n3_sub, n3_subn, n3_lt, n3_le, n3_eq, n3_eqn, n3_neq, n3_and, n3_or, n3_shl, n3_i, n3_cl, ↓hbd_0, ↓hbd_1, ↓hbd_2, hk_ob_0, hk_rd_0, hk_rd_1, hk_rd_2, hk_al_0, hk_al_1, h3r_0, h3r_1, hk_wi_0, hk_wj_0, h3w_0, h3w_1, h3v_0, hk_kI, hk_kJ, hk_kA, hk_kB, A_eq, A_ne, A_row, B_eq, B_ne, B_row, I_eq, I_ne, J_eq, J_ne, Option.bind_some, Option.some.injEq, if_true, if_false, eq_self, true_or, or_true, true_and, and_true, false_or, or_false, not_true_eq_false, not_false_eq_true, Classical.not_not, nar_b0, nar_b1, rz_0, rz_1, rz_i, ite01, Nat.add_zero, Nat.zero_add, Nat.one_mul, mul12, reduceIte, ra_z0, Nat.reduceEqDiff, Nat.reduceLT, Nat.reduceLeDiff, Nat.reduceAdd, Nat.reduceMul, Nat.reduceSub, Nat.reduceDiv, Nat.reduceMod, Bool.false_eq_true, false_and, and_false, reduceCtorEq]
          · have := i4 b' (by omega)
            rw [← f2.1 31 (by decide), ← f2.1 32 (by decide)] at this
            constructor
            · simp (maxSteps := 400000) (disch := omega) only [n3_l, n3_add, n3_mul, n3_sub, n3_subn, n3_lt, n3_le, n3_eq, n3_eqn, n3_neq, n3_and, n3_or, n3_shl, n3_i, n3_cl, ↓hbd_0, ↓hbd_1, ↓hbd_2, hk_ob_0, hk_rd_0, hk_rd_1, hk_rd_2, hk_al_0, hk_al_1, h3r_0, h3r_1, hk_wi_0, hk_wj_0, h3w_0, h3w_1, h3v_0, hk_kI, hk_kJ, hk_kA, hk_kB, A_eq, A_ne, A_row, B_eq, B_ne, B_row, I_eq, I_ne, J_eq, J_ne, Option.bind_some, Option.some.injEq, if_true, if_false, eq_self, true_or, or_true, true_and, and_true, false_or, or_false, not_true_eq_false, not_false_eq_true, Classical.not_not, nar_b0, nar_b1, rz_0, rz_1, rz_i, ite01, Nat.add_zero, Nat.zero_add, Nat.one_mul, mul12, reduceIte, ra_z0, Nat.reduceEqDiff, Nat.reduceLT, Nat.reduceLeDiff, Nat.reduceAdd, Nat.reduceMul, Nat.reduceSub, Nat.reduceDiv, Nat.reduceMod, Bool.false_eq_true, false_and, and_false, reduceCtorEq, this.1]
            · simp (maxSteps := 400000) (disch := omega) only [n3_l, n3_add, n3_mul, n3_sub, n3_subn, n3_lt, n3_le, n3_eq, n3_eqn, n3_neq, n3_and, n3_or, n3_shl, n3_i, n3_cl, ↓hbd_0, ↓hbd_1, ↓hbd_2, hk_ob_0, hk_rd_0, hk_rd_1, hk_rd_2, hk_al_0, hk_al_1, h3r_0, h3r_1, hk_wi_0, hk_wj_0, h3w_0, h3w_1, h3v_0, hk_kI, hk_kJ, hk_kA, hk_kB, A_eq, A_ne, A_row, B_eq, B_ne, B_row, I_eq, I_ne, J_eq, J_ne, Option.bind_some, Option.some.injEq, if_true, if_false, eq_self, true_or, or_true, true_and, and_true, false_or, or_false, not_true_eq_false, not_false_eq_true, Classical.not_not, nar_b0, nar_b1, rz_0, rz_1, rz_i, ite01, Nat.add_zero, Nat.zero_add, Nat.one_mul, mul12, reduceIte, ra_z0, Nat.reduceEqDiff, Nat.reduceLT, Nat.reduceLeDiff, Nat.reduceAdd, Nat.reduceMul, Nat.reduceSub, Nat.reduceDiv, Nat.reduceMod, Bool.false_eq_true, false_and, and_false, reduceCtorEq, this.2]
        · intro x hx
          unfold loadS
          rw [fo_last, Nat.zero_add, if_neg (fun z => c4 z.1)]
          simp (maxSteps := 400000) (disch := omega) only [n3_l, n3_add, n3_mul, n3_sub, n3_subn, n3_lt, n3_le, n3_eq, n3_eqn, n3_neq, n3_and, n3_or, n3_shl, n3_i, n3_cl, ↓hbd_0, ↓hbd_1, ↓hbd_2, hk_ob_0, hk_rd_0, hk_rd_1, hk_rd_2, hk_al_0, hk_al_1, h3r_0, h3r_1, hk_wi_0, hk_wj_0, h3w_0, h3w_1, h3v_0, hk_kI, hk_kJ, hk_kA, hk_kB, A_eq, A_ne, A_row, B_eq, B_ne, B_row, I_eq, I_ne, J_eq, J_ne, Option.bind_some, Option.some.injEq, if_true, if_false, eq_self, true_or, or_true, true_and, and_true, false_or, or_false, not_true_eq_false, not_false_eq_true, Classical.not_not, nar_b0, nar_b1, rz_0, rz_1, rz_i, ite01, Nat.add_zero, Nat.zero_add, Nat.one_mul, mul12, reduceIte, ra_z0, Nat.reduceEqDiff, Nat.reduceLT, Nat.reduceLeDiff, Nat.reduceAdd, Nat.reduceMul, Nat.reduceSub, Nat.reduceDiv, Nat.reduceMod, Bool.false_eq_true, false_and, and_false, reduceCtorEq, f2.1 33 (by decide)]
          exact i5 x hx
        · rw [cnt, if_neg c4]; simp (maxSteps := 400000) (disch := omega) only [n3_l, n3_add, n3_mul, n3_sub, n3_subn, n3_lt, n3_le, n3_eq, n3_eqn, n3_neq, n3_and, n3_or, n3_shl, n3_i, n3_cl, ↓hbd_0, ↓hbd_1, ↓hbd_2, hk_ob_0, hk_rd_0, hk_rd_1, hk_rd_2, hk_al_0, hk_al_1, h3r_0, h3r_1, hk_wi_0, hk_wj_0, h3w_0, h3w_1, h3v_0, hk_kI, hk_kJ, hk_kA, hk_kB, A_eq, A_ne, A_row, B_eq, B_ne, B_row, I_eq, I_ne, J_eq, J_ne, Option.bind_some, Option.some.injEq, if_true, if_false, eq_self, true_or, or_true, true_and, and_true, false_or, or_false, not_true_eq_false, not_false_eq_true, Classical.not_not, nar_b0, nar_b1, rz_0, rz_1, rz_i, ite01, Nat.add_zero, Nat.zero_add, Nat.one_mul, mul12, reduceIte, ra_z0, Nat.reduceEqDiff, Nat.reduceLT, Nat.reduceLeDiff, Nat.reduceAdd, Nat.reduceMul, Nat.reduceSub, Nat.reduceDiv, Nat.reduceMod, Bool.false_eq_true, false_and, and_false, reduceCtorEq, f2.2.2.1 30 3 (by decide)]; exact i6) n 0 N k0 (by omega) (by omega) ⟨ss0, by
          intro t b h1 h2 h3
          rw [ss0'.1 24 (by decide)]
          rw [ss0'.1 25 (by decide)] at h3
          exact hA t b h1 h2 h3, fun s hs => by
          rw [ss0'.1 27 (by decide), hH s hs, if_neg (by rintro ⟨b', h, -⟩; omega)], fun b' h => by omega, fun x hx => by rw [v0 x, if_pos hx]; rfl, by rw [s0.2.2.1 30 3 (by decide)]; simp (maxSteps := 400000) (disch := omega) only [n3_l, n3_add, n3_mul, n3_sub, n3_subn, n3_lt, n3_le, n3_eq, n3_eqn, n3_neq, n3_and, n3_or, n3_shl, n3_i, n3_cl, ↓hbd_0, ↓hbd_1, ↓hbd_2, hk_ob_0, hk_rd_0, hk_rd_1, hk_rd_2, hk_al_0, hk_al_1, h3r_0, h3r_1, hk_wi_0, hk_wj_0, h3w_0, h3w_1, h3v_0, hk_kI, hk_kJ, hk_kA, hk_kB, A_eq, A_ne, A_row, B_eq, B_ne, B_row, I_eq, I_ne, J_eq, J_ne, Option.bind_some, Option.some.injEq, if_true, if_false, eq_self, true_or, or_true, true_and, and_true, false_or, or_false, not_true_eq_false, not_false_eq_true, Classical.not_not, nar_b0, nar_b1, rz_0, rz_1, rz_i, ite01, Nat.add_zero, Nat.zero_add, Nat.one_mul, mul12, reduceIte, ra_z0, Nat.reduceEqDiff, Nat.reduceLT, Nat.reduceLeDiff, Nat.reduceAdd, Nat.reduceMul, Nat.reduceSub, Nat.reduceDiv, Nat.reduceMod, Bool.false_eq_true, false_and, and_false, reduceCtorEq]; rfl⟩
    exact ⟨r, m', e, i⟩
  obtain ⟨r, m', er, i1, i2, i3, i4, i5, i6⟩ := loop1
  have hB' : hk_I r 1 13 = n3 n := by rw [i1.2.2.1 1 13 (by decide)]; exact hB
  obtain ⟨m2, r2, e2, j1, j2⟩ := lpx (fun m b (s : hk_T) => nX1_settle_145 N m 23 30 (n3 b) (hp s)) n (fun b r' => same [27] [] r r' ∧ ∀ s, s < 5346 → hk_A r' 27 s = if (∃ b', b' < n ∧ rsG se rt b' = some s) ∧ ¬ (∃ b', b' < b ∧ howG (mkF (hk_A κ 2)) se rt b' = 4 ∧ rsG se rt b' = some s) then n3 1 else n3 0) (by
    intro m b r' hb ⟨j1, j2⟩
    have hB2 : hk_I r' 1 13 = n3 n := by rw [j1.2.2.1 1 13 (by decide)]; exact hB'
    have hw4 := howG_le (mkF (hk_A κ 2)) se rt b
    obtain ⟨g1, g2⟩ := i4 b hb
    rw [← j1.1 31 (by decide)] at g1
    rw [← j1.1 32 (by decide)] at g2
    by_cases c4 : howG (mkF (hk_A κ 2)) se rt b = 4
    · obtain ⟨s, r1, -⟩ := (howG_4 hs0).mp c4
      have hqs : se b = some s := by
        unfold rsG at r1
        cases hq : se b with
        | none => rw [hq] at r1; cases r1
        | some s' => rw [hq] at r1; dsimp only at r1; split at r1
                     · exact r1
                     · cases r1
      have h5 := hs5 b s hqs
      have eI : seatI (se b) = n3 s := by rw [hqs]; rfl
      rw [c4] at g1
      rw [eI] at g2
      refine ⟨hk_wA r' 27 s (n3 0), ?_, j1.wA (by decide), ?_⟩
      · rw [nX1_settle_145]
        simp (maxSteps := 400000) (disch := omega) only [n3_l, n3_add, n3_mul, n3_sub, n3_subn, n3_lt, n3_le, n3_eq, n3_eqn, n3_neq, n3_and, n3_or, n3_shl, n3_i, n3_cl, ↓hbd_0, ↓hbd_1, ↓hbd_2, hk_ob_0, hk_rd_0, hk_rd_1, hk_rd_2, hk_al_0, hk_al_1, h3r_0, h3r_1, hk_wi_0, hk_wj_0, h3w_0, h3w_1, h3v_0, hk_kI, hk_kJ, hk_kA, hk_kB, A_eq, A_ne, A_row, B_eq, B_ne, B_row, I_eq, I_ne, J_eq, J_ne, Option.bind_some, Option.some.injEq, if_true, if_false, eq_self, true_or, or_true, true_and, and_true, false_or, or_false, not_true_eq_false, not_false_eq_true, Classical.not_not, nar_b0, nar_b1, rz_0, rz_1, rz_i, ite01, Nat.add_zero, Nat.zero_add, Nat.one_mul, mul12, reduceIte, ra_z0, Nat.reduceEqDiff, Nat.reduceLT, Nat.reduceLeDiff, Nat.reduceAdd, Nat.reduceMul, Nat.reduceSub, Nat.reduceDiv, Nat.reduceMod, Bool.false_eq_true, false_and, and_false, reduceCtorEq, hB2, hb, g1, g2, nX1_settle_181]
      · intro z hz
        by_cases ez : z = s
        · subst ez
          rw [if_neg (fun q => q.2 ⟨b, by omega, c4, r1⟩)]; simp (maxSteps := 400000) (disch := omega) only [n3_l, n3_add, n3_mul, n3_sub, n3_subn, n3_lt, n3_le, n3_eq, n3_eqn, n3_neq, n3_and, n3_or, n3_shl, n3_i, n3_cl, ↓hbd_0, ↓hbd_1, ↓hbd_2, hk_ob_0, hk_rd_0, hk_rd_1, hk_rd_2, hk_al_0, hk_al_1, h3r_0, h3r_1, hk_wi_0, hk_wj_0, h3w_0, h3w_1, h3v_0, hk_kI, hk_kJ, hk_kA, hk_kB, A_eq, A_ne, A_row, B_eq, B_ne, B_row, I_eq, I_ne, J_eq, J_ne, Option.bind_some, Option.some.injEq, if_true, if_false, eq_self, true_or, or_true, true_and, and_true, false_or, or_false, not_true_eq_false, not_false_eq_true, Classical.not_not, nar_b0, nar_b1, rz_0, rz_1, rz_i, ite01, Nat.add_zero, Nat.zero_add, Nat.one_mul, mul12, reduceIte, ra_z0, Nat.reduceEqDiff, Nat.reduceLT, Nat.reduceLeDiff, Nat.reduceAdd, Nat.reduceMul, Nat.reduceSub, Nat.reduceDiv, Nat.reduceMod, Bool.false_eq_true, false_and, and_false, reduceCtorEq]
        · rw [A_ne (Or.inr ez), j2 z hz]
          have : (∃ b', b' < b + 1 ∧ howG (mkF (hk_A κ 2)) se rt b' = 4 ∧ rsG se rt b' = some z) ↔ ∃ b', b' < b ∧ howG (mkF (hk_A κ 2)) se rt b' = 4 ∧ rsG se rt b' = some z := by
            constructor
            · rintro ⟨b', a1, a2, a3⟩
              by_cases eb : b' = b
              · subst eb; rw [r1] at a3; cases a3; exact absurd rfl ez
              · exact ⟨b', by omega, a2, a3⟩
            · rintro ⟨b', a1, a2, a3⟩; exact ⟨b', by omega, a2, a3⟩
          simp only [this]
    · refine ⟨r', ?_, j1, ?_⟩
      · rw [nX1_settle_145]
        simp (maxSteps := 400000) (disch := omega) only [n3_l, n3_add, n3_mul, n3_sub, n3_subn, n3_lt, n3_le, n3_eq, n3_eqn, n3_neq, n3_and, n3_or, n3_shl, n3_i, n3_cl, ↓hbd_0, ↓hbd_1, ↓hbd_2, hk_ob_0, hk_rd_0, hk_rd_1, hk_rd_2, hk_al_0, hk_al_1, h3r_0, h3r_1, hk_wi_0, hk_wj_0, h3w_0, h3w_1, h3v_0, hk_kI, hk_kJ, hk_kA, hk_kB, A_eq, A_ne, A_row, B_eq, B_ne, B_row, I_eq, I_ne, J_eq, J_ne, Option.bind_some, Option.some.injEq, if_true, if_false, eq_self, true_or, or_true, true_and, and_true, false_or, or_false, not_true_eq_false, not_false_eq_true, Classical.not_not, nar_b0, nar_b1, rz_0, rz_1, rz_i, ite01, Nat.add_zero, Nat.zero_add, Nat.one_mul, mul12, reduceIte, ra_z0, Nat.reduceEqDiff, Nat.reduceLT, Nat.reduceLeDiff, Nat.reduceAdd, Nat.reduceMul, Nat.reduceSub, Nat.reduceDiv, Nat.reduceMod, Bool.false_eq_true, false_and, and_false, reduceCtorEq, hB2, hb, g1, c4, nX1_settle_181]
      · intro z hz
        rw [j2 z hz]
        have : (∃ b', b' < b + 1 ∧ howG (mkF (hk_A κ 2)) se rt b' = 4 ∧ rsG se rt b' = some z) ↔ ∃ b', b' < b ∧ howG (mkF (hk_A κ 2)) se rt b' = 4 ∧ rsG se rt b' = some z := by
          constructor
          · rintro ⟨b', a1, a2, a3⟩
            by_cases eb : b' = b
            · subst eb; exact absurd a2 c4
            · exact ⟨b', by omega, a2, a3⟩
          · rintro ⟨b', a1, a2, a3⟩; exact ⟨b', by omega, a2, a3⟩
        simp only [this]) n 0 N r (by omega) (by omega) ⟨same.refl _ _ _, fun s hs => by
      rw [i3 s hs]
      have : ¬ ∃ b', b' < 0 ∧ howG (mkF (hk_A κ 2)) se rt b' = 4 ∧ rsG se rt b' = some s := by rintro ⟨b', h, -⟩; omega
      simp only [this, not_false_eq_true, and_true]⟩
  refine ⟨r2, ?_, i1.trans (j1.weak (by decide) (by decide)), ?_, ?_, ?_, ?_, ?_⟩
  · unfold fX1_settle nX1_settle_0
    simp (maxSteps := 400000) (disch := omega) only [n3_l, n3_add, n3_mul, n3_sub, n3_subn, n3_lt, n3_le, n3_eq, n3_eqn, n3_neq, n3_and, n3_or, n3_shl, n3_i, n3_cl, ↓hbd_0, ↓hbd_1, ↓hbd_2, hk_ob_0, hk_rd_0, hk_rd_1, hk_rd_2, hk_al_0, hk_al_1, h3r_0, h3r_1, hk_wi_0, hk_wj_0, h3w_0, h3w_1, h3v_0, hk_kI, hk_kJ, hk_kA, hk_kB, A_eq, A_ne, A_row, B_eq, B_ne, B_row, I_eq, I_ne, J_eq, J_ne, Option.bind_some, Option.some.injEq, if_true, if_false, eq_self, true_or, or_true, true_and, and_true, false_or, or_false, not_true_eq_false, not_false_eq_true, Classical.not_not, nar_b0, nar_b1, rz_0, rz_1, rz_i, ite01, Nat.add_zero, Nat.zero_add, Nat.one_mul, mul12, reduceIte, ra_z0, Nat.reduceEqDiff, Nat.reduceLT, Nat.reduceLeDiff, Nat.reduceAdd, Nat.reduceMul, Nat.reduceSub, Nat.reduceDiv, Nat.reduceMod, Bool.false_eq_true, false_and, and_false, reduceCtorEq, e0]
    rw [er, nX1_settle_16]
    simp (maxSteps := 400000) (disch := omega) only [n3_l, n3_add, n3_mul, n3_sub, n3_subn, n3_lt, n3_le, n3_eq, n3_eqn, n3_neq, n3_and, n3_or, n3_shl, n3_i, n3_cl, ↓hbd_0, ↓hbd_1, ↓hbd_2, hk_ob_0, hk_rd_0, hk_rd_1, hk_rd_2, hk_al_0, hk_al_1, h3r_0, h3r_1, hk_wi_0, hk_wj_0, h3w_0, h3w_1, h3v_0, hk_kI, hk_kJ, hk_kA, hk_kB, A_eq, A_ne, A_row, B_eq, B_ne, B_row, I_eq, I_ne, J_eq, J_ne, Option.bind_some, Option.some.injEq, if_true, if_false, eq_self, true_or, or_true, true_and, and_true, false_or, or_false, not_true_eq_false, not_false_eq_true, Classical.not_not, nar_b0, nar_b1, rz_0, rz_1, rz_i, ite01, Nat.add_zero, Nat.zero_add, Nat.one_mul, mul12, reduceIte, ra_z0, Nat.reduceEqDiff, Nat.reduceLT, Nat.reduceLeDiff, Nat.reduceAdd, Nat.reduceMul, Nat.reduceSub, Nat.reduceDiv, Nat.reduceMod, Bool.false_eq_true, false_and, and_false, reduceCtorEq, hB', Nat.lt_irrefl]
    rw [e2, nX1_settle_145]
    simp (maxSteps := 400000) (disch := omega) only [n3_l, n3_add, n3_mul, n3_sub, n3_subn, n3_lt, n3_le, n3_eq, n3_eqn, n3_neq, n3_and, n3_or, n3_shl, n3_i, n3_cl, ↓hbd_0, ↓hbd_1, ↓hbd_2, hk_ob_0, hk_rd_0, hk_rd_1, hk_rd_2, hk_al_0, hk_al_1, h3r_0, h3r_1, hk_wi_0, hk_wj_0, h3w_0, h3w_1, h3v_0, hk_kI, hk_kJ, hk_kA, hk_kB, A_eq, A_ne, A_row, B_eq, B_ne, B_row, I_eq, I_ne, J_eq, J_ne, Option.bind_some, Option.some.injEq, if_true, if_false, eq_self, true_or, or_true, true_and, and_true, false_or, or_false, not_true_eq_false, not_false_eq_true, Classical.not_not, nar_b0, nar_b1, rz_0, rz_1, rz_i, ite01, Nat.add_zero, Nat.zero_add, Nat.one_mul, mul12, reduceIte, ra_z0, Nat.reduceEqDiff, Nat.reduceLT, Nat.reduceLeDiff, Nat.reduceAdd, Nat.reduceMul, Nat.reduceSub, Nat.reduceDiv, Nat.reduceMod, Bool.false_eq_true, false_and, and_false, reduceCtorEq, j1.2.2.1 1 13 (by decide), hB', Nat.lt_irrefl]
  · intro t b h1 h2 h3
    rw [j1.1 24 (by decide)]
    rw [j1.1 25 (by decide)] at h3
    exact i2 t b h1 h2 h3
  · intro s hs
    rw [j2 s hs, if_neg]
    rintro ⟨⟨b', h1, h2⟩, h3⟩
    -- the first with that seat stands
    have key : ∀ k, k ≤ n → (∃ b', b' < k ∧ rsG se rt b' = some s) → ∃ b', b' < n ∧ howG (mkF (hk_A κ 2)) se rt b' = 4 ∧ rsG se rt b' = some s := by
      intro k
      induction k with
      | zero => rintro _ ⟨b', h, -⟩; omega
      | succ k ih =>
        rintro hk ⟨b', h, h'⟩
        by_cases hx : ∃ b', b' < k ∧ rsG se rt b' = some s
        · exact ih (by omega) hx
        · have eb : b' = k := Classical.byContradiction fun z => hx ⟨b', by omega, h'⟩
          subst eb
          exact ⟨b', by omega, (howG_4 hs0).mpr ⟨s, h', hx⟩, h'⟩
    exact h3 (key n (Nat.le_refl _) ⟨b', h1, h2⟩)
  · intro b hb; rw [j1.1 31 (by decide), j1.1 32 (by decide)]; exact i4 b hb
  · intro x hx; rw [j1.1 33 (by decide)]; exact i5 x hx
  · rw [j1.2.2.1 30 3 (by decide)]; exact i6
theorem c_settle_k {n nT fi sc y : Nat} {T : Nat → tauT} (hB : hk_I κ 1 13 = n3 n) (hn : n ≤ 40) (hfi : fi < nT) (hsc : sc < nT) (hnT : nT ≤ 8) (hN : 100000 < N) (hc : cTs κ T nT) (hX : ∀ b, b < n → factsOk (fx (hk_A κ 2) b)) (hA : cA κ (hk_A κ 2) T nT n) (hH : ∀ s, s < 5346 → hk_A κ 27 s = n3 0)
    {se : Nat → Option Nat} (hse : ∀ b, se b = seatX (T (if hk_A κ 2 (12 * b + 2) < n3 y then fi else sc)) (fx (hk_A κ 2) b)) {rt : Nat → Nat → Bool} (hrt : rt = rtB (hk_A κ 3) (hk_A κ 5) (hk_A κ 2)) :
    ∃ κ', fX1_settle N 23 34 (n3 fi) (n3 sc) (n3 y) (hp κ) = some (hp κ') ∧ same [22, 24, 25, 27, 35, 36, 37] [(34, 3)] κ κ' ∧ cA κ' (hk_A κ 2) T nT n ∧ (∀ s, s < 5346 → hk_A κ' 27 s = n3 0) ∧ (∀ b, b < n → hk_A κ' 35 b = n3 (howG (mkF (hk_A κ 2)) se rt b) ∧ hk_A κ' 36 b = seatI (se b)) ∧ (∀ x, x < 54 → hk_A κ' 37 x = loadS (mkF (hk_A κ 2)) se rt (hk_A κ 2) x n) ∧ hk_I κ' 34 3 = n3 (cnt (fun b => howG (mkF (hk_A κ 2)) se rt b = 4) n) := by
  have hs5 : ∀ b s, se b = some s → s < 5346 := fun b s h => by rw [hse b] at h; exact seatX_lt h
  have hs0 : ∀ b, mkF (hk_A κ 2) b = false → se b = none := fun b h => by
    have : hk_A κ 2 (12 * b) = -n3 1 := by simpa [mkF] using h
    rw [hse b]; unfold seatX; rw [fx_0, if_pos this]
  obtain ⟨k0, e0, s0, v0⟩ := f_fill3 N (hk_wI κ 34 3 (n3 0)) (k := 37) (n := 54) rfl (by omega) (by omega) (n3 0)
  have ss0 : same [22, 24, 25, 27, 35, 36, 37] [(34, 3)] κ k0 := ((same.refl _ _ κ).wI (by decide)).trans (s0.weak (by decide) (by decide))
  have ss0' : same [37] [(34, 3)] κ k0 := ((same.refl _ _ κ).wI (by decide)).trans (s0.weak (by decide) (by decide))
  have loop1 : ∃ r m', nX1_settle_16 N N 23 34 (n3 fi) (n3 sc) (n3 y) (n3 0) (hp k0) = nX1_settle_16 N (m' + 1) 23 34 (n3 fi) (n3 sc) (n3 y) (n3 n) (hp r) ∧ same [22, 24, 25, 27, 35, 36, 37] [(34, 3)] κ r ∧ cA r (hk_A κ 2) T nT n ∧ (∀ s, s < 5346 → hk_A r 27 s = if ∃ b', b' < n ∧ rsG se rt b' = some s then n3 1 else n3 0) ∧ (∀ b, b < n → hk_A r 35 b = n3 (howG (mkF (hk_A κ 2)) se rt b) ∧ hk_A r 36 b = seatI (se b)) ∧ (∀ x, x < 54 → hk_A r 37 x = loadS (mkF (hk_A κ 2)) se rt (hk_A κ 2) x n) ∧ hk_I r 34 3 = n3 (cnt (fun b => howG (mkF (hk_A κ 2)) se rt b = 4) n) := by
    obtain ⟨m', r, e, i⟩ := lpx (fun m b (s : hk_T) => nX1_settle_16 N m 23 34 (n3 fi) (n3 sc) (n3 y) (n3 b) (hp s)) n (fun b r => same [22, 24, 25, 27, 35, 36, 37] [(34, 3)] κ r ∧ cA r (hk_A κ 2) T nT n ∧ (∀ s, s < 5346 → hk_A r 27 s = if ∃ b', b' < b ∧ rsG se rt b' = some s then n3 1 else n3 0) ∧ (∀ b', b' < b → hk_A r 35 b' = n3 (howG (mkF (hk_A κ 2)) se rt b') ∧ hk_A r 36 b' = seatI (se b')) ∧ (∀ x, x < 54 → hk_A r 37 x = loadS (mkF (hk_A κ 2)) se rt (hk_A κ 2) x b) ∧ hk_I r 34 3 = n3 (cnt (fun b => howG (mkF (hk_A κ 2)) se rt b = 4) b)) (by
      intro m b r hb ⟨i1, i2, i3, i4, i5, i6⟩
      have eF : hk_A r 2 = hk_A κ 2 := i1.1 2 (by decide)
      have e3 : hk_A r 3 = hk_A κ 3 := i1.1 3 (by decide)
      have e5 : hk_A r 5 = hk_A κ 5 := i1.1 5 (by decide)
      have hB' : hk_I r 1 13 = n3 n := by rw [i1.2.2.1 1 13 (by decide)]; exact hB
      have c1 := cnt_le (fun b => howG (mkF (hk_A κ 2)) se rt b = 4) b
      obtain ⟨g, hg8, hg⟩ : ∃ g, g < nT ∧ g = (if hk_A κ 2 (12 * b + 2) < n3 y then fi else sc) := ⟨_, by split <;> omega, rfl⟩
      have step : nX1_settle_16 N (m + 1) 23 34 (n3 fi) (n3 sc) (n3 y) (n3 b) (hp r) = nX1_settle_48 N (nX1_settle_16 N m) 23 34 (n3 fi) (n3 sc) (n3 y) (n3 b) (n3 g) (hp r) := by
        rw [nX1_settle_16]
        simp (maxSteps := 400000) (disch := omega) only [n3_l, n3_add, n3_mul, n3_sub, n3_subn, n3_lt, n3_le, n3_eq, n3_eqn, n3_neq, n3_and, n3_or, n3_shl, n3_i, n3_cl, ↓hbd_0, ↓hbd_1, ↓hbd_2, hk_ob_0, hk_rd_0, hk_rd_1, hk_rd_2, hk_al_0, hk_al_1, h3r_0, h3r_1, hk_wi_0, hk_wj_0, h3w_0, h3w_1, h3v_0, hk_kI, hk_kJ, hk_kA, hk_kB, A_eq, A_ne, A_row, B_eq, B_ne, B_row, I_eq, I_ne, J_eq, J_ne, Option.bind_some, Option.some.injEq, if_true, if_false, eq_self, true_or, or_true, true_and, and_true, false_or, or_false, not_true_eq_false, not_false_eq_true, Classical.not_not, nar_b0, nar_b1, rz_0, rz_1, rz_i, ite01, Nat.add_zero, Nat.zero_add, Nat.one_mul, mul12, reduceIte, ra_z0, Nat.reduceEqDiff, Nat.reduceLT, Nat.reduceLeDiff, Nat.reduceAdd, Nat.reduceMul, Nat.reduceSub, Nat.reduceDiv, Nat.reduceMod, Bool.false_eq_true, false_and, and_false, reduceCtorEq, hB', hb, h_factOf, eF]
        rw [hg]
        split <;> rfl
      obtain ⟨q, q1, q2, q3⟩ := (hc.mono i1.2.2.2.1 i1.2.2.2.2.2.1) g hg8
      obtain ⟨k, f1, f2, f3, f4⟩ := c_seatOf N r (t := g) (b := b) (q := q) (τ := T g) (by omega) (by omega) hN q1 q2 q3 (by rw [eF]; exact hX b hb) (by rw [eF]; exact i2 g b hg8 hb)
      have ese : se b = seatX (T g) (fx (hk_A κ 2) b) := by rw [hse b, hg]
      rw [eF, ← ese] at f1 f4
      have hw4 := howG_le (mkF (hk_A κ 2)) se rt b
      have cA' : ∀ k', same [22, 27, 35, 36, 37] [(34, 3)] k k' → cA k' (hk_A κ 2) T nT n := by
        intro k' hk' t' b' h1 h2 h3
        rw [hk'.1 24 (by decide)]
        rw [hk'.1 25 (by decide)] at h3
        by_cases ei : t' * 40 + b' = g * 40 + b
        · have e1 : t' = g := by omega
          have e2 : b' = b := by omega
          subst e1; subst e2; rw [f4, ese]
        · rw [(f3 _ ei).1]
          rw [(f3 _ ei).2] at h3
          exact i2 t' b' h1 h2 h3
      have k27 : hk_A k 27 = hk_A r 27 := f2.1 27 (by decide)
      have ha : fX1_howAt N 23 (n3 b) (seatI (se b)) (hp (hk_wA k 36 b (seatI (se b)))) = some (n3 (howG (mkF (hk_A κ 2)) se rt b), hp (hk_wA k 36 b (seatI (se b)))) := by
        rw [c_howAt N _ (by omega) (fun s => hs5 b s)]
        congr 2
        have w2 : hk_A (hk_wA k 36 b (seatI (se b))) 2 = hk_A κ 2 := by rw [A_row (by decide), f2.1 2 (by decide), eF]
        have w3 : hk_A (hk_wA k 36 b (seatI (se b))) 3 = hk_A κ 3 := by rw [A_row (by decide), f2.1 3 (by decide), e3]
        have w5 : hk_A (hk_wA k 36 b (seatI (se b))) 5 = hk_A κ 5 := by rw [A_row (by decide), f2.1 5 (by decide), e5]
        have w27 : hk_A (hk_wA k 36 b (seatI (se b))) 27 = hk_A r 27 := by rw [A_row (by decide), k27]
        rw [w2, w3, w5, w27, ← hrt]
        unfold howG
        by_cases hm : hk_A κ 2 (12 * b) = -n3 1
        · rw [if_pos hm, if_pos (by simp [mkF, hm])]
        · rw [if_neg hm, if_neg (by simp [mkF, hm])]
          cases hq : se b with
          | none => rfl
          | some s =>
            unfold howC
            dsimp only
            by_cases hr : rt b s = true
            · rw [if_pos hr, if_pos hr, i3 s (hs5 b s hq)]
              by_cases hx : ∃ b', b' < b ∧ rsG se rt b' = some s
              · rw [if_pos hx, if_pos hx]; rfl
              · rw [if_neg hx, if_neg hx]; rfl
            · rw [if_neg hr, if_neg hr]
      by_cases c4 : howG (mkF (hk_A κ 2)) se rt b = 4
      · obtain ⟨s, r1, r2⟩ := (howG_4 hs0).mp c4
        have hqs : se b = some s := by
          unfold rsG at r1
          cases hq : se b with
          | none => rw [hq] at r1; cases r1
          | some s' => rw [hq] at r1; dsimp only at r1; split at r1
                       · exact r1
                       · cases r1
        have h5 := hs5 b s hqs
        have hsd : s / 99 < 54 := by omega
        have eI : seatI (se b) = n3 s := by rw [hqs]; rfl
        refine ⟨hk_wA (hk_wI (hk_wA (hk_wA (hk_wA k 36 b (n3 s)) 35 b (n3 4)) 27 s (n3 1)) 34 3 (n3 (cnt (fun b => howG (mkF (hk_A κ 2)) se rt b = 4) b + 1))) 37 (s / 99) (loadS (mkF (hk_A κ 2)) se rt (hk_A κ 2) (s / 99) b + hk_A κ 2 (12 * b + 3)), ?_, ?_, ?_, ?_, ?_, ?_, ?_⟩
        · rw [step]
          unfold nX1_settle_48 nX1_settle_136
          simp (maxSteps := 400000) (disch := omega) only [n3_l, n3_add, n3_mul, n3_sub, n3_subn, n3_lt, n3_le, n3_eq, n3_eqn, n3_neq, n3_and, n3_or, n3_shl, n3_i, n3_cl, ↓hbd_0, ↓hbd_1, ↓hbd_2, hk_ob_0, hk_rd_0, hk_rd_1, hk_rd_2, hk_al_0, hk_al_1, h3r_0, h3r_1, hk_wi_0, hk_wj_0, h3w_0, h3w_1, h3v_0, hk_kI, hk_kJ, hk_kA, hk_kB, A_eq, A_ne, A_row, B_eq, B_ne, B_row, I_eq, I_ne, J_eq, J_ne, Option.bind_some, Option.some.injEq, if_true, if_false, eq_self, true_or, or_true, true_and, and_true, false_or, or_false, not_true_eq_false, not_false_eq_true, Classical.not_not, nar_b0, nar_b1, rz_0, rz_1, rz_i, ite01, Nat.add_zero, Nat.zero_add, Nat.one_mul, mul12, reduceIte, ra_z0, Nat.reduceEqDiff, Nat.reduceLT, Nat.reduceLeDiff, Nat.reduceAdd, Nat.reduceMul, Nat.reduceSub, Nat.reduceDiv, Nat.reduceMod, Bool.false_eq_true, false_and, and_false, reduceCtorEq, f1]
          rw [eI] at ha
          simp (maxSteps := 400000) (disch := omega) only [n3_l, n3_add, n3_mul, n3_sub, n3_subn, n3_lt, n3_le, n3_eq, n3_eqn, n3_neq, n3_and, n3_or, n3_shl, n3_i, n3_cl, ↓hbd_0, ↓hbd_1, ↓hbd_2, hk_ob_0, hk_rd_0, hk_rd_1, hk_rd_2, hk_al_0, hk_al_1, h3r_0, h3r_1, hk_wi_0, hk_wj_0, h3w_0, h3w_1, h3v_0, hk_kI, hk_kJ, hk_kA, hk_kB, A_eq, A_ne, A_row, B_eq, B_ne, B_row, I_eq, I_ne, J_eq, J_ne, Option.bind_some, Option.some.injEq, if_true, if_false, eq_self, true_or, or_true, true_and, and_true, false_or, or_false, not_true_eq_false, not_false_eq_true, Classical.not_not, nar_b0, nar_b1, rz_0, rz_1, rz_i, ite01, Nat.add_zero, Nat.zero_add, Nat.one_mul, mul12, reduceIte, ra_z0, Nat.reduceEqDiff, Nat.reduceLT, Nat.reduceLeDiff, Nat.reduceAdd, Nat.reduceMul, Nat.reduceSub, Nat.reduceDiv, Nat.reduceMod, Bool.false_eq_true, false_and, and_false, reduceCtorEq, eI, ha, c4]
          have iST : hk_I k 34 3 = n3 (cnt (fun b => howG (mkF (hk_A κ 2)) se rt b = 4) b) := by rw [f2.2.2.1 34 3 (by decide)]; exact i6
          have iLO : hk_A k 37 (s / 99) = loadS (mkF (hk_A κ 2)) se rt (hk_A κ 2) (s / 99) b := by rw [f2.1 37 (by decide)]; exact i5 _ hsd
          have i2' : hk_A k 2 = hk_A κ 2 := by rw [f2.1 2 (by decide), eF]
          simp (maxSteps := 400000) (disch := omega) only [n3_l, n3_add, n3_mul, n3_sub, n3_subn, n3_lt, n3_le, n3_eq, n3_eqn, n3_neq, n3_and, n3_or, n3_shl, n3_i, n3_cl, ↓hbd_0, ↓hbd_1, ↓hbd_2, hk_ob_0, hk_rd_0, hk_rd_1, hk_rd_2, hk_al_0, hk_al_1, h3r_0, h3r_1, hk_wi_0, hk_wj_0, h3w_0, h3w_1, h3v_0, hk_kI, hk_kJ, hk_kA, hk_kB, A_eq, A_ne, A_row, B_eq, B_ne, B_row, I_eq, I_ne, J_eq, J_ne, Option.bind_some, Option.some.injEq, if_true, if_false, eq_self, true_or, or_true, true_and, and_true, false_or, or_false, not_true_eq_false, not_false_eq_true, Classical.not_not, nar_b0, nar_b1, rz_0, rz_1, rz_i, ite01, Nat.add_zero, Nat.zero_add, Nat.one_mul, mul12, reduceIte, ra_z0, Nat.reduceEqDiff, Nat.reduceLT, Nat.reduceLeDiff, Nat.reduceAdd, Nat.reduceMul, Nat.reduceSub, Nat.reduceDiv, Nat.reduceMod, Bool.false_eq_true, false_and, and_false, reduceCtorEq, iST, n3_div, iLO, h_factOf, i2']
        · exact (((((i1.trans (f2.weak (by decide) (by decide))).wA (by decide)).wA (by decide)).wA (by decide)).wI (by decide)).wA (by decide)
        · exact cA' _ ((((((same.refl _ _ k).wA (by decide)).wA (by decide)).wA (by decide)).wI (by decide)).wA (by decide))
        · intro z hz
          by_cases ez : z = s
          · subst ez
            have hx : ∃ b', b' < b + 1 ∧ rsG se rt b' = some z := ⟨b, by omega, r1⟩
            rw [if_pos hx]; simp (maxSteps := 400000) (disch := omega) only [n3_l, n3_add, n3_mul, n3_sub, n3_subn, n3_lt, n3_le, n3_eq, n3_eqn, n3_neq, n3_and, n3_or, n3_shl, n3_i, n3_cl, ↓hbd_0, ↓hbd_1, ↓hbd_2, hk_ob_0, hk_rd_0, hk_rd_1, hk_rd_2, hk_al_0, hk_al_1, h3r_0, h3r_1, hk_wi_0, hk_wj_0, h3w_0, h3w_1, h3v_0, hk_kI, hk_kJ, hk_kA, hk_kB, A_eq, A_ne, A_row, B_eq, B_ne, B_row, I_eq, I_ne, J_eq, J_ne, Option.bind_some, Option.some.injEq, if_true, if_false, eq_self, true_or, or_true, true_and, and_true, false_or, or_false, not_true_eq_false, not_false_eq_true, Classical.not_not, nar_b0, nar_b1, rz_0, rz_1, rz_i, ite01, Nat.add_zero, Nat.zero_add, Nat.one_mul, mul12, reduceIte, ra_z0, Nat.reduceEqDiff, Nat.reduceLT, Nat.reduceLeDiff, Nat.reduceAdd, Nat.reduceMul, Nat.reduceSub, Nat.reduceDiv, Nat.reduceMod, Bool.false_eq_true, false_and, and_false, reduceCtorEq]
          · have hx : (∃ b', b' < b + 1 ∧ rsG se rt b' = some z) ↔ ∃ b', b' < b ∧ rsG se rt b' = some z := by
              constructor
              · rintro ⟨b', a1, a2⟩
                by_cases eb : b' = b
                · subst eb; rw [r1] at a2; cases a2; exact absurd rfl ez
                · exact ⟨b', by omega, a2⟩
              · rintro ⟨b', a1, a2⟩; exact ⟨b', by omega, a2⟩
            simp only [hx]
            simp (maxSteps := 400000) (disch := omega) only [n3_l, n3_add, n3_mul, n3_sub, n3_subn, n3_lt, n3_le, n3_eq, n3_eqn, n3_neq, n3_and, n3_or, n3_shl, n3_i, n3_cl, ↓hbd_0, ↓hbd_1, ↓hbd_2, hk_ob_0, hk_rd_0, hk_rd_1, hk_rd_2, hk_al_0, hk_al_1, h3r_0, h3r_1, hk_wi_0, hk_wj_0, h3w_0, h3w_1, h3v_0, hk_kI, hk_kJ, hk_kA, hk_kB, A_eq, A_ne, A_row, B_eq, B_ne, B_row, I_eq, I_ne, J_eq, J_ne, Option.bind_some, Option.some.injEq, if_true, if_false, eq_self, true_or, or_true, true_and, and_true, false_or, or_false, not_true_eq_false, not_false_eq_true, Classical.not_not, nar_b0, nar_b1, rz_0, rz_1, rz_i, ite01, Nat.add_zero, Nat.zero_add, Nat.one_mul, mul12, reduceIte, ra_z0, Nat.reduceEqDiff, Nat.reduceLT, Nat.reduceLeDiff, Nat.reduceAdd, Nat.reduceMul, Nat.reduceSub, Nat.reduceDiv, Nat.reduceMod, Bool.false_eq_true, false_and, and_false, reduceCtorEq, k27]
            exact i3 z hz
        · intro b' hb'
          by_cases eb : b' = b
          · subst eb; rw [c4, eI]; constructor <;> simp (maxSteps := 400000) (disch := omega) only [n3_l, n3_add, n3_mul, n3_sub, n3_subn, n3_lt, n3_le, n3_eq, n3_eqn, n3_neq, n3_and, n3_or, n3_shl, n3_i, n3_cl, ↓hbd_0, ↓hbd_1, ↓hbd_2, hk_ob_0, hk_rd_0, hk_rd_1, hk_rd_2, hk_al_0, hk_al_1, h3r_0, h3r_1, hk_wi_0, hk_wj_0, h3w_0, h3w_1, h3v_0, hk_kI, hk_kJ, hk_kA, hk_kB, A_eq, A_ne, A_row, B_eq, B_ne, B_row, I_eq, I_ne, J_eq, J_ne, Option.bind_some, Option.some.injEq, if_true, if_false, eq_self, true_or, or_true, true_and, and_true, false_or, or_false, not_true_eq_false, not_false_eq_true, Classical.not_not, nar_b0, nar_b1, rz_0, rz_1, rz_i, ite01, Nat.add_zero, Nat.zero_add, Nat.one_mul, mul12, reduceIte, ra_z0, Nat.reduceEqDiff, Nat.reduceLT, Nat.reduceLeDiff, Nat.reduceAdd, Nat.reduceMul, Nat.reduceSub, Nat.reduceDiv, Nat.reduceMod, Bool.false_eq_true, false_and, and_false, reduceCtorEq]
          · have := i4 b' (by omega)
            rw [← f2.1 35 (by decide), ← f2.1 36 (by decide)] at this
            constructor
            · simp (maxSteps := 400000) (disch := omega) only [n3_l, n3_add, n3_mul, n3_sub, n3_subn, n3_lt, n3_le, n3_eq, n3_eqn, n3_neq, n3_and, n3_or, n3_shl, n3_i, n3_cl, ↓hbd_0, ↓hbd_1, ↓hbd_2, hk_ob_0, hk_rd_0, hk_rd_1, hk_rd_2, hk_al_0, hk_al_1, h3r_0, h3r_1, hk_wi_0, hk_wj_0, h3w_0, h3w_1, h3v_0, hk_kI, hk_kJ, hk_kA, hk_kB, A_eq, A_ne, A_row, B_eq, B_ne, B_row, I_eq, I_ne, J_eq, J_ne, Option.bind_some, Option.some.injEq, if_true, if_false, eq_self, true_or, or_true, true_and, and_true, false_or, or_false, not_true_eq_false, not_false_eq_true, Classical.not_not, nar_b0, nar_b1, rz_0, rz_1, rz_i, ite01, Nat.add_zero, Nat.zero_add, Nat.one_mul, mul12, reduceIte, ra_z0, Nat.reduceEqDiff, Nat.reduceLT, Nat.reduceLeDiff, Nat.reduceAdd, Nat.reduceMul, Nat.reduceSub, Nat.reduceDiv, Nat.reduceMod, Bool.false_eq_true, false_and, and_false, reduceCtorEq, this.1]
            · simp (maxSteps := 400000) (disch := omega) only [n3_l, n3_add, n3_mul, n3_sub, n3_subn, n3_lt, n3_le, n3_eq, n3_eqn, n3_neq, n3_and, n3_or, n3_shl, n3_i, n3_cl, ↓hbd_0, ↓hbd_1, ↓hbd_2, hk_ob_0, hk_rd_0, hk_rd_1, hk_rd_2, hk_al_0, hk_al_1, h3r_0, h3r_1, hk_wi_0, hk_wj_0, h3w_0, h3w_1, h3v_0, hk_kI, hk_kJ, hk_kA, hk_kB, A_eq, A_ne, A_row, B_eq, B_ne, B_row, I_eq, I_ne, J_eq, J_ne, Option.bind_some, Option.some.injEq, if_true, if_false, eq_self, true_or, or_true, true_and, and_true, false_or, or_false, not_true_eq_false, not_false_eq_true, Classical.not_not, nar_b0, nar_b1, rz_0, rz_1, rz_i, ite01, Nat.add_zero, Nat.zero_add, Nat.one_mul, mul12, reduceIte, ra_z0, Nat.reduceEqDiff, Nat.reduceLT, Nat.reduceLeDiff, Nat.reduceAdd, Nat.reduceMul, Nat.reduceSub, Nat.reduceDiv, Nat.reduceMod, Bool.false_eq_true, false_and, and_false, reduceCtorEq, this.2]
        · intro x hx
          unfold loadS
          rw [fo_last, Nat.zero_add]
          by_cases ex : x = s / 99
          · subst ex
            have : howG (mkF (hk_A κ 2)) se rt b = 4 ∧ shO (se b) = s / 99 := ⟨c4, by rw [hqs]; rfl⟩
            rw [if_pos this]
            simp (maxSteps := 400000) (disch := omega) only [n3_l, n3_add, n3_mul, n3_sub, n3_subn, n3_lt, n3_le, n3_eq, n3_eqn, n3_neq, n3_and, n3_or, n3_shl, n3_i, n3_cl, ↓hbd_0, ↓hbd_1, ↓hbd_2, hk_ob_0, hk_rd_0, hk_rd_1, hk_rd_2, hk_al_0, hk_al_1, h3r_0, h3r_1, hk_wi_0, hk_wj_0, h3w_0, h3w_1, h3v_0, hk_kI, hk_kJ, hk_kA, hk_kB, A_eq, A_ne, A_row, B_eq, B_ne, B_row, I_eq, I_ne, J_eq, J_ne, Option.bind_some, Option.some.injEq, if_true, if_false, eq_self, true_or, or_true, true_and, and_true, false_or, or_false, not_true_eq_false, not_false_eq_true, Classical.not_not, nar_b0, nar_b1, rz_0, rz_1, rz_i, ite01, Nat.add_zero, Nat.zero_add, Nat.one_mul, mul12, reduceIte, ra_z0, Nat.reduceEqDiff, Nat.reduceLT, Nat.reduceLeDiff, Nat.reduceAdd, Nat.reduceMul, Nat.reduceSub, Nat.reduceDiv, Nat.reduceMod, Bool.false_eq_true, false_and, and_false, reduceCtorEq]
          · have : ¬ (howG (mkF (hk_A κ 2)) se rt b = 4 ∧ shO (se b) = x) := fun z => ex (by rw [← z.2, hqs]; rfl)
            rw [if_neg this]
            simp (maxSteps := 400000) (disch := omega) only [n3_l, n3_add, n3_mul, n3_sub, n3_subn, n3_lt, n3_le, n3_eq, n3_eqn, n3_neq, n3_and, n3_or, n3_shl, n3_i, n3_cl, ↓hbd_0, ↓hbd_1, ↓hbd_2, hk_ob_0, hk_rd_0, hk_rd_1, hk_rd_2, hk_al_0, hk_al_1, h3r_0, h3r_1, hk_wi_0, hk_wj_0, h3w_0, h3w_1, h3v_0, hk_kI, hk_kJ, hk_kA, hk_kB, A_eq, A_ne, A_row, B_eq, B_ne, B_row, I_eq, I_ne, J_eq, J_ne, Option.bind_some, Option.some.injEq, if_true, if_false, eq_self, true_or, or_true, true_and, and_true, false_or, or_false, not_true_eq_false, not_false_eq_true, Classical.not_not, nar_b0, nar_b1, rz_0, rz_1, rz_i, ite01, Nat.add_zero, Nat.zero_add, Nat.one_mul, mul12, reduceIte, ra_z0, Nat.reduceEqDiff, Nat.reduceLT, Nat.reduceLeDiff, Nat.reduceAdd, Nat.reduceMul, Nat.reduceSub, Nat.reduceDiv, Nat.reduceMod, Bool.false_eq_true, false_and, and_false, reduceCtorEq, f2.1 37 (by decide)]
            exact i5 x hx
        · rw [cnt, if_pos c4]; simp (maxSteps := 400000) (disch := omega) only [n3_l, n3_add, n3_mul, n3_sub, n3_subn, n3_lt, n3_le, n3_eq, n3_eqn, n3_neq, n3_and, n3_or, n3_shl, n3_i, n3_cl, ↓hbd_0, ↓hbd_1, ↓hbd_2, hk_ob_0, hk_rd_0, hk_rd_1, hk_rd_2, hk_al_0, hk_al_1, h3r_0, h3r_1, hk_wi_0, hk_wj_0, h3w_0, h3w_1, h3v_0, hk_kI, hk_kJ, hk_kA, hk_kB, A_eq, A_ne, A_row, B_eq, B_ne, B_row, I_eq, I_ne, J_eq, J_ne, Option.bind_some, Option.some.injEq, if_true, if_false, eq_self, true_or, or_true, true_and, and_true, false_or, or_false, not_true_eq_false, not_false_eq_true, Classical.not_not, nar_b0, nar_b1, rz_0, rz_1, rz_i, ite01, Nat.add_zero, Nat.zero_add, Nat.one_mul, mul12, reduceIte, ra_z0, Nat.reduceEqDiff, Nat.reduceLT, Nat.reduceLeDiff, Nat.reduceAdd, Nat.reduceMul, Nat.reduceSub, Nat.reduceDiv, Nat.reduceMod, Bool.false_eq_true, false_and, and_false, reduceCtorEq]
      · refine ⟨hk_wA (hk_wA k 36 b (seatI (se b))) 35 b (n3 (howG (mkF (hk_A κ 2)) se rt b)), ?_, ?_, ?_, ?_, ?_, ?_, ?_⟩
        · rw [step]
          unfold nX1_settle_48 nX1_settle_136
          simp (maxSteps := 400000) (disch := omega) only [n3_l, n3_add, n3_mul, n3_sub, n3_subn, n3_lt, n3_le, n3_eq, n3_eqn, n3_neq, n3_and, n3_or, n3_shl, n3_i, n3_cl, ↓hbd_0, ↓hbd_1, ↓hbd_2, hk_ob_0, hk_rd_0, hk_rd_1, hk_rd_2, hk_al_0, hk_al_1, h3r_0, h3r_1, hk_wi_0, hk_wj_0, h3w_0, h3w_1, h3v_0, hk_kI, hk_kJ, hk_kA, hk_kB, A_eq, A_ne, A_row, B_eq, B_ne, B_row, I_eq, I_ne, J_eq, J_ne, Option.bind_some, Option.some.injEq, if_true, if_false, eq_self, true_or, or_true, true_and, and_true, false_or, or_false, not_true_eq_false, not_false_eq_true, Classical.not_not, nar_b0, nar_b1, rz_0, rz_1, rz_i, ite01, Nat.add_zero, Nat.zero_add, Nat.one_mul, mul12, reduceIte, ra_z0, Nat.reduceEqDiff, Nat.reduceLT, Nat.reduceLeDiff, Nat.reduceAdd, Nat.reduceMul, Nat.reduceSub, Nat.reduceDiv, Nat.reduceMod, Bool.false_eq_true, false_and, and_false, reduceCtorEq, f1]
          simp (maxSteps := 400000) (disch := omega) only [n3_l, n3_add, n3_mul, n3_sub, n3_subn, n3_lt, n3_le, n3_eq, n3_eqn, n3_neq, n3_and, n3_or, n3_shl, n3_i, n3_cl, ↓hbd_0, ↓hbd_1, ↓hbd_2, hk_ob_0, hk_rd_0, hk_rd_1, hk_rd_2, hk_al_0, hk_al_1, h3r_0, h3r_1, hk_wi_0, hk_wj_0, h3w_0, h3w_1, h3v_0, hk_kI, hk_kJ, hk_kA, hk_kB, A_eq, A_ne, A_row, B_eq, B_ne, B_row, I_eq, I_ne, J_eq, J_ne, Option.bind_some, Option.some.injEq, if_true, if_false, eq_self, true_or, or_true, true_and, and_true, false_or, or_false, not_true_eq_false, not_false_eq_true, Classical.not_not, nar_b0, nar_b1, rz_0, rz_1, rz_i, ite01, Nat.add_zero, Nat.zero_add, Nat.one_mul, mul12, reduceIte, ra_z0, Nat.reduceEqDiff, Nat.reduceLT, Nat.reduceLeDiff, Nat.reduceAdd, Nat.reduceMul, Nat.reduceSub, Nat.reduceDiv, Nat.reduceMod, Bool.false_eq_true, false_and, and_false, reduceCtorEq, ha, c4]
        · exact ((i1.trans (f2.weak (by decide) (by decide))).wA (by decide)).wA (by decide)
        · exact cA' _ (((same.refl _ _ k).wA (by decide)).wA (by decide))
        · intro z hz
          have hx : (∃ b', b' < b + 1 ∧ rsG se rt b' = some z) ↔ ∃ b', b' < b ∧ rsG se rt b' = some z := by
            constructor
            · rintro ⟨b', a1, a2⟩
              by_cases eb : b' = b
              · subst eb
                by_cases hy : ∃ b2, b2 < b' ∧ rsG se rt b2 = some z
                · exact hy
                · exact absurd ((howG_4 hs0).mpr ⟨z, a2, hy⟩) c4
              · exact ⟨b', by omega, a2⟩
            · rintro ⟨b', a1, a2⟩; exact ⟨b', by omega, a2⟩
          simp only [hx]
          simp (maxSteps := 400000) (disch := omega) only [n3_l, n3_add, n3_mul, n3_sub, n3_subn, n3_lt, n3_le, n3_eq, n3_eqn, n3_neq, n3_and, n3_or, n3_shl, n3_i, n3_cl, ↓hbd_0, ↓hbd_1, ↓hbd_2, hk_ob_0, hk_rd_0, hk_rd_1, hk_rd_2, hk_al_0, hk_al_1, h3r_0, h3r_1, hk_wi_0, hk_wj_0, h3w_0, h3w_1, h3v_0, hk_kI, hk_kJ, hk_kA, hk_kB, A_eq, A_ne, A_row, B_eq, B_ne, B_row, I_eq, I_ne, J_eq, J_ne, Option.bind_some, Option.some.injEq, if_true, if_false, eq_self, true_or, or_true, true_and, and_true, false_or, or_false, not_true_eq_false, not_false_eq_true, Classical.not_not, nar_b0, nar_b1, rz_0, rz_1, rz_i, ite01, Nat.add_zero, Nat.zero_add, Nat.one_mul, mul12, reduceIte, ra_z0, Nat.reduceEqDiff, Nat.reduceLT, Nat.reduceLeDiff, Nat.reduceAdd, Nat.reduceMul, Nat.reduceSub, Nat.reduceDiv, Nat.reduceMod, Bool.false_eq_true, false_and, and_false, reduceCtorEq, k27]
          exact i3 z hz
        · intro b' hb'
          by_cases eb : b' = b
          · subst eb; constructor <;> simp (maxSteps := 400000) (disch := omega) only [n3_l, n3_add, n3_mul, n3_sub, n3_subn, n3_lt, n3_le, n3_eq, n3_eqn, n3_neq, n3_and, n3_or, n3_shl, n3_i, n3_cl, ↓hbd_0, ↓hbd_1, ↓hbd_2, hk_ob_0, hk_rd_0, hk_rd_1, hk_rd_2, hk_al_0, hk_al_1, h3r_0, h3r_1, hk_wi_0, hk_wj_0, h3w_0, h3w_1, h3v_0, hk_kI, hk_kJ, hk_kA, hk_kB, A_eq, A_ne, A_row, B_eq, B_ne, B_row, I_eq, I_ne, J_eq, J_ne, Option.bind_some, Option.some.injEq, if_true, if_false, eq_self, true_or, or_true, true_and, and_true, false_or, or_false, not_true_eq_false, not_false_eq_true, Classical.not_not, nar_b0, nar_b1, rz_0, rz_1, rz_i, ite01, Nat.add_zero, Nat.zero_add, Nat.one_mul, mul12, reduceIte, ra_z0, Nat.reduceEqDiff, Nat.reduceLT, Nat.reduceLeDiff, Nat.reduceAdd, Nat.reduceMul, Nat.reduceSub, Nat.reduceDiv, Nat.reduceMod, Bool.false_eq_true, false_and, and_false, reduceCtorEq]
          · have := i4 b' (by omega)
            rw [← f2.1 35 (by decide), ← f2.1 36 (by decide)] at this
            constructor
            · simp (maxSteps := 400000) (disch := omega) only [n3_l, n3_add, n3_mul, n3_sub, n3_subn, n3_lt, n3_le, n3_eq, n3_eqn, n3_neq, n3_and, n3_or, n3_shl, n3_i, n3_cl, ↓hbd_0, ↓hbd_1, ↓hbd_2, hk_ob_0, hk_rd_0, hk_rd_1, hk_rd_2, hk_al_0, hk_al_1, h3r_0, h3r_1, hk_wi_0, hk_wj_0, h3w_0, h3w_1, h3v_0, hk_kI, hk_kJ, hk_kA, hk_kB, A_eq, A_ne, A_row, B_eq, B_ne, B_row, I_eq, I_ne, J_eq, J_ne, Option.bind_some, Option.some.injEq, if_true, if_false, eq_self, true_or, or_true, true_and, and_true, false_or, or_false, not_true_eq_false, not_false_eq_true, Classical.not_not, nar_b0, nar_b1, rz_0, rz_1, rz_i, ite01, Nat.add_zero, Nat.zero_add, Nat.one_mul, mul12, reduceIte, ra_z0, Nat.reduceEqDiff, Nat.reduceLT, Nat.reduceLeDiff, Nat.reduceAdd, Nat.reduceMul, Nat.reduceSub, Nat.reduceDiv, Nat.reduceMod, Bool.false_eq_true, false_and, and_false, reduceCtorEq, this.1]
            · simp (maxSteps := 400000) (disch := omega) only [n3_l, n3_add, n3_mul, n3_sub, n3_subn, n3_lt, n3_le, n3_eq, n3_eqn, n3_neq, n3_and, n3_or, n3_shl, n3_i, n3_cl, ↓hbd_0, ↓hbd_1, ↓hbd_2, hk_ob_0, hk_rd_0, hk_rd_1, hk_rd_2, hk_al_0, hk_al_1, h3r_0, h3r_1, hk_wi_0, hk_wj_0, h3w_0, h3w_1, h3v_0, hk_kI, hk_kJ, hk_kA, hk_kB, A_eq, A_ne, A_row, B_eq, B_ne, B_row, I_eq, I_ne, J_eq, J_ne, Option.bind_some, Option.some.injEq, if_true, if_false, eq_self, true_or, or_true, true_and, and_true, false_or, or_false, not_true_eq_false, not_false_eq_true, Classical.not_not, nar_b0, nar_b1, rz_0, rz_1, rz_i, ite01, Nat.add_zero, Nat.zero_add, Nat.one_mul, mul12, reduceIte, ra_z0, Nat.reduceEqDiff, Nat.reduceLT, Nat.reduceLeDiff, Nat.reduceAdd, Nat.reduceMul, Nat.reduceSub, Nat.reduceDiv, Nat.reduceMod, Bool.false_eq_true, false_and, and_false, reduceCtorEq, this.2]
        · intro x hx
          unfold loadS
          rw [fo_last, Nat.zero_add, if_neg (fun z => c4 z.1)]
          simp (maxSteps := 400000) (disch := omega) only [n3_l, n3_add, n3_mul, n3_sub, n3_subn, n3_lt, n3_le, n3_eq, n3_eqn, n3_neq, n3_and, n3_or, n3_shl, n3_i, n3_cl, ↓hbd_0, ↓hbd_1, ↓hbd_2, hk_ob_0, hk_rd_0, hk_rd_1, hk_rd_2, hk_al_0, hk_al_1, h3r_0, h3r_1, hk_wi_0, hk_wj_0, h3w_0, h3w_1, h3v_0, hk_kI, hk_kJ, hk_kA, hk_kB, A_eq, A_ne, A_row, B_eq, B_ne, B_row, I_eq, I_ne, J_eq, J_ne, Option.bind_some, Option.some.injEq, if_true, if_false, eq_self, true_or, or_true, true_and, and_true, false_or, or_false, not_true_eq_false, not_false_eq_true, Classical.not_not, nar_b0, nar_b1, rz_0, rz_1, rz_i, ite01, Nat.add_zero, Nat.zero_add, Nat.one_mul, mul12, reduceIte, ra_z0, Nat.reduceEqDiff, Nat.reduceLT, Nat.reduceLeDiff, Nat.reduceAdd, Nat.reduceMul, Nat.reduceSub, Nat.reduceDiv, Nat.reduceMod, Bool.false_eq_true, false_and, and_false, reduceCtorEq, f2.1 37 (by decide)]
          exact i5 x hx
        · rw [cnt, if_neg c4]; simp (maxSteps := 400000) (disch := omega) only [n3_l, n3_add, n3_mul, n3_sub, n3_subn, n3_lt, n3_le, n3_eq, n3_eqn, n3_neq, n3_and, n3_or, n3_shl, n3_i, n3_cl, ↓hbd_0, ↓hbd_1, ↓hbd_2, hk_ob_0, hk_rd_0, hk_rd_1, hk_rd_2, hk_al_0, hk_al_1, h3r_0, h3r_1, hk_wi_0, hk_wj_0, h3w_0, h3w_1, h3v_0, hk_kI, hk_kJ, hk_kA, hk_kB, A_eq, A_ne, A_row, B_eq, B_ne, B_row, I_eq, I_ne, J_eq, J_ne, Option.bind_some, Option.some.injEq, if_true, if_false, eq_self, true_or, or_true, true_and, and_true, false_or, or_false, not_true_eq_false, not_false_eq_true, Classical.not_not, nar_b0, nar_b1, rz_0, rz_1, rz_i, ite01, Nat.add_zero, Nat.zero_add, Nat.one_mul, mul12, reduceIte, ra_z0, Nat.reduceEqDiff, Nat.reduceLT, Nat.reduceLeDiff, Nat.reduceAdd, Nat.reduceMul, Nat.reduceSub, Nat.reduceDiv, Nat.reduceMod, Bool.false_eq_true, false_and, and_false, reduceCtorEq, f2.2.2.1 34 3 (by decide)]; exact i6) n 0 N k0 (by omega) (by omega) ⟨ss0, by
          intro t b h1 h2 h3
          rw [ss0'.1 24 (by decide)]
          rw [ss0'.1 25 (by decide)] at h3
          exact hA t b h1 h2 h3, fun s hs => by
          rw [ss0'.1 27 (by decide), hH s hs, if_neg (by rintro ⟨b', h, -⟩; omega)], fun b' h => by omega, fun x hx => by rw [v0 x, if_pos hx]; rfl, by rw [s0.2.2.1 34 3 (by decide)]; simp (maxSteps := 400000) (disch := omega) only [n3_l, n3_add, n3_mul, n3_sub, n3_subn, n3_lt, n3_le, n3_eq, n3_eqn, n3_neq, n3_and, n3_or, n3_shl, n3_i, n3_cl, ↓hbd_0, ↓hbd_1, ↓hbd_2, hk_ob_0, hk_rd_0, hk_rd_1, hk_rd_2, hk_al_0, hk_al_1, h3r_0, h3r_1, hk_wi_0, hk_wj_0, h3w_0, h3w_1, h3v_0, hk_kI, hk_kJ, hk_kA, hk_kB, A_eq, A_ne, A_row, B_eq, B_ne, B_row, I_eq, I_ne, J_eq, J_ne, Option.bind_some, Option.some.injEq, if_true, if_false, eq_self, true_or, or_true, true_and, and_true, false_or, or_false, not_true_eq_false, not_false_eq_true, Classical.not_not, nar_b0, nar_b1, rz_0, rz_1, rz_i, ite01, Nat.add_zero, Nat.zero_add, Nat.one_mul, mul12, reduceIte, ra_z0, Nat.reduceEqDiff, Nat.reduceLT, Nat.reduceLeDiff, Nat.reduceAdd, Nat.reduceMul, Nat.reduceSub, Nat.reduceDiv, Nat.reduceMod, Bool.false_eq_true, false_and, and_false, reduceCtorEq]; rfl⟩
    exact ⟨r, m', e, i⟩
  obtain ⟨r, m', er, i1, i2, i3, i4, i5, i6⟩ := loop1
  have hB' : hk_I r 1 13 = n3 n := by rw [i1.2.2.1 1 13 (by decide)]; exact hB
  obtain ⟨m2, r2, e2, j1, j2⟩ := lpx (fun m b (s : hk_T) => nX1_settle_145 N m 23 34 (n3 b) (hp s)) n (fun b r' => same [27] [] r r' ∧ ∀ s, s < 5346 → hk_A r' 27 s = if (∃ b', b' < n ∧ rsG se rt b' = some s) ∧ ¬ (∃ b', b' < b ∧ howG (mkF (hk_A κ 2)) se rt b' = 4 ∧ rsG se rt b' = some s) then n3 1 else n3 0) (by
    intro m b r' hb ⟨j1, j2⟩
    have hB2 : hk_I r' 1 13 = n3 n := by rw [j1.2.2.1 1 13 (by decide)]; exact hB'
    have hw4 := howG_le (mkF (hk_A κ 2)) se rt b
    obtain ⟨g1, g2⟩ := i4 b hb
    rw [← j1.1 35 (by decide)] at g1
    rw [← j1.1 36 (by decide)] at g2
    by_cases c4 : howG (mkF (hk_A κ 2)) se rt b = 4
    · obtain ⟨s, r1, -⟩ := (howG_4 hs0).mp c4
      have hqs : se b = some s := by
        unfold rsG at r1
        cases hq : se b with
        | none => rw [hq] at r1; cases r1
        | some s' => rw [hq] at r1; dsimp only at r1; split at r1
                     · exact r1
                     · cases r1
      have h5 := hs5 b s hqs
      have eI : seatI (se b) = n3 s := by rw [hqs]; rfl
      rw [c4] at g1
      rw [eI] at g2
      refine ⟨hk_wA r' 27 s (n3 0), ?_, j1.wA (by decide), ?_⟩
      · rw [nX1_settle_145]
        simp (maxSteps := 400000) (disch := omega) only [n3_l, n3_add, n3_mul, n3_sub, n3_subn, n3_lt, n3_le, n3_eq, n3_eqn, n3_neq, n3_and, n3_or, n3_shl, n3_i, n3_cl, ↓hbd_0, ↓hbd_1, ↓hbd_2, hk_ob_0, hk_rd_0, hk_rd_1, hk_rd_2, hk_al_0, hk_al_1, h3r_0, h3r_1, hk_wi_0, hk_wj_0, h3w_0, h3w_1, h3v_0, hk_kI, hk_kJ, hk_kA, hk_kB, A_eq, A_ne, A_row, B_eq, B_ne, B_row, I_eq, I_ne, J_eq, J_ne, Option.bind_some, Option.some.injEq, if_true, if_false, eq_self, true_or, or_true, true_and, and_true, false_or, or_false, not_true_eq_false, not_false_eq_true, Classical.not_not, nar_b0, nar_b1, rz_0, rz_1, rz_i, ite01, Nat.add_zero, Nat.zero_add, Nat.one_mul, mul12, reduceIte, ra_z0, Nat.reduceEqDiff, Nat.reduceLT, Nat.reduceLeDiff, Nat.reduceAdd, Nat.reduceMul, Nat.reduceSub, Nat.reduceDiv, Nat.reduceMod, Bool.false_eq_true, false_and, and_false, reduceCtorEq, hB2, hb, g1, g2, nX1_settle_181]
      · intro z hz
        by_cases ez : z = s
        · subst ez
          rw [if_neg (fun q => q.2 ⟨b, by omega, c4, r1⟩)]; simp (maxSteps := 400000) (disch := omega) only [n3_l, n3_add, n3_mul, n3_sub, n3_subn, n3_lt, n3_le, n3_eq, n3_eqn, n3_neq, n3_and, n3_or, n3_shl, n3_i, n3_cl, ↓hbd_0, ↓hbd_1, ↓hbd_2, hk_ob_0, hk_rd_0, hk_rd_1, hk_rd_2, hk_al_0, hk_al_1, h3r_0, h3r_1, hk_wi_0, hk_wj_0, h3w_0, h3w_1, h3v_0, hk_kI, hk_kJ, hk_kA, hk_kB, A_eq, A_ne, A_row, B_eq, B_ne, B_row, I_eq, I_ne, J_eq, J_ne, Option.bind_some, Option.some.injEq, if_true, if_false, eq_self, true_or, or_true, true_and, and_true, false_or, or_false, not_true_eq_false, not_false_eq_true, Classical.not_not, nar_b0, nar_b1, rz_0, rz_1, rz_i, ite01, Nat.add_zero, Nat.zero_add, Nat.one_mul, mul12, reduceIte, ra_z0, Nat.reduceEqDiff, Nat.reduceLT, Nat.reduceLeDiff, Nat.reduceAdd, Nat.reduceMul, Nat.reduceSub, Nat.reduceDiv, Nat.reduceMod, Bool.false_eq_true, false_and, and_false, reduceCtorEq]
        · rw [A_ne (Or.inr ez), j2 z hz]
          have : (∃ b', b' < b + 1 ∧ howG (mkF (hk_A κ 2)) se rt b' = 4 ∧ rsG se rt b' = some z) ↔ ∃ b', b' < b ∧ howG (mkF (hk_A κ 2)) se rt b' = 4 ∧ rsG se rt b' = some z := by
            constructor
            · rintro ⟨b', a1, a2, a3⟩
              by_cases eb : b' = b
              · subst eb; rw [r1] at a3; cases a3; exact absurd rfl ez
              · exact ⟨b', by omega, a2, a3⟩
            · rintro ⟨b', a1, a2, a3⟩; exact ⟨b', by omega, a2, a3⟩
          simp only [this]
    · refine ⟨r', ?_, j1, ?_⟩
      · rw [nX1_settle_145]
        simp (maxSteps := 400000) (disch := omega) only [n3_l, n3_add, n3_mul, n3_sub, n3_subn, n3_lt, n3_le, n3_eq, n3_eqn, n3_neq, n3_and, n3_or, n3_shl, n3_i, n3_cl, ↓hbd_0, ↓hbd_1, ↓hbd_2, hk_ob_0, hk_rd_0, hk_rd_1, hk_rd_2, hk_al_0, hk_al_1, h3r_0, h3r_1, hk_wi_0, hk_wj_0, h3w_0, h3w_1, h3v_0, hk_kI, hk_kJ, hk_kA, hk_kB, A_eq, A_ne, A_row, B_eq, B_ne, B_row, I_eq, I_ne, J_eq, J_ne, Option.bind_some, Option.some.injEq, if_true, if_false, eq_self, true_or, or_true, true_and, and_true, false_or, or_false, not_true_eq_false, not_false_eq_true, Classical.not_not, nar_b0, nar_b1, rz_0, rz_1, rz_i, ite01, Nat.add_zero, Nat.zero_add, Nat.one_mul, mul12, reduceIte, ra_z0, Nat.reduceEqDiff, Nat.reduceLT, Nat.reduceLeDiff, Nat.reduceAdd, Nat.reduceMul, Nat.reduceSub, Nat.reduceDiv, Nat.reduceMod, Bool.false_eq_true, false_and, and_false, reduceCtorEq, hB2, hb, g1, c4, nX1_settle_181]
      · intro z hz
        rw [j2 z hz]
        have : (∃ b', b' < b + 1 ∧ howG (mkF (hk_A κ 2)) se rt b' = 4 ∧ rsG se rt b' = some z) ↔ ∃ b', b' < b ∧ howG (mkF (hk_A κ 2)) se rt b' = 4 ∧ rsG se rt b' = some z := by
          constructor
          · rintro ⟨b', a1, a2, a3⟩
            by_cases eb : b' = b
            · subst eb; exact absurd a2 c4
            · exact ⟨b', by omega, a2, a3⟩
          · rintro ⟨b', a1, a2, a3⟩; exact ⟨b', by omega, a2, a3⟩
        simp only [this]) n 0 N r (by omega) (by omega) ⟨same.refl _ _ _, fun s hs => by
      rw [i3 s hs]
      have : ¬ ∃ b', b' < 0 ∧ howG (mkF (hk_A κ 2)) se rt b' = 4 ∧ rsG se rt b' = some s := by rintro ⟨b', h, -⟩; omega
      simp only [this, not_false_eq_true, and_true]⟩
  refine ⟨r2, ?_, i1.trans (j1.weak (by decide) (by decide)), ?_, ?_, ?_, ?_, ?_⟩
  · unfold fX1_settle nX1_settle_0
    simp (maxSteps := 400000) (disch := omega) only [n3_l, n3_add, n3_mul, n3_sub, n3_subn, n3_lt, n3_le, n3_eq, n3_eqn, n3_neq, n3_and, n3_or, n3_shl, n3_i, n3_cl, ↓hbd_0, ↓hbd_1, ↓hbd_2, hk_ob_0, hk_rd_0, hk_rd_1, hk_rd_2, hk_al_0, hk_al_1, h3r_0, h3r_1, hk_wi_0, hk_wj_0, h3w_0, h3w_1, h3v_0, hk_kI, hk_kJ, hk_kA, hk_kB, A_eq, A_ne, A_row, B_eq, B_ne, B_row, I_eq, I_ne, J_eq, J_ne, Option.bind_some, Option.some.injEq, if_true, if_false, eq_self, true_or, or_true, true_and, and_true, false_or, or_false, not_true_eq_false, not_false_eq_true, Classical.not_not, nar_b0, nar_b1, rz_0, rz_1, rz_i, ite01, Nat.add_zero, Nat.zero_add, Nat.one_mul, mul12, reduceIte, ra_z0, Nat.reduceEqDiff, Nat.reduceLT, Nat.reduceLeDiff, Nat.reduceAdd, Nat.reduceMul, Nat.reduceSub, Nat.reduceDiv, Nat.reduceMod, Bool.false_eq_true, false_and, and_false, reduceCtorEq, e0]
    rw [er, nX1_settle_16]
    simp (maxSteps := 400000) (disch := omega) only [n3_l, n3_add, n3_mul, n3_sub, n3_subn, n3_lt, n3_le, n3_eq, n3_eqn, n3_neq, n3_and, n3_or, n3_shl, n3_i, n3_cl, ↓hbd_0, ↓hbd_1, ↓hbd_2, hk_ob_0, hk_rd_0, hk_rd_1, hk_rd_2, hk_al_0, hk_al_1, h3r_0, h3r_1, hk_wi_0, hk_wj_0, h3w_0, h3w_1, h3v_0, hk_kI, hk_kJ, hk_kA, hk_kB, A_eq, A_ne, A_row, B_eq, B_ne, B_row, I_eq, I_ne, J_eq, J_ne, Option.bind_some, Option.some.injEq, if_true, if_false, eq_self, true_or, or_true, true_and, and_true, false_or, or_false, not_true_eq_false, not_false_eq_true, Classical.not_not, nar_b0, nar_b1, rz_0, rz_1, rz_i, ite01, Nat.add_zero, Nat.zero_add, Nat.one_mul, mul12, reduceIte, ra_z0, Nat.reduceEqDiff, Nat.reduceLT, Nat.reduceLeDiff, Nat.reduceAdd, Nat.reduceMul, Nat.reduceSub, Nat.reduceDiv, Nat.reduceMod, Bool.false_eq_true, false_and, and_false, reduceCtorEq, hB', Nat.lt_irrefl]
    rw [e2, nX1_settle_145]
    simp (maxSteps := 400000) (disch := omega) only [n3_l, n3_add, n3_mul, n3_sub, n3_subn, n3_lt, n3_le, n3_eq, n3_eqn, n3_neq, n3_and, n3_or, n3_shl, n3_i, n3_cl, ↓hbd_0, ↓hbd_1, ↓hbd_2, hk_ob_0, hk_rd_0, hk_rd_1, hk_rd_2, hk_al_0, hk_al_1, h3r_0, h3r_1, hk_wi_0, hk_wj_0, h3w_0, h3w_1, h3v_0, hk_kI, hk_kJ, hk_kA, hk_kB, A_eq, A_ne, A_row, B_eq, B_ne, B_row, I_eq, I_ne, J_eq, J_ne, Option.bind_some, Option.some.injEq, if_true, if_false, eq_self, true_or, or_true, true_and, and_true, false_or, or_false, not_true_eq_false, not_false_eq_true, Classical.not_not, nar_b0, nar_b1, rz_0, rz_1, rz_i, ite01, Nat.add_zero, Nat.zero_add, Nat.one_mul, mul12, reduceIte, ra_z0, Nat.reduceEqDiff, Nat.reduceLT, Nat.reduceLeDiff, Nat.reduceAdd, Nat.reduceMul, Nat.reduceSub, Nat.reduceDiv, Nat.reduceMod, Bool.false_eq_true, false_and, and_false, reduceCtorEq, j1.2.2.1 1 13 (by decide), hB', Nat.lt_irrefl]
  · intro t b h1 h2 h3
    rw [j1.1 24 (by decide)]
    rw [j1.1 25 (by decide)] at h3
    exact i2 t b h1 h2 h3
  · intro s hs
    rw [j2 s hs, if_neg]
    rintro ⟨⟨b', h1, h2⟩, h3⟩
    -- the first with that seat stands
    have key : ∀ k, k ≤ n → (∃ b', b' < k ∧ rsG se rt b' = some s) → ∃ b', b' < n ∧ howG (mkF (hk_A κ 2)) se rt b' = 4 ∧ rsG se rt b' = some s := by
      intro k
      induction k with
      | zero => rintro _ ⟨b', h, -⟩; omega
      | succ k ih =>
        rintro hk ⟨b', h, h'⟩
        by_cases hx : ∃ b', b' < k ∧ rsG se rt b' = some s
        · exact ih (by omega) hx
        · have eb : b' = k := Classical.byContradiction fun z => hx ⟨b', by omega, h'⟩
          subst eb
          exact ⟨b', by omega, (howG_4 hs0).mpr ⟨s, h', hx⟩, h'⟩
    exact h3 (key n (Nat.le_refl _) ⟨b', h1, h2⟩)
  · intro b hb; rw [j1.1 35 (by decide), j1.1 36 (by decide)]; exact i4 b hb
  · intro x hx; rw [j1.1 37 (by decide)]; exact i5 x hx
  · rw [j1.2.2.1 34 3 (by decide)]; exact i6
end
