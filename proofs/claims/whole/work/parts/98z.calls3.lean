/-! seat, stand, best -/
section
variable {L c : Nat} {xs : Nat → Int32} {κ κ' : hk_T} {n nT nL nS : Nat} {T : Nat → tauT} {ks : List Nat} {fs : List (Nat × Nat)}
/-- the class finds seats -/
theorem InvC.clsA (h : InvC L xs c κ n nT nL nS T) (s : same ks fs κ κ') (d1 : ∀ k ∈ ks, k ∉ keyR ∨ k = 24 ∨ k = 25 ∨ k = 27) (d2 : ∀ q ∈ fs, q ∉ keyF ∧ q.1 ≠ 1) (a : cA κ' (hk_A κ 2) T nT n) (z : ∀ s, s < 5346 → hk_A κ' 27 s = n3 0) : InvC L xs c κ' n nT nL nS T := by
  obtain ⟨h1, h2, h3, h4, h5, h8, h9, h10, h11, h12⟩ := h
  have q : ∀ l : List Nat, (∀ k ∈ l, k ∈ keyR ∧ k ≠ 24 ∧ k ≠ 25 ∧ k ≠ 27) → ∀ k ∈ l, k ∉ ks := fun l hl k hk z => by
    obtain ⟨g1, g2, g3, g4⟩ := hl k hk
    rcases d1 k z with e | e | e | e
    · exact e g1
    · exact g2 e
    · exact g3 e
    · exact g4 e
  have q2 : ∀ l : List (Nat × Nat), (∀ k ∈ l, k ∈ keyF ∨ k.1 = 1) → ∀ k ∈ l, k ∉ fs := fun l hl k hk z => by
    rcases hl k hk with g | g
    · exact (d2 k z).1 g
    · exact (d2 k z).2 g
  refine ⟨s.xx h1, s.ro0 h2, s.hr (q _ (by decide)) (fun q hq => (d2 q hq).2) h3, s.ttq h3.1.2.1.2.1 (fun x _ _ => by rw [s.1 71 (q [71] (by decide) 71 (by decide))]) h4, s.im (q [72] (by decide) 72 (by decide)) (q [73] (by decide) 73 (by decide)) h5, s.sc (q _ (by decide)) (q2 _ (by decide)) h8, s.ta (q _ (by decide)) (q2 _ (by decide)) h9, s.wo (q _ (by decide)) (q2 _ (by decide)) h10, s.rf0 (q _ (by decide)) (q2 [(69, 38)] (by decide) (69, 38) (by decide)) h11, ⟨?_, z, s.c3 (q _ (by decide)) (q2 _ (by decide)) h12.2.2.1, s.c4 (q _ (by decide)) (q2 [(23, 10)] (by decide) (23, 10) (by decide)) h12.2.2.2.1, s.c5 (q _ (by decide)) (q2 _ (by decide)) h12.2.2.2.2.1, s.c6 (q _ (by decide)) (q2 _ (by decide)) h12.2.2.2.2.2⟩⟩
  rw [s.1 2 (q [2] (by decide) 2 (by decide))]
  exact a
/-- the reference takes turns -/
theorem InvC.refU (h : InvC L xs c κ n nT nL nS T) (s : same ks fs κ κ') (d1 : ∀ k ∈ ks, k ∉ keyR ∨ k = 86) (d2 : ∀ q ∈ fs, (q ∉ keyF ∨ q = (69, 38)) ∧ q.1 ≠ 1) (f : rfI κ' (c + 1)) : InvC L xs (c + 1) κ' n nT nL nS T := by
  obtain ⟨h1, h2, h3, h4, h5, h8, h9, h10, h11, h12⟩ := h
  have q : ∀ l : List Nat, (∀ k ∈ l, k ∈ keyR ∧ k ≠ 86) → ∀ k ∈ l, k ∉ ks := fun l hl k hk z => by
    obtain ⟨g1, g2⟩ := hl k hk
    rcases d1 k z with e | e
    · exact e g1
    · exact g2 e
  have q2 : ∀ l : List (Nat × Nat), (∀ k ∈ l, (k ∈ keyF ∧ k ≠ (69, 38)) ∨ k.1 = 1) → ∀ k ∈ l, k ∉ fs := fun l hl k hk z => by
    rcases hl k hk with g | g
    · rcases (d2 k z).1 with e | e
      · exact e g.1
      · exact g.2 e
    · exact (d2 k z).2 g
  exact ⟨s.xx h1, s.ro h2, s.hr (q _ (by decide)) (fun q hq => (d2 q hq).2) h3, s.ttq h3.1.2.1.2.1 (fun x _ _ => by rw [s.1 71 (q [71] (by decide) 71 (by decide))]) h4, s.im (q [72] (by decide) 72 (by decide)) (q [73] (by decide) 73 (by decide)) h5, s.sc (q _ (by decide)) (q2 _ (by decide)) h8, s.ta (q _ (by decide)) (q2 _ (by decide)) h9, s.wo (q _ (by decide)) (q2 _ (by decide)) h10, f, s.ca (q _ (by decide)) (q2 _ (by decide)) h12⟩
theorem rtB_m {F SD WI HI M : Nat → Int32} (hF : hrF F M n) (hS : hrS SD WI HI M) {b s : Nat} (hb : b < n) (hs : s < 5346) : rtB (rSD M) (rHI M) M b s = rtB SD HI F b s := by
  have a1 : rSD M (s / 99 / 6) = SD (s / 99 / 6) := (hS.1 (s / 99 / 6) (by omega)).1
  have a2 : rHI M (s / 99) = HI (s / 99) := (hS.2 (s / 99) (by omega)).2.1
  unfold rtB
  rw [a1, a2, hF.1 (12 * b + 5) (by omega), hF.1 (12 * b + 4) (by omega)]
theorem rsO_m {F SD WI HI M : Nat → Int32} (hF : hrF F M n) (hS : hrS SD WI HI M) {b : Nat} {o : Option Nat} (hb : b < n) (hs : ∀ s, o = some s → s < 5346) : rsO (rSD M) (rHI M) M b o = rsO SD HI F b o := by
  cases o with
  | none => rfl
  | some s =>
    show (if rtB (rSD M) (rHI M) M b s = true then some s else none) = if rtB SD HI F b s = true then some s else none
    rw [rtB_m hF hS hb (hs s rfl)]
theorem rsO_some {SD HI F : Nat → Int32} {b s : Nat} {o : Option Nat} (h : rsO SD HI F b o = some s) : o = some s := by
  cases o with
  | none => cases h
  | some s' =>
    have h' : (if rtB SD HI F b s' = true then some s' else none) = some s := h
    split at h'
    · exact h'
    · cases h'
theorem rH.fI (h : InvC L xs c κ n nT nL nS T) (s : same ks fs κ κ') (h1 : 80 ∉ ks) (h2 : 81 ∉ ks) {u u' c' : Nat} (g : rH κ' n nT u' T) (hu : u' ≤ 13000 * c') : rfI κ' c' := ⟨h.2.2.2.2.2.2.2.2.1.1.same s h1 h2, u', hu, g.2.2.2.2.2.2.1, g.2.2.2.2.2.2.2⟩
end
def seW (so : Option Nat) (rt : Nat → Bool) (w : Int32) : Int32 := match so with
  | none => -n3 1
  | some s => if w = n3 0 then n3 (s / 99 / 6) else if w = n3 1 then n3 (s / 99 % 6) else if w = n3 2 then n3 (s % 99 + 1) else if w = n3 3 then (if rt s = true then n3 1 else n3 0) else -n3 1
section
variable (N : Nat) (κ : hk_T)
theorem c_seat {n nT : Nat} {T : Nat → tauT} {t b : Nat} {w : Int32} (h : cH κ n nT T) (ht : t < nT) (hb : b < n) (hN : 100000 < N) : ∃ κ', fX11_seat N 0 (n3 t) (n3 b) w (hp κ) = some (seW (seatX (T t) (fx (hk_A κ 2) b)) (rtB (hk_A κ 3) (hk_A κ 5) (hk_A κ 2) b) w, hp κ') ∧ same [22, 24, 25] [] κ κ' ∧ cA κ' (hk_A κ 2) T nT n := by
  obtain ⟨h1, h2, h3, h4, h5, h6, h7, h8⟩ := h
  obtain ⟨q, a1, a2, a3⟩ := h5 t ht
  have hs := c_hasScheme N κ (n3 t) h3 h4 (fun t ht => by obtain ⟨q, a, -⟩ := h5 t ht; exact ⟨q, a⟩)
  have vt : vIn 0 (nT - 1) (n3 t) = true := by rw [vIn_iff, n3_toInt (by omega)]; omega
  have vb : vIn 0 (n - 1) (n3 b) = true := by rw [vIn_iff, n3_toInt (by omega)]; omega
  obtain ⟨κ', e, s, b1, b2⟩ := c_seatOf N κ (t := t) (b := b) (by omega) (by omega) hN a1 a2 a3 (h6 b hb) (fun z => h7 t b ht hb z)
  refine ⟨κ', ?_, s, fun t' b' ht' hb' z => ?_⟩
  · obtain ⟨so, hso⟩ : ∃ so, so = seatX (T t) (fx (hk_A κ 2) b) := ⟨_, rfl⟩
    rw [← hso] at e ⊢
    cases so with
    | none =>
      have e' : fX1_seatOf N 23 (n3 t) (n3 b) (hp κ) = some (-n3 1, hp κ') := e
      show _ = some (-n3 1, hp κ')
      simp (maxSteps := 400000) (disch := omega) only [n3_l, n3_add, n3_mul, n3_sub, n3_subn, n3_lt, n3_le, n3_eq, n3_eqn, n3_neq, n3_and, n3_or, n3_shl, n3_i, n3_cl, ↓hbd_0, ↓hbd_1, ↓hbd_2, hk_ob_0, hk_rd_0, hk_rd_1, hk_rd_2, hk_al_0, hk_al_1, h3r_0, h3r_1, hk_wi_0, hk_wj_0, h3w_0, h3w_1, h3v_0, hk_kI, hk_kJ, hk_kA, hk_kB, A_eq, A_ne, A_row, B_eq, B_ne, B_row, I_eq, I_ne, J_eq, J_ne, Option.bind_some, Option.some.injEq, if_true, if_false, eq_self, true_or, or_true, true_and, and_true, false_or, or_false, not_true_eq_false, not_false_eq_true, Classical.not_not, nar_b0, nar_b1, rz_0, rz_1, rz_i, ite01, Nat.add_zero, Nat.zero_add, Nat.one_mul, mul12, reduceIte, ra_z0, Nat.reduceEqDiff, Nat.reduceLT, Nat.reduceLeDiff, Nat.reduceAdd, Nat.reduceMul, Nat.reduceSub, Nat.reduceDiv, Nat.reduceMod, Bool.false_eq_true, false_and, and_false, reduceCtorEq, fX11_seat, nX11_seat_0, hs, vt, c_hasBook N κ h1 h2, vb, e']
    | some s' =>
      have s5 : s' < 5346 := seatX_lt hso.symm
      have hq : s' / 99 - s' / 99 / 6 * 6 = s' / 99 % 6 := by omega
      have e' : fX1_seatOf N 23 (n3 t) (n3 b) (hp κ) = some (n3 s', hp κ') := e
      have r2 : hk_A κ' 2 = hk_A κ 2 := s.1 2 (by decide)
      have r3 : hk_A κ' 3 = hk_A κ 3 := s.1 3 (by decide)
      have r5 : hk_A κ' 5 = hk_A κ 5 := s.1 5 (by decide)
      have hr := h_isRight N κ' (b := b) (s := s') (by omega) s5
      rw [r2, r3, r5] at hr
      have hr2 : fX2_isRight N 1 (n3 b) (n3 s') (hp κ') = some (if rtB (hk_A κ 3) (hk_A κ 5) (hk_A κ 2) b s' = true then n3 1 else n3 0, hp κ') := by
        rw [hr]
        congr 3
        exact propext rtB_iff.symm
      show _ = some (if w = n3 0 then n3 (s' / 99 / 6) else if w = n3 1 then n3 (s' / 99 % 6) else if w = n3 2 then n3 (s' % 99 + 1) else if w = n3 3 then (if rtB (hk_A κ 3) (hk_A κ 5) (hk_A κ 2) b s' = true then n3 1 else n3 0) else -n3 1, hp κ')
      by_cases c0 : w = n3 0
      · subst c0
        simp (maxSteps := 400000) (disch := omega) only [n3_l, n3_add, n3_mul, n3_sub, n3_subn, n3_lt, n3_le, n3_eq, n3_eqn, n3_neq, n3_and, n3_or, n3_shl, n3_i, n3_cl, ↓hbd_0, ↓hbd_1, ↓hbd_2, hk_ob_0, hk_rd_0, hk_rd_1, hk_rd_2, hk_al_0, hk_al_1, h3r_0, h3r_1, hk_wi_0, hk_wj_0, h3w_0, h3w_1, h3v_0, hk_kI, hk_kJ, hk_kA, hk_kB, A_eq, A_ne, A_row, B_eq, B_ne, B_row, I_eq, I_ne, J_eq, J_ne, Option.bind_some, Option.some.injEq, if_true, if_false, eq_self, true_or, or_true, true_and, and_true, false_or, or_false, not_true_eq_false, not_false_eq_true, Classical.not_not, nar_b0, nar_b1, rz_0, rz_1, rz_i, ite01, Nat.add_zero, Nat.zero_add, Nat.one_mul, mul12, reduceIte, ra_z0, Nat.reduceEqDiff, Nat.reduceLT, Nat.reduceLeDiff, Nat.reduceAdd, Nat.reduceMul, Nat.reduceSub, Nat.reduceDiv, Nat.reduceMod, Bool.false_eq_true, false_and, and_false, reduceCtorEq, fX11_seat, nX11_seat_0, hs, vt, c_hasBook N κ h1 h2, vb, e', n3_div]
      by_cases c1 : w = n3 1
      · subst c1
        simp (maxSteps := 400000) (disch := omega) only [n3_l, n3_add, n3_mul, n3_sub, n3_subn, n3_lt, n3_le, n3_eq, n3_eqn, n3_neq, n3_and, n3_or, n3_shl, n3_i, n3_cl, ↓hbd_0, ↓hbd_1, ↓hbd_2, hk_ob_0, hk_rd_0, hk_rd_1, hk_rd_2, hk_al_0, hk_al_1, h3r_0, h3r_1, hk_wi_0, hk_wj_0, h3w_0, h3w_1, h3v_0, hk_kI, hk_kJ, hk_kA, hk_kB, A_eq, A_ne, A_row, B_eq, B_ne, B_row, I_eq, I_ne, J_eq, J_ne, Option.bind_some, Option.some.injEq, if_true, if_false, eq_self, true_or, or_true, true_and, and_true, false_or, or_false, not_true_eq_false, not_false_eq_true, Classical.not_not, nar_b0, nar_b1, rz_0, rz_1, rz_i, ite01, Nat.add_zero, Nat.zero_add, Nat.one_mul, mul12, reduceIte, ra_z0, Nat.reduceEqDiff, Nat.reduceLT, Nat.reduceLeDiff, Nat.reduceAdd, Nat.reduceMul, Nat.reduceSub, Nat.reduceDiv, Nat.reduceMod, Bool.false_eq_true, false_and, and_false, reduceCtorEq, fX11_seat, nX11_seat_0, hs, vt, c_hasBook N κ h1 h2, vb, e', n3_div, hq]
      by_cases c2 : w = n3 2
      · subst c2
        simp (maxSteps := 400000) (disch := omega) only [n3_l, n3_add, n3_mul, n3_sub, n3_subn, n3_lt, n3_le, n3_eq, n3_eqn, n3_neq, n3_and, n3_or, n3_shl, n3_i, n3_cl, ↓hbd_0, ↓hbd_1, ↓hbd_2, hk_ob_0, hk_rd_0, hk_rd_1, hk_rd_2, hk_al_0, hk_al_1, h3r_0, h3r_1, hk_wi_0, hk_wj_0, h3w_0, h3w_1, h3v_0, hk_kI, hk_kJ, hk_kA, hk_kB, A_eq, A_ne, A_row, B_eq, B_ne, B_row, I_eq, I_ne, J_eq, J_ne, Option.bind_some, Option.some.injEq, if_true, if_false, eq_self, true_or, or_true, true_and, and_true, false_or, or_false, not_true_eq_false, not_false_eq_true, Classical.not_not, nar_b0, nar_b1, rz_0, rz_1, rz_i, ite01, Nat.add_zero, Nat.zero_add, Nat.one_mul, mul12, reduceIte, ra_z0, Nat.reduceEqDiff, Nat.reduceLT, Nat.reduceLeDiff, Nat.reduceAdd, Nat.reduceMul, Nat.reduceSub, Nat.reduceDiv, Nat.reduceMod, Bool.false_eq_true, false_and, and_false, reduceCtorEq, fX11_seat, nX11_seat_0, hs, vt, c_hasBook N κ h1 h2, vb, e', n3_rem]
      by_cases c3 : w = n3 3
      · subst c3
        by_cases cr : rtB (hk_A κ 3) (hk_A κ 5) (hk_A κ 2) b s' = true
        · rw [if_pos cr] at hr2
          simp (maxSteps := 400000) (disch := omega) only [n3_l, n3_add, n3_mul, n3_sub, n3_subn, n3_lt, n3_le, n3_eq, n3_eqn, n3_neq, n3_and, n3_or, n3_shl, n3_i, n3_cl, ↓hbd_0, ↓hbd_1, ↓hbd_2, hk_ob_0, hk_rd_0, hk_rd_1, hk_rd_2, hk_al_0, hk_al_1, h3r_0, h3r_1, hk_wi_0, hk_wj_0, h3w_0, h3w_1, h3v_0, hk_kI, hk_kJ, hk_kA, hk_kB, A_eq, A_ne, A_row, B_eq, B_ne, B_row, I_eq, I_ne, J_eq, J_ne, Option.bind_some, Option.some.injEq, if_true, if_false, eq_self, true_or, or_true, true_and, and_true, false_or, or_false, not_true_eq_false, not_false_eq_true, Classical.not_not, nar_b0, nar_b1, rz_0, rz_1, rz_i, ite01, Nat.add_zero, Nat.zero_add, Nat.one_mul, mul12, reduceIte, ra_z0, Nat.reduceEqDiff, Nat.reduceLT, Nat.reduceLeDiff, Nat.reduceAdd, Nat.reduceMul, Nat.reduceSub, Nat.reduceDiv, Nat.reduceMod, Bool.false_eq_true, false_and, and_false, reduceCtorEq, fX11_seat, nX11_seat_0, hs, vt, c_hasBook N κ h1 h2, vb, e', hr2, cr, nX11_seat_120]
        · rw [if_neg cr] at hr2
          simp (maxSteps := 400000) (disch := omega) only [n3_l, n3_add, n3_mul, n3_sub, n3_subn, n3_lt, n3_le, n3_eq, n3_eqn, n3_neq, n3_and, n3_or, n3_shl, n3_i, n3_cl, ↓hbd_0, ↓hbd_1, ↓hbd_2, hk_ob_0, hk_rd_0, hk_rd_1, hk_rd_2, hk_al_0, hk_al_1, h3r_0, h3r_1, hk_wi_0, hk_wj_0, h3w_0, h3w_1, h3v_0, hk_kI, hk_kJ, hk_kA, hk_kB, A_eq, A_ne, A_row, B_eq, B_ne, B_row, I_eq, I_ne, J_eq, J_ne, Option.bind_some, Option.some.injEq, if_true, if_false, eq_self, true_or, or_true, true_and, and_true, false_or, or_false, not_true_eq_false, not_false_eq_true, Classical.not_not, nar_b0, nar_b1, rz_0, rz_1, rz_i, ite01, Nat.add_zero, Nat.zero_add, Nat.one_mul, mul12, reduceIte, ra_z0, Nat.reduceEqDiff, Nat.reduceLT, Nat.reduceLeDiff, Nat.reduceAdd, Nat.reduceMul, Nat.reduceSub, Nat.reduceDiv, Nat.reduceMod, Bool.false_eq_true, false_and, and_false, reduceCtorEq, fX11_seat, nX11_seat_0, hs, vt, c_hasBook N κ h1 h2, vb, e', hr2, cr, nX11_seat_120]
      simp (maxSteps := 400000) (disch := omega) only [n3_l, n3_add, n3_mul, n3_sub, n3_subn, n3_lt, n3_le, n3_eq, n3_eqn, n3_neq, n3_and, n3_or, n3_shl, n3_i, n3_cl, ↓hbd_0, ↓hbd_1, ↓hbd_2, hk_ob_0, hk_rd_0, hk_rd_1, hk_rd_2, hk_al_0, hk_al_1, h3r_0, h3r_1, hk_wi_0, hk_wj_0, h3w_0, h3w_1, h3v_0, hk_kI, hk_kJ, hk_kA, hk_kB, A_eq, A_ne, A_row, B_eq, B_ne, B_row, I_eq, I_ne, J_eq, J_ne, Option.bind_some, Option.some.injEq, if_true, if_false, eq_self, true_or, or_true, true_and, and_true, false_or, or_false, not_true_eq_false, not_false_eq_true, Classical.not_not, nar_b0, nar_b1, rz_0, rz_1, rz_i, ite01, Nat.add_zero, Nat.zero_add, Nat.one_mul, mul12, reduceIte, ra_z0, Nat.reduceEqDiff, Nat.reduceLT, Nat.reduceLeDiff, Nat.reduceAdd, Nat.reduceMul, Nat.reduceSub, Nat.reduceDiv, Nat.reduceMod, Bool.false_eq_true, false_and, and_false, reduceCtorEq, fX11_seat, nX11_seat_0, hs, vt, c_hasBook N κ h1 h2, vb, e', c0, c1, c2, c3]
  · by_cases g : t' * 40 + b' = t * 40 + b
    · have g1 : t' = t := by omega
      have g2 : b' = b := by omega
      subst g1 g2
      exact b2
    · rw [(b1 _ g).2] at z
      rw [(b1 _ g).1]
      exact h7 t' b' ht' hb' z
theorem r_seat {n nT u : Nat} {T : Nat → tauT} {t b : Nat} {w : Int32} (h : rH κ n nT u T) (ht : t < nT) (hb : b < n) (hN : 100000 < N) : ∃ κ', fX12_seat N 69 (n3 t) (n3 b) w (hp κ) = some (seW (seatX (T t) (fx (hk_A κ 71) b)) (rtB (rSD (hk_A κ 71)) (rHI (hk_A κ 71)) (hk_A κ 71) b) w, hp κ') ∧ same [82, 83, 84, 85] [(69, 0), (69, 27), (69, 30), (69, 33)] κ κ' := by
  obtain ⟨h1, h2, h3, h4, h5, h6, h7, h8⟩ := h
  have ht' := r_isText N (hk_wI κ 69 0 (n3 0)) (n := nT) h3 (by omega)
  have hb' := r_isBook N (hk_wI κ 69 0 (n3 0)) (n := n) h1 h2
  have vt : vIn 0 (nT - 1) (n3 t) = true := by rw [vIn_iff, n3_toInt (by omega)]; omega
  have vb : vIn 0 (n - 1) (n3 b) = true := by rw [vIn_iff, n3_toInt (by omega)]; omega
  by_cases vw : vIn 0 3 w = true
  · obtain ⟨κ', e, s, b1, b2, b3⟩ := r_findSeat N (hk_wI κ 69 0 (n3 0)) (t := t) (b := b) (by omega) (by omega) hN (h5 t ht).1 (h5 t ht).2 (h6 b hb)
    have b1' : hk_A κ' 84 (40 * t + b) = seatR (seatX (T t) (fx (hk_A κ 71) b)) := b1
    have b2' : hk_A κ' 85 (40 * t + b) = (if (rsO (rSD (hk_A κ 71)) (rHI (hk_A κ 71)) (hk_A κ 71) b (seatX (T t) (fx (hk_A κ 71) b))) = none then n3 0 else n3 1) := b2
    refine ⟨κ', ?_, ((same.refl [82, 83, 84, 85] [(69, 0), (69, 27), (69, 30), (69, 33)] κ).wI (by decide)).trans (s.weak (by decide) (by decide))⟩
    obtain ⟨so, hso⟩ : ∃ so, so = seatX (T t) (fx (hk_A κ 71) b) := ⟨_, rfl⟩
    rw [← hso] at b1' b2' ⊢
    cases so with
    | none =>
      have b1'' : hk_A κ' 84 (40 * t + b) = -n3 1 := b1'
      show _ = some (-n3 1, hp κ')
      simp (maxSteps := 400000) (disch := omega) only [n3_l, n3_add, n3_mul, n3_sub, n3_subn, n3_lt, n3_le, n3_eq, n3_eqn, n3_neq, n3_and, n3_or, n3_shl, n3_i, n3_cl, ↓hbd_0, ↓hbd_1, ↓hbd_2, hk_ob_0, hk_rd_0, hk_rd_1, hk_rd_2, hk_al_0, hk_al_1, h3r_0, h3r_1, hk_wi_0, hk_wj_0, h3w_0, h3w_1, h3v_0, hk_kI, hk_kJ, hk_kA, hk_kB, A_eq, A_ne, A_row, B_eq, B_ne, B_row, I_eq, I_ne, J_eq, J_ne, Option.bind_some, Option.some.injEq, if_true, if_false, eq_self, true_or, or_true, true_and, and_true, false_or, or_false, not_true_eq_false, not_false_eq_true, Classical.not_not, nar_b0, nar_b1, rz_0, rz_1, rz_i, ite01, Nat.add_zero, Nat.zero_add, Nat.one_mul, mul12, reduceIte, ra_z0, Nat.reduceEqDiff, Nat.reduceLT, Nat.reduceLeDiff, Nat.reduceAdd, Nat.reduceMul, Nat.reduceSub, Nat.reduceDiv, Nat.reduceMod, Bool.false_eq_true, false_and, and_false, reduceCtorEq, fX12_seat, nX12_seat_0, ht', vt, hb', vb, r_in32, j_l, vw, e, b1'']
    | some s' =>
      have s5 : s' < 5346 := seatX_lt hso.symm
      have hq : s' / 99 - s' / 99 / 6 * 6 = s' / 99 % 6 := by omega
      have b1'' : hk_A κ' 84 (40 * t + b) = n3 (100 * (s' / 99) + (s' % 99 + 1)) := b1'
      have hm : ¬ n3 (100 * (s' / 99) + (s' % 99 + 1)) = -n3 1 := fun z => (n3_eqn (by omega) (by omega) (by omega)).mp z
      have d1 : (100 * (s' / 99) + (s' % 99 + 1)) / 600 = s' / 99 / 6 := by omega
      have d2 : (100 * (s' / 99) + (s' % 99 + 1)) / 100 = s' / 99 := by omega
      have d3 : (100 * (s' / 99) + (s' % 99 + 1)) % 100 = s' % 99 + 1 := by omega
      obtain ⟨X, hX⟩ : ∃ X, X = 100 * (s' / 99) + (s' % 99 + 1) := ⟨_, rfl⟩
      have X5 : X < 6000 := by omega
      rw [← hX] at b1'' hm d1 d2 d3
      obtain ⟨w', -, w2, rfl⟩ := vK (lo := 0) (hi := 3) vw
      show _ = some (if n3 w' = n3 0 then n3 (s' / 99 / 6) else if n3 w' = n3 1 then n3 (s' / 99 % 6) else if n3 w' = n3 2 then n3 (s' % 99 + 1) else if n3 w' = n3 3 then (if rtB (rSD (hk_A κ 71)) (rHI (hk_A κ 71)) (hk_A κ 71) b s' = true then n3 1 else n3 0) else -n3 1, hp κ')
      have c4 : w' = 0 ∨ w' = 1 ∨ w' = 2 ∨ w' = 3 := by omega
      rcases c4 with rfl | rfl | rfl | rfl
      · simp (maxSteps := 400000) (disch := omega) only [n3_l, n3_add, n3_mul, n3_sub, n3_subn, n3_lt, n3_le, n3_eq, n3_eqn, n3_neq, n3_and, n3_or, n3_shl, n3_i, n3_cl, ↓hbd_0, ↓hbd_1, ↓hbd_2, hk_ob_0, hk_rd_0, hk_rd_1, hk_rd_2, hk_al_0, hk_al_1, h3r_0, h3r_1, hk_wi_0, hk_wj_0, h3w_0, h3w_1, h3v_0, hk_kI, hk_kJ, hk_kA, hk_kB, A_eq, A_ne, A_row, B_eq, B_ne, B_row, I_eq, I_ne, J_eq, J_ne, Option.bind_some, Option.some.injEq, if_true, if_false, eq_self, true_or, or_true, true_and, and_true, false_or, or_false, not_true_eq_false, not_false_eq_true, Classical.not_not, nar_b0, nar_b1, rz_0, rz_1, rz_i, ite01, Nat.add_zero, Nat.zero_add, Nat.one_mul, mul12, reduceIte, ra_z0, Nat.reduceEqDiff, Nat.reduceLT, Nat.reduceLeDiff, Nat.reduceAdd, Nat.reduceMul, Nat.reduceSub, Nat.reduceDiv, Nat.reduceMod, Bool.false_eq_true, false_and, and_false, reduceCtorEq, fX12_seat, nX12_seat_0, ht', vt, hb', vb, r_in32, j_l, vw, e, b1'', hm, n3_div, d1, nX12_seat_123]
      · simp (maxSteps := 400000) (disch := omega) only [n3_l, n3_add, n3_mul, n3_sub, n3_subn, n3_lt, n3_le, n3_eq, n3_eqn, n3_neq, n3_and, n3_or, n3_shl, n3_i, n3_cl, ↓hbd_0, ↓hbd_1, ↓hbd_2, hk_ob_0, hk_rd_0, hk_rd_1, hk_rd_2, hk_al_0, hk_al_1, h3r_0, h3r_1, hk_wi_0, hk_wj_0, h3w_0, h3w_1, h3v_0, hk_kI, hk_kJ, hk_kA, hk_kB, A_eq, A_ne, A_row, B_eq, B_ne, B_row, I_eq, I_ne, J_eq, J_ne, Option.bind_some, Option.some.injEq, if_true, if_false, eq_self, true_or, or_true, true_and, and_true, false_or, or_false, not_true_eq_false, not_false_eq_true, Classical.not_not, nar_b0, nar_b1, rz_0, rz_1, rz_i, ite01, Nat.add_zero, Nat.zero_add, Nat.one_mul, mul12, reduceIte, ra_z0, Nat.reduceEqDiff, Nat.reduceLT, Nat.reduceLeDiff, Nat.reduceAdd, Nat.reduceMul, Nat.reduceSub, Nat.reduceDiv, Nat.reduceMod, Bool.false_eq_true, false_and, and_false, reduceCtorEq, fX12_seat, nX12_seat_0, ht', vt, hb', vb, r_in32, j_l, vw, e, b1'', hm, n3_div, d2, hq, nX12_seat_123]
      · simp (maxSteps := 400000) (disch := omega) only [n3_l, n3_add, n3_mul, n3_sub, n3_subn, n3_lt, n3_le, n3_eq, n3_eqn, n3_neq, n3_and, n3_or, n3_shl, n3_i, n3_cl, ↓hbd_0, ↓hbd_1, ↓hbd_2, hk_ob_0, hk_rd_0, hk_rd_1, hk_rd_2, hk_al_0, hk_al_1, h3r_0, h3r_1, hk_wi_0, hk_wj_0, h3w_0, h3w_1, h3v_0, hk_kI, hk_kJ, hk_kA, hk_kB, A_eq, A_ne, A_row, B_eq, B_ne, B_row, I_eq, I_ne, J_eq, J_ne, Option.bind_some, Option.some.injEq, if_true, if_false, eq_self, true_or, or_true, true_and, and_true, false_or, or_false, not_true_eq_false, not_false_eq_true, Classical.not_not, nar_b0, nar_b1, rz_0, rz_1, rz_i, ite01, Nat.add_zero, Nat.zero_add, Nat.one_mul, mul12, reduceIte, ra_z0, Nat.reduceEqDiff, Nat.reduceLT, Nat.reduceLeDiff, Nat.reduceAdd, Nat.reduceMul, Nat.reduceSub, Nat.reduceDiv, Nat.reduceMod, Bool.false_eq_true, false_and, and_false, reduceCtorEq, fX12_seat, nX12_seat_0, ht', vt, hb', vb, r_in32, j_l, vw, e, b1'', hm, n3_rem, d3, nX12_seat_123]
      · by_cases cr : rtB (rSD (hk_A κ 71)) (rHI (hk_A κ 71)) (hk_A κ 71) b s' = true
        · have b3' : hk_A κ' 85 (40 * t + b) = n3 1 := by
            rw [b2', if_neg]
            show ¬ (if rtB (rSD (hk_A κ 71)) (rHI (hk_A κ 71)) (hk_A κ 71) b s' = true then some s' else none) = none
            rw [if_pos cr]
            exact fun z => by cases z
          simp (maxSteps := 400000) (disch := omega) only [n3_l, n3_add, n3_mul, n3_sub, n3_subn, n3_lt, n3_le, n3_eq, n3_eqn, n3_neq, n3_and, n3_or, n3_shl, n3_i, n3_cl, ↓hbd_0, ↓hbd_1, ↓hbd_2, hk_ob_0, hk_rd_0, hk_rd_1, hk_rd_2, hk_al_0, hk_al_1, h3r_0, h3r_1, hk_wi_0, hk_wj_0, h3w_0, h3w_1, h3v_0, hk_kI, hk_kJ, hk_kA, hk_kB, A_eq, A_ne, A_row, B_eq, B_ne, B_row, I_eq, I_ne, J_eq, J_ne, Option.bind_some, Option.some.injEq, if_true, if_false, eq_self, true_or, or_true, true_and, and_true, false_or, or_false, not_true_eq_false, not_false_eq_true, Classical.not_not, nar_b0, nar_b1, rz_0, rz_1, rz_i, ite01, Nat.add_zero, Nat.zero_add, Nat.one_mul, mul12, reduceIte, ra_z0, Nat.reduceEqDiff, Nat.reduceLT, Nat.reduceLeDiff, Nat.reduceAdd, Nat.reduceMul, Nat.reduceSub, Nat.reduceDiv, Nat.reduceMod, Bool.false_eq_true, false_and, and_false, reduceCtorEq, fX12_seat, nX12_seat_0, ht', vt, hb', vb, r_in32, j_l, vw, e, b1'', hm, b3', cr, nX12_seat_123]
        · have b3' : hk_A κ' 85 (40 * t + b) = n3 0 := by
            rw [b2', if_pos]
            show (if rtB (rSD (hk_A κ 71)) (rHI (hk_A κ 71)) (hk_A κ 71) b s' = true then some s' else none) = none
            rw [if_neg cr]
          simp (maxSteps := 400000) (disch := omega) only [n3_l, n3_add, n3_mul, n3_sub, n3_subn, n3_lt, n3_le, n3_eq, n3_eqn, n3_neq, n3_and, n3_or, n3_shl, n3_i, n3_cl, ↓hbd_0, ↓hbd_1, ↓hbd_2, hk_ob_0, hk_rd_0, hk_rd_1, hk_rd_2, hk_al_0, hk_al_1, h3r_0, h3r_1, hk_wi_0, hk_wj_0, h3w_0, h3w_1, h3v_0, hk_kI, hk_kJ, hk_kA, hk_kB, A_eq, A_ne, A_row, B_eq, B_ne, B_row, I_eq, I_ne, J_eq, J_ne, Option.bind_some, Option.some.injEq, if_true, if_false, eq_self, true_or, or_true, true_and, and_true, false_or, or_false, not_true_eq_false, not_false_eq_true, Classical.not_not, nar_b0, nar_b1, rz_0, rz_1, rz_i, ite01, Nat.add_zero, Nat.zero_add, Nat.one_mul, mul12, reduceIte, ra_z0, Nat.reduceEqDiff, Nat.reduceLT, Nat.reduceLeDiff, Nat.reduceAdd, Nat.reduceMul, Nat.reduceSub, Nat.reduceDiv, Nat.reduceMod, Bool.false_eq_true, false_and, and_false, reduceCtorEq, fX12_seat, nX12_seat_0, ht', vt, hb', vb, r_in32, j_l, vw, e, b1'', hm, b3', cr, nX12_seat_123]
  · refine ⟨hk_wI κ 69 0 (n3 0), ?_, (same.refl _ _ _).wI (by decide)⟩
    have w0 : ¬ w = n3 0 := fun z => vw (by rw [z]; decide)
    have w1 : ¬ w = n3 1 := fun z => vw (by rw [z]; decide)
    have w2 : ¬ w = n3 2 := fun z => vw (by rw [z]; decide)
    have w3 : ¬ w = n3 3 := fun z => vw (by rw [z]; decide)
    have es : seW (seatX (T t) (fx (hk_A κ 71) b)) (rtB (rSD (hk_A κ 71)) (rHI (hk_A κ 71)) (hk_A κ 71) b) w = -n3 1 := by
      unfold seW
      cases seatX (T t) (fx (hk_A κ 71) b) with
      | none => rfl
      | some s' =>
        dsimp only
        rw [if_neg w0, if_neg w1, if_neg w2, if_neg w3]
    rw [es]
    simp (maxSteps := 400000) (disch := omega) only [n3_l, n3_add, n3_mul, n3_sub, n3_subn, n3_lt, n3_le, n3_eq, n3_eqn, n3_neq, n3_and, n3_or, n3_shl, n3_i, n3_cl, ↓hbd_0, ↓hbd_1, ↓hbd_2, hk_ob_0, hk_rd_0, hk_rd_1, hk_rd_2, hk_al_0, hk_al_1, h3r_0, h3r_1, hk_wi_0, hk_wj_0, h3w_0, h3w_1, h3v_0, hk_kI, hk_kJ, hk_kA, hk_kB, A_eq, A_ne, A_row, B_eq, B_ne, B_row, I_eq, I_ne, J_eq, J_ne, Option.bind_some, Option.some.injEq, if_true, if_false, eq_self, true_or, or_true, true_and, and_true, false_or, or_false, not_true_eq_false, not_false_eq_true, Classical.not_not, nar_b0, nar_b1, rz_0, rz_1, rz_i, ite01, Nat.add_zero, Nat.zero_add, Nat.one_mul, mul12, reduceIte, ra_z0, Nat.reduceEqDiff, Nat.reduceLT, Nat.reduceLeDiff, Nat.reduceAdd, Nat.reduceMul, Nat.reduceSub, Nat.reduceDiv, Nat.reduceMod, Bool.false_eq_true, false_and, and_false, reduceCtorEq, fX12_seat, nX12_seat_0, ht', vt, hb', vb, r_in32, j_l, vw, nX12_seat_33]
end
section
variable (N : Nat) {L c : Nat} {xs : Nat → Int32} {κ : hk_T}
theorem k_seat (h : Inv L xs c κ) (hN : 100000 < N) (t b w : Int32) : callOk L xs c κ (fX11_seat N 0 t b w) (fX12_seat N 69 t b w) := by
  have h0 := h
  obtain ⟨n, nT, nL, nS, T, H⟩ := h0
  have H' : InvC L xs c κ n nT nL nS T := H
  have n40 := H'.toC.2.1
  have hF : hrF (hk_A κ 2) (hk_A κ 71) n := H'.2.2.1.2.2.1
  have hS : hrS (hk_A κ 3) (hk_A κ 4) (hk_A κ 5) (hk_A κ 71) := H'.2.2.1.2.2.2.1
  have cH' := H'.toC
  have hs := c_hasScheme N κ t cH'.2.2.1 cH'.2.2.2.1 (fun t ht => by obtain ⟨q, a, -⟩ := cH'.2.2.2.2.1 t ht; exact ⟨q, a⟩)
  have ht' := r_isText N (hk_wI κ 69 0 (n3 0)) (n := nT) H'.2.2.1.1.2.1.2.2 (by have := cH'.2.2.2.1; omega)
  have hb' := r_isBook N (hk_wI κ 69 0 (n3 0)) (n := n) H'.2.2.1.1.1.2.2 n40
  by_cases v1 : vIn 0 (nT - 1) t = true
  · by_cases v2 : vIn 0 (n - 1) b = true
    · obtain ⟨t, ht, rfl⟩ := vB v1
      obtain ⟨b, hb, rfl⟩ := vB v2
      obtain ⟨κ1, e1, s1, a1⟩ := c_seat N κ (w := w) cH' ht hb hN
      have g1 : InvC L xs c κ1 n nT nL nS T := H'.clsA s1 (by decide) (by decide) a1 (by rw [s1.1 27 (by decide)]; exact cH'.2.2.2.2.2.2.2)
      obtain ⟨u, hu, gr⟩ := g1.toR
      obtain ⟨κ2, e2, s2⟩ := r_seat N κ1 (w := w) gr ht hb hN
      have m1 : hk_A κ1 71 = hk_A κ 71 := s1.1 71 (by decide)
      rw [m1, fx_m hF hb] at e2
      have ew : seW (seatX (T t) (fx (hk_A κ 2) b)) (rtB (hk_A κ 3) (hk_A κ 5) (hk_A κ 2) b) w = seW (seatX (T t) (fx (hk_A κ 2) b)) (rtB (rSD (hk_A κ 71)) (rHI (hk_A κ 71)) (hk_A κ 71) b) w := by
        unfold seW
        cases q : seatX (T t) (fx (hk_A κ 2) b) with
        | none => rfl
        | some s' =>
          dsimp only
          rw [rtB_m hF hS hb (seatX_lt q)]
      exact callOk.of H' e1 e2 ew s1.2.2.2.2.2.2.2.2 (g1.scr s2 (by decide) (by decide)).more
    · refine callOk.ask h (v := -n3 1) (v' := -n3 1) ?_ ?_ rfl
      · simp (maxSteps := 400000) (disch := omega) only [n3_l, n3_add, n3_mul, n3_sub, n3_subn, n3_lt, n3_le, n3_eq, n3_eqn, n3_neq, n3_and, n3_or, n3_shl, n3_i, n3_cl, ↓hbd_0, ↓hbd_1, ↓hbd_2, hk_ob_0, hk_rd_0, hk_rd_1, hk_rd_2, hk_al_0, hk_al_1, h3r_0, h3r_1, hk_wi_0, hk_wj_0, h3w_0, h3w_1, h3v_0, hk_kI, hk_kJ, hk_kA, hk_kB, A_eq, A_ne, A_row, B_eq, B_ne, B_row, I_eq, I_ne, J_eq, J_ne, Option.bind_some, Option.some.injEq, if_true, if_false, eq_self, true_or, or_true, true_and, and_true, false_or, or_false, not_true_eq_false, not_false_eq_true, Classical.not_not, nar_b0, nar_b1, rz_0, rz_1, rz_i, ite01, Nat.add_zero, Nat.zero_add, Nat.one_mul, mul12, reduceIte, ra_z0, Nat.reduceEqDiff, Nat.reduceLT, Nat.reduceLeDiff, Nat.reduceAdd, Nat.reduceMul, Nat.reduceSub, Nat.reduceDiv, Nat.reduceMod, Bool.false_eq_true, false_and, and_false, reduceCtorEq, fX11_seat, nX11_seat_0, hs, v1, c_hasBook N κ cH'.1 n40, v2, nX11_seat_22]
      · simp (maxSteps := 400000) (disch := omega) only [n3_l, n3_add, n3_mul, n3_sub, n3_subn, n3_lt, n3_le, n3_eq, n3_eqn, n3_neq, n3_and, n3_or, n3_shl, n3_i, n3_cl, ↓hbd_0, ↓hbd_1, ↓hbd_2, hk_ob_0, hk_rd_0, hk_rd_1, hk_rd_2, hk_al_0, hk_al_1, h3r_0, h3r_1, hk_wi_0, hk_wj_0, h3w_0, h3w_1, h3v_0, hk_kI, hk_kJ, hk_kA, hk_kB, A_eq, A_ne, A_row, B_eq, B_ne, B_row, I_eq, I_ne, J_eq, J_ne, Option.bind_some, Option.some.injEq, if_true, if_false, eq_self, true_or, or_true, true_and, and_true, false_or, or_false, not_true_eq_false, not_false_eq_true, Classical.not_not, nar_b0, nar_b1, rz_0, rz_1, rz_i, ite01, Nat.add_zero, Nat.zero_add, Nat.one_mul, mul12, reduceIte, ra_z0, Nat.reduceEqDiff, Nat.reduceLT, Nat.reduceLeDiff, Nat.reduceAdd, Nat.reduceMul, Nat.reduceSub, Nat.reduceDiv, Nat.reduceMod, Bool.false_eq_true, false_and, and_false, reduceCtorEq, fX12_seat, nX12_seat_0, ht', v1, hb', v2, nX12_seat_33]
  · refine callOk.ask h (v := -n3 1) (v' := -n3 1) ?_ ?_ rfl
    · simp (maxSteps := 400000) (disch := omega) only [n3_l, n3_add, n3_mul, n3_sub, n3_subn, n3_lt, n3_le, n3_eq, n3_eqn, n3_neq, n3_and, n3_or, n3_shl, n3_i, n3_cl, ↓hbd_0, ↓hbd_1, ↓hbd_2, hk_ob_0, hk_rd_0, hk_rd_1, hk_rd_2, hk_al_0, hk_al_1, h3r_0, h3r_1, hk_wi_0, hk_wj_0, h3w_0, h3w_1, h3v_0, hk_kI, hk_kJ, hk_kA, hk_kB, A_eq, A_ne, A_row, B_eq, B_ne, B_row, I_eq, I_ne, J_eq, J_ne, Option.bind_some, Option.some.injEq, if_true, if_false, eq_self, true_or, or_true, true_and, and_true, false_or, or_false, not_true_eq_false, not_false_eq_true, Classical.not_not, nar_b0, nar_b1, rz_0, rz_1, rz_i, ite01, Nat.add_zero, Nat.zero_add, Nat.one_mul, mul12, reduceIte, ra_z0, Nat.reduceEqDiff, Nat.reduceLT, Nat.reduceLeDiff, Nat.reduceAdd, Nat.reduceMul, Nat.reduceSub, Nat.reduceDiv, Nat.reduceMod, Bool.false_eq_true, false_and, and_false, reduceCtorEq, fX11_seat, nX11_seat_0, hs, v1, nX11_seat_22]
    · simp (maxSteps := 400000) (disch := omega) only [n3_l, n3_add, n3_mul, n3_sub, n3_subn, n3_lt, n3_le, n3_eq, n3_eqn, n3_neq, n3_and, n3_or, n3_shl, n3_i, n3_cl, ↓hbd_0, ↓hbd_1, ↓hbd_2, hk_ob_0, hk_rd_0, hk_rd_1, hk_rd_2, hk_al_0, hk_al_1, h3r_0, h3r_1, hk_wi_0, hk_wj_0, h3w_0, h3w_1, h3v_0, hk_kI, hk_kJ, hk_kA, hk_kB, A_eq, A_ne, A_row, B_eq, B_ne, B_row, I_eq, I_ne, J_eq, J_ne, Option.bind_some, Option.some.injEq, if_true, if_false, eq_self, true_or, or_true, true_and, and_true, false_or, or_false, not_true_eq_false, not_false_eq_true, Classical.not_not, nar_b0, nar_b1, rz_0, rz_1, rz_i, ite01, Nat.add_zero, Nat.zero_add, Nat.one_mul, mul12, reduceIte, ra_z0, Nat.reduceEqDiff, Nat.reduceLT, Nat.reduceLeDiff, Nat.reduceAdd, Nat.reduceMul, Nat.reduceSub, Nat.reduceDiv, Nat.reduceMod, Bool.false_eq_true, false_and, and_false, reduceCtorEq, fX12_seat, nX12_seat_0, ht', v1, nX12_seat_33]
theorem k_stand (h : Inv L xs c κ) (hc : c < 4000) (hN : 100000 < N) (f g y : Int32) : callOk L xs c κ (fX11_stand N 0 f g y) (fX12_stand N 69 f g y) := by
  have h0 := h
  obtain ⟨n, nT, nL, nS, T, H⟩ := h0
  have H' : InvC L xs c κ n nT nL nS T := H
  have n40 := H'.toC.2.1
  have hF : hrF (hk_A κ 2) (hk_A κ 71) n := H'.2.2.1.2.2.1
  have hS : hrS (hk_A κ 3) (hk_A κ 4) (hk_A κ 5) (hk_A κ 71) := H'.2.2.1.2.2.2.1
  have cH' := H'.toC
  have hs := fun t => c_hasScheme N κ t cH'.2.2.1 cH'.2.2.2.1 (fun t ht => by obtain ⟨q, a, -⟩ := cH'.2.2.2.2.1 t ht; exact ⟨q, a⟩)
  have ht' := r_isText N (hk_wI κ 69 0 (n3 0)) (n := nT) H'.2.2.1.1.2.1.2.2 (by have := cH'.2.2.2.1; omega)
  have j200 : ((200 : Int64)).toInt = 200 := by decide
  by_cases v1 : vIn 0 (nT - 1) f = true
  · by_cases v2 : vIn 0 (nT - 1) g = true
    · by_cases v3 : vIn 0 200 y = true
      · obtain ⟨f, hf, rfl⟩ := vB v1
        obtain ⟨g, hg, rfl⟩ := vB v2
        obtain ⟨y, -, hy, rfl⟩ := vK (lo := 0) (hi := 200) v3
        obtain ⟨κ1, e1, s1, a1, a2⟩ := c_settled_t N κ (y := y) cH' hf hg hN
        have r2 : hk_A κ1 2 = hk_A κ 2 := s1.1 2 (by decide)
        have a1' := a1.2.2.2.2.2.2.1
        rw [r2] at a1'
        have g1 : InvC L xs c κ1 n nT nL nS T := H'.clsA s1 (by decide) (by decide) a1' a1.2.2.2.2.2.2.2
        obtain ⟨u, hu, gr⟩ := g1.w0.toR
        obtain ⟨κ2, e2, s2, gr2, v⟩ := r_find N (hk_wI κ1 69 0 (n3 0)) gr hN
        have ht1 := r_isText N (hk_wI κ1 69 0 (n3 0)) (n := nT) gr.2.2.1 (by have := cH'.2.2.2.1; omega)
        have m2 : hk_A κ2 71 = hk_A κ1 71 := s2.1 71 (by decide)
        have m1 : hk_A κ1 71 = hk_A κ 71 := s1.1 71 (by decide)
        obtain ⟨κ3, e3, s3, gr3, -⟩ := r_one N κ2 (y := y) gr2 (by omega) hf hg hN (by rw [m2]; exact v)
        rw [m2, m1] at e3
        have ss : same [82, 83, 84, 85, 86, 87, 88] [(69, 0), (69, 27), (69, 30), (69, 33), (69, 38)] κ1 κ3 := (((same.refl [82, 83, 84, 85, 86, 87, 88] [(69, 0), (69, 27), (69, 30), (69, 33), (69, 38)] κ1).wI (by decide)).trans (s2.weak (by decide) (by decide))).trans (s3.weak (by decide) (by decide))
        have ec : cnt (fun b => howG (mkF (hk_A κ 2)) (seF T (hk_A κ 2) f g y) (rtB (hk_A κ 3) (hk_A κ 5) (hk_A κ 2)) b = 4) n = cnt (fun b => howG (mkF (hk_A κ 71)) (seF T (hk_A κ 71) f g y) (rtB (rSD (hk_A κ 71)) (rHI (hk_A κ 71)) (hk_A κ 71)) b = 4) n := cnt_cg0 n (fun i hi => by rw [(hist_m hF hS hi).2])
        refine callOk.of H' (κ1 := κ1) (κ2 := κ3) ?_ ?_ (congrArg n3 ec) s1.2.2.2.2.2.2.2.2 (g1.refU ss (by decide) (by decide) (rH.fI (u := 0) g1 ss (by decide) (by decide) gr3 (by omega)))
        · simp (maxSteps := 400000) (disch := omega) only [n3_l, n3_add, n3_mul, n3_sub, n3_subn, n3_lt, n3_le, n3_eq, n3_eqn, n3_neq, n3_and, n3_or, n3_shl, n3_i, n3_cl, ↓hbd_0, ↓hbd_1, ↓hbd_2, hk_ob_0, hk_rd_0, hk_rd_1, hk_rd_2, hk_al_0, hk_al_1, h3r_0, h3r_1, hk_wi_0, hk_wj_0, h3w_0, h3w_1, h3v_0, hk_kI, hk_kJ, hk_kA, hk_kB, A_eq, A_ne, A_row, B_eq, B_ne, B_row, I_eq, I_ne, J_eq, J_ne, Option.bind_some, Option.some.injEq, if_true, if_false, eq_self, true_or, or_true, true_and, and_true, false_or, or_false, not_true_eq_false, not_false_eq_true, Classical.not_not, nar_b0, nar_b1, rz_0, rz_1, rz_i, ite01, Nat.add_zero, Nat.zero_add, Nat.one_mul, mul12, reduceIte, ra_z0, Nat.reduceEqDiff, Nat.reduceLT, Nat.reduceLeDiff, Nat.reduceAdd, Nat.reduceMul, Nat.reduceSub, Nat.reduceDiv, Nat.reduceMod, Bool.false_eq_true, false_and, and_false, reduceCtorEq, fX11_stand, nX11_stand_0, hs, v1, v2, c_isTurn, v3, fX1_standingIn, nX1_standingIn_0, e1, a2]
        · simp (maxSteps := 400000) (disch := omega) only [n3_l, n3_add, n3_mul, n3_sub, n3_subn, n3_lt, n3_le, n3_eq, n3_eqn, n3_neq, n3_and, n3_or, n3_shl, n3_i, n3_cl, ↓hbd_0, ↓hbd_1, ↓hbd_2, hk_ob_0, hk_rd_0, hk_rd_1, hk_rd_2, hk_al_0, hk_al_1, h3r_0, h3r_1, hk_wi_0, hk_wj_0, h3w_0, h3w_1, h3v_0, hk_kI, hk_kJ, hk_kA, hk_kB, A_eq, A_ne, A_row, B_eq, B_ne, B_row, I_eq, I_ne, J_eq, J_ne, Option.bind_some, Option.some.injEq, if_true, if_false, eq_self, true_or, or_true, true_and, and_true, false_or, or_false, not_true_eq_false, not_false_eq_true, Classical.not_not, nar_b0, nar_b1, rz_0, rz_1, rz_i, ite01, Nat.add_zero, Nat.zero_add, Nat.one_mul, mul12, reduceIte, ra_z0, Nat.reduceEqDiff, Nat.reduceLT, Nat.reduceLeDiff, Nat.reduceAdd, Nat.reduceMul, Nat.reduceSub, Nat.reduceDiv, Nat.reduceMod, Bool.false_eq_true, false_and, and_false, reduceCtorEq, fX12_stand, nX12_stand_0, ht1, v1, v2, r_in32, j_l, j200, v3, e2, e3]
      · refine callOk.ask h (v := -n3 1) (v' := -n3 1) ?_ ?_ rfl
        · simp (maxSteps := 400000) (disch := omega) only [n3_l, n3_add, n3_mul, n3_sub, n3_subn, n3_lt, n3_le, n3_eq, n3_eqn, n3_neq, n3_and, n3_or, n3_shl, n3_i, n3_cl, ↓hbd_0, ↓hbd_1, ↓hbd_2, hk_ob_0, hk_rd_0, hk_rd_1, hk_rd_2, hk_al_0, hk_al_1, h3r_0, h3r_1, hk_wi_0, hk_wj_0, h3w_0, h3w_1, h3v_0, hk_kI, hk_kJ, hk_kA, hk_kB, A_eq, A_ne, A_row, B_eq, B_ne, B_row, I_eq, I_ne, J_eq, J_ne, Option.bind_some, Option.some.injEq, if_true, if_false, eq_self, true_or, or_true, true_and, and_true, false_or, or_false, not_true_eq_false, not_false_eq_true, Classical.not_not, nar_b0, nar_b1, rz_0, rz_1, rz_i, ite01, Nat.add_zero, Nat.zero_add, Nat.one_mul, mul12, reduceIte, ra_z0, Nat.reduceEqDiff, Nat.reduceLT, Nat.reduceLeDiff, Nat.reduceAdd, Nat.reduceMul, Nat.reduceSub, Nat.reduceDiv, Nat.reduceMod, Bool.false_eq_true, false_and, and_false, reduceCtorEq, fX11_stand, nX11_stand_0, hs, v1, v2, c_isTurn, v3, nX11_stand_29]
        · simp (maxSteps := 400000) (disch := omega) only [n3_l, n3_add, n3_mul, n3_sub, n3_subn, n3_lt, n3_le, n3_eq, n3_eqn, n3_neq, n3_and, n3_or, n3_shl, n3_i, n3_cl, ↓hbd_0, ↓hbd_1, ↓hbd_2, hk_ob_0, hk_rd_0, hk_rd_1, hk_rd_2, hk_al_0, hk_al_1, h3r_0, h3r_1, hk_wi_0, hk_wj_0, h3w_0, h3w_1, h3v_0, hk_kI, hk_kJ, hk_kA, hk_kB, A_eq, A_ne, A_row, B_eq, B_ne, B_row, I_eq, I_ne, J_eq, J_ne, Option.bind_some, Option.some.injEq, if_true, if_false, eq_self, true_or, or_true, true_and, and_true, false_or, or_false, not_true_eq_false, not_false_eq_true, Classical.not_not, nar_b0, nar_b1, rz_0, rz_1, rz_i, ite01, Nat.add_zero, Nat.zero_add, Nat.one_mul, mul12, reduceIte, ra_z0, Nat.reduceEqDiff, Nat.reduceLT, Nat.reduceLeDiff, Nat.reduceAdd, Nat.reduceMul, Nat.reduceSub, Nat.reduceDiv, Nat.reduceMod, Bool.false_eq_true, false_and, and_false, reduceCtorEq, fX12_stand, nX12_stand_0, ht', v1, v2, r_in32, j_l, j200, v3, nX12_stand_33]
    · refine callOk.ask h (v := -n3 1) (v' := -n3 1) ?_ ?_ rfl
      · simp (maxSteps := 400000) (disch := omega) only [n3_l, n3_add, n3_mul, n3_sub, n3_subn, n3_lt, n3_le, n3_eq, n3_eqn, n3_neq, n3_and, n3_or, n3_shl, n3_i, n3_cl, ↓hbd_0, ↓hbd_1, ↓hbd_2, hk_ob_0, hk_rd_0, hk_rd_1, hk_rd_2, hk_al_0, hk_al_1, h3r_0, h3r_1, hk_wi_0, hk_wj_0, h3w_0, h3w_1, h3v_0, hk_kI, hk_kJ, hk_kA, hk_kB, A_eq, A_ne, A_row, B_eq, B_ne, B_row, I_eq, I_ne, J_eq, J_ne, Option.bind_some, Option.some.injEq, if_true, if_false, eq_self, true_or, or_true, true_and, and_true, false_or, or_false, not_true_eq_false, not_false_eq_true, Classical.not_not, nar_b0, nar_b1, rz_0, rz_1, rz_i, ite01, Nat.add_zero, Nat.zero_add, Nat.one_mul, mul12, reduceIte, ra_z0, Nat.reduceEqDiff, Nat.reduceLT, Nat.reduceLeDiff, Nat.reduceAdd, Nat.reduceMul, Nat.reduceSub, Nat.reduceDiv, Nat.reduceMod, Bool.false_eq_true, false_and, and_false, reduceCtorEq, fX11_stand, nX11_stand_0, hs, v1, v2, nX11_stand_29]
      · simp (maxSteps := 400000) (disch := omega) only [n3_l, n3_add, n3_mul, n3_sub, n3_subn, n3_lt, n3_le, n3_eq, n3_eqn, n3_neq, n3_and, n3_or, n3_shl, n3_i, n3_cl, ↓hbd_0, ↓hbd_1, ↓hbd_2, hk_ob_0, hk_rd_0, hk_rd_1, hk_rd_2, hk_al_0, hk_al_1, h3r_0, h3r_1, hk_wi_0, hk_wj_0, h3w_0, h3w_1, h3v_0, hk_kI, hk_kJ, hk_kA, hk_kB, A_eq, A_ne, A_row, B_eq, B_ne, B_row, I_eq, I_ne, J_eq, J_ne, Option.bind_some, Option.some.injEq, if_true, if_false, eq_self, true_or, or_true, true_and, and_true, false_or, or_false, not_true_eq_false, not_false_eq_true, Classical.not_not, nar_b0, nar_b1, rz_0, rz_1, rz_i, ite01, Nat.add_zero, Nat.zero_add, Nat.one_mul, mul12, reduceIte, ra_z0, Nat.reduceEqDiff, Nat.reduceLT, Nat.reduceLeDiff, Nat.reduceAdd, Nat.reduceMul, Nat.reduceSub, Nat.reduceDiv, Nat.reduceMod, Bool.false_eq_true, false_and, and_false, reduceCtorEq, fX12_stand, nX12_stand_0, ht', v1, v2, nX12_stand_33]
  · refine callOk.ask h (v := -n3 1) (v' := -n3 1) ?_ ?_ rfl
    · simp (maxSteps := 400000) (disch := omega) only [n3_l, n3_add, n3_mul, n3_sub, n3_subn, n3_lt, n3_le, n3_eq, n3_eqn, n3_neq, n3_and, n3_or, n3_shl, n3_i, n3_cl, ↓hbd_0, ↓hbd_1, ↓hbd_2, hk_ob_0, hk_rd_0, hk_rd_1, hk_rd_2, hk_al_0, hk_al_1, h3r_0, h3r_1, hk_wi_0, hk_wj_0, h3w_0, h3w_1, h3v_0, hk_kI, hk_kJ, hk_kA, hk_kB, A_eq, A_ne, A_row, B_eq, B_ne, B_row, I_eq, I_ne, J_eq, J_ne, Option.bind_some, Option.some.injEq, if_true, if_false, eq_self, true_or, or_true, true_and, and_true, false_or, or_false, not_true_eq_false, not_false_eq_true, Classical.not_not, nar_b0, nar_b1, rz_0, rz_1, rz_i, ite01, Nat.add_zero, Nat.zero_add, Nat.one_mul, mul12, reduceIte, ra_z0, Nat.reduceEqDiff, Nat.reduceLT, Nat.reduceLeDiff, Nat.reduceAdd, Nat.reduceMul, Nat.reduceSub, Nat.reduceDiv, Nat.reduceMod, Bool.false_eq_true, false_and, and_false, reduceCtorEq, fX11_stand, nX11_stand_0, hs, v1, nX11_stand_29]
    · simp (maxSteps := 400000) (disch := omega) only [n3_l, n3_add, n3_mul, n3_sub, n3_subn, n3_lt, n3_le, n3_eq, n3_eqn, n3_neq, n3_and, n3_or, n3_shl, n3_i, n3_cl, ↓hbd_0, ↓hbd_1, ↓hbd_2, hk_ob_0, hk_rd_0, hk_rd_1, hk_rd_2, hk_al_0, hk_al_1, h3r_0, h3r_1, hk_wi_0, hk_wj_0, h3w_0, h3w_1, h3v_0, hk_kI, hk_kJ, hk_kA, hk_kB, A_eq, A_ne, A_row, B_eq, B_ne, B_row, I_eq, I_ne, J_eq, J_ne, Option.bind_some, Option.some.injEq, if_true, if_false, eq_self, true_or, or_true, true_and, and_true, false_or, or_false, not_true_eq_false, not_false_eq_true, Classical.not_not, nar_b0, nar_b1, rz_0, rz_1, rz_i, ite01, Nat.add_zero, Nat.zero_add, Nat.one_mul, mul12, reduceIte, ra_z0, Nat.reduceEqDiff, Nat.reduceLT, Nat.reduceLeDiff, Nat.reduceAdd, Nat.reduceMul, Nat.reduceSub, Nat.reduceDiv, Nat.reduceMod, Bool.false_eq_true, false_and, and_false, reduceCtorEq, fX12_stand, nX12_stand_0, ht', v1, nX12_stand_33]
theorem k_best (h : Inv L xs c κ) (hc : c < 4000) (hN : 100000 < N) (w : Int32) : callOk L xs c κ (fX11_best N 0 w) (fX12_best N 69 w) := by
  have h0 := h
  obtain ⟨n, nT, nL, nS, T, H⟩ := h0
  have H' : InvC L xs c κ n nT nL nS T := H
  have n40 := H'.toC.2.1
  have hF : hrF (hk_A κ 2) (hk_A κ 71) n := H'.2.2.1.2.2.1
  have hS : hrS (hk_A κ 3) (hk_A κ 4) (hk_A κ 5) (hk_A κ 71) := H'.2.2.1.2.2.2.1
  have cH' := H'.toC
  have t8 := cH'.2.2.2.1
  by_cases v : vIn 0 4 w = true ∧ 0 < nT
  · obtain ⟨v1, hT⟩ := v
    obtain ⟨w, -, hw, rfl⟩ := vK (lo := 0) (hi := 4) v1
    have cm : ∀ b, b < n → hk_A κ 2 (12 * b + 2) = n3 (cmF (hk_A κ 2) b) := fun b hb => by
      obtain ⟨k, -, k2, k3⟩ := vK (lo := 0) (hi := 199) (hF.2.2 b hb).2.1
      unfold cmF
      rw [k3, n3_toInt (by omega)]
      congr 1
      omega
    have c9 : ∀ b, cmF (hk_A κ 2) b ≤ 199 := fun b => by unfold cmF; omega
    have key : ∃ κ1 ks fs, fX11_best N 0 (n3 w) (hp κ) = some (bsV (bestF (rF κ T) (cmF (hk_A κ 2)) n nT) w, hp κ1) ∧ same ks fs κ κ1 ∧ InvC L xs c κ1 n nT nL nS T ∧ 71 ∉ ks := by
      by_cases k1 : hk_I κ 23 10 = n3 1
      · rcases H'.2.2.2.2.2.2.2.2.2.2.2.2.1 with z | ⟨z1, z2⟩
        · rw [z] at k1; exact absurd k1 (by decide)
        · exact ⟨κ, [], [], c_best1 N κ cH'.2.2.1 hT t8 hw k1 z2, same.refl _ _ _, H', by decide⟩
      · have k0 : hk_I κ 23 10 = n3 0 := by
          rcases H'.2.2.2.2.2.2.2.2.2.2.2.2.1 with z | z
          · exact z
          · exact absurd z.1 k1
        obtain ⟨κ1, e, s, a1, a2, a3⟩ := c_best0 N κ (R := rF κ T) (c := cmF (hk_A κ 2)) cH' hT hw k0 (fun t b _ _ => rfl) (fun t b s hs => seatX_lt (rsO_some hs)) cm c9 hN
        obtain ⟨h1, h2, h3, h4, h5, h8, h9, h10, h11, h12⟩ := H'
        have er : rF κ1 T = rF κ T := by
          funext t b
          unfold rF
          rw [s.1 2 (by decide), s.1 3 (by decide), s.1 5 (by decide)]
        refine ⟨κ1, _, _, e, s, ⟨s.xx h1, s.ro0 h2, s.hr (by decide) (by decide) h3, s.ttq t8 (fun x _ _ => by rw [s.1 71 (by decide)]) h4, s.im (by decide) (by decide) h5, s.sc (by decide) (by decide) h8, s.ta (by decide) (by decide) h9, s.wo (by decide) (by decide) h10, s.rf0 (by decide) (by decide) h11, ⟨a1.2.2.2.2.2.2.1, a1.2.2.2.2.2.2.2, s.c3 (by decide) (by decide) h12.2.2.1, Or.inr ⟨a3, ?_⟩, s.c5 (by decide) (by decide) h12.2.2.2.2.1, s.c6 (by decide) (by decide) h12.2.2.2.2.2⟩⟩, by decide⟩
        rw [er, s.1 2 (by decide)]
        exact a2
    obtain ⟨κ1, ks, fs, e1, s1, g1, d71⟩ := key
    have m1 : hk_A κ1 71 = hk_A κ 71 := s1.1 71 d71
    obtain ⟨u, hu, gr⟩ := g1.toR
    obtain ⟨κ2, o, e2, eo, s2, u', hu', gr2⟩ := r_best N κ1 (R := rF κ T) (c := cmF (hk_A κ 2)) gr (by omega) hT hw (fun t b ht hb => by
      rw [m1, fx_m hF hb, rsO_m hF hS hb (fun s hs => seatX_lt hs)]
      rfl) (fun b hb => by rw [m1, hF.1 (12 * b + 2) (by omega)]; exact cm b hb) c9 hN
    exact callOk.of H' e1 e2 rfl s1.2.2.2.2.2.2.2.2 (g1.refU s2 (by decide) (by decide) (rH.fI (u := 0) g1 s2 (by decide) (by decide) gr2 (by omega)))
  · exact callOk.ask h (c_best_x N κ cH'.2.2.1 t8 v) (r_best_x N κ H'.2.2.1.1.2.1.2.2 t8 v) rfl
end
