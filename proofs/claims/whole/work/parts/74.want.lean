/-! wanting -/
def orS (Q : Nat → Prop) [DecidablePred Q] (b : Nat) (s : Int32) : Int32 := if s = n3 0 then (if Q b then n3 1 else n3 0) else n3 1
theorem orS_1 (Q : Nat → Prop) [DecidablePred Q] : ∀ (d b : Nat), fo (orS Q) b d (n3 1) = n3 1 := by
  intro d
  induction d with
  | zero => intro b; rfl
  | succ d ih => intro b; exact ih (b + 1)
theorem orS_ex (Q : Nat → Prop) [DecidablePred Q] : ∀ (n : Nat), fo (orS Q) 0 n (n3 0) = if ∃ b, b < n ∧ Q b then n3 1 else n3 0 := by
  intro n
  induction n with
  | zero => rw [if_neg (by rintro ⟨b, h, -⟩; omega)]; rfl
  | succ n ih =>
    rw [fo_last, ih, Nat.zero_add]
    unfold orS
    by_cases h : ∃ b, b < n ∧ Q b
    · have h' : ∃ b, b < n + 1 ∧ Q b := by
        obtain ⟨b, h1, h2⟩ := h
        exact ⟨b, by omega, h2⟩
      rw [if_pos h, if_pos h']
      exact if_neg (by decide)
    · rw [if_neg h]
      by_cases hQ : Q n
      · have h' : ∃ b, b < n + 1 ∧ Q b := ⟨n, by omega, hQ⟩
        rw [if_pos h', if_pos hQ]; rfl
      · have h' : ¬ ∃ b, b < n + 1 ∧ Q b := by
          rintro ⟨b, h1, h2⟩
          by_cases e : b = n
          · subst e; exact hQ h2
          · exact h ⟨b, by omega, h2⟩
        rw [if_neg h', if_neg hQ]; rfl
theorem greatest_ex (F : Nat → Int32) (l : Int32) : ∀ n, (∀ b, b < n → F (12 * b) = l → ∃ y, F (12 * b + 1) = n3 y ∧ 1 ≤ y ∧ y ≤ 99) → ∃ g, g ≤ 99 ∧ sp_greatest F l n = n3 g ∧ (g = 0 ∨ ∃ b, b < n ∧ F (12 * b) = l ∧ F (12 * b + 1) = n3 g) := by
  intro n
  induction n with
  | zero => intro _; exact ⟨0, by omega, rfl, Or.inl rfl⟩
  | succ n ih =>
    intro h
    obtain ⟨g, h1, h2, h3⟩ := ih (fun b hb => h b (by omega))
    unfold sp_greatest at h2 ⊢
    rw [fo_last, h2, Nat.zero_add]
    have h3' : g = 0 ∨ ∃ b, b < n + 1 ∧ F (12 * b) = l ∧ F (12 * b + 1) = n3 g := by
      rcases h3 with e | ⟨b, hb, e⟩
      · exact Or.inl e
      · exact Or.inr ⟨b, by omega, e⟩
    by_cases hl : F (12 * n) = l
    · obtain ⟨y, y1, y2, y3⟩ := h n (by omega) hl
      rw [if_pos hl, y1]
      by_cases hg : n3 g < n3 y
      · rw [if_pos hg]; exact ⟨y, y3, rfl, Or.inr ⟨n, by omega, hl, y1⟩⟩
      · rw [if_neg hg]; exact ⟨g, h1, rfl, h3'⟩
    · rw [if_neg hl]; exact ⟨g, h1, rfl, h3'⟩
section
variable (N : Nat) (κ : hk_T)
theorem c_wanting {n : Nat} {l w i : Int32} (hB : hk_I κ 1 13 = n3 n) (hn : n ≤ 40) (hN : 1000 < N) (hF : ∀ b, b < n → hk_A κ 2 (12 * b) = l → ∃ y, hk_A κ 2 (12 * b + 1) = n3 y ∧ 1 ≤ y ∧ y ≤ 99) {g : Nat} (hg : sp_greatest (hk_A κ 2) l n = n3 g) (hg9 : g ≤ 99) :
    fX11_wanting N 0 l w i (hp κ) = some (if vIn 0 8 l = true ∧ vIn 0 2 w = true then (if w = n3 2 then sp_books (hk_A κ 2) l n else pick w (fo (stI i (fun v => ¬ ∃ b, b < n ∧ hk_A κ 2 (12 * b) = l ∧ hk_A κ 2 (12 * b + 1) = n3 v) n3) 1 (g - 1) (n3 0, -n3 1))) else -n3 1, hp κ) := by
  unfold fX11_wanting nX11_wanting_0 nX11_wanting_19
  simp (maxSteps := 400000) (disch := omega) only [n3_l, n3_add, n3_mul, n3_sub, n3_subn, n3_lt, n3_le, n3_eq, n3_eqn, n3_neq, n3_and, n3_or, n3_shl, n3_i, n3_cl, ↓hbd_0, ↓hbd_1, ↓hbd_2, hk_ob_0, hk_rd_0, hk_rd_1, hk_rd_2, hk_al_0, hk_al_1, h3r_0, h3r_1, hk_wi_0, hk_wj_0, h3w_0, h3w_1, h3v_0, hk_kI, hk_kJ, hk_kA, hk_kB, A_eq, A_ne, A_row, B_eq, B_ne, B_row, I_eq, I_ne, J_eq, J_ne, Option.bind_some, Option.some.injEq, if_true, if_false, eq_self, true_or, or_true, true_and, and_true, false_or, or_false, not_true_eq_false, not_false_eq_true, Classical.not_not, nar_b0, nar_b1, rz_0, rz_1, rz_i, ite01, Nat.add_zero, Nat.zero_add, Nat.one_mul, mul12, reduceIte, ra_z0, Nat.reduceEqDiff, Nat.reduceLT, Nat.reduceLeDiff, Nat.reduceAdd, Nat.reduceMul, Nat.reduceSub, Nat.reduceDiv, Nat.reduceMod, Bool.false_eq_true, false_and, and_false, reduceCtorEq, lt3, le3]
  by_cases hl : vIn 0 8 l = true
  · have hl' := vIn_iff.mp hl
    rw [if_neg (by omega), if_pos (by omega)]
    by_cases hw : vIn 0 2 w = true
    · have hw' := vIn_iff.mp hw
      rw [if_neg (by omega), if_pos (by omega)]
      by_cases h2 : w = n3 2
      · have hw2 : vIn 0 2 (n3 2) = true := by rw [← h2]; exact hw
        simp (maxSteps := 400000) (disch := omega) only [n3_l, n3_add, n3_mul, n3_sub, n3_subn, n3_lt, n3_le, n3_eq, n3_eqn, n3_neq, n3_and, n3_or, n3_shl, n3_i, n3_cl, ↓hbd_0, ↓hbd_1, ↓hbd_2, hk_ob_0, hk_rd_0, hk_rd_1, hk_rd_2, hk_al_0, hk_al_1, h3r_0, h3r_1, hk_wi_0, hk_wj_0, h3w_0, h3w_1, h3v_0, hk_kI, hk_kJ, hk_kA, hk_kB, A_eq, A_ne, A_row, B_eq, B_ne, B_row, I_eq, I_ne, J_eq, J_ne, Option.bind_some, Option.some.injEq, if_true, if_false, eq_self, true_or, or_true, true_and, and_true, false_or, or_false, not_true_eq_false, not_false_eq_true, Classical.not_not, nar_b0, nar_b1, rz_0, rz_1, rz_i, ite01, Nat.add_zero, Nat.zero_add, Nat.one_mul, mul12, reduceIte, ra_z0, Nat.reduceEqDiff, Nat.reduceLT, Nat.reduceLeDiff, Nat.reduceAdd, Nat.reduceMul, Nat.reduceSub, Nat.reduceDiv, Nat.reduceMod, Bool.false_eq_true, false_and, and_false, reduceCtorEq, h_booksWithLetter N κ hB hn hN, h2, hl, hw2]
      · simp (maxSteps := 400000) (disch := omega) only [n3_l, n3_add, n3_mul, n3_sub, n3_subn, n3_lt, n3_le, n3_eq, n3_eqn, n3_neq, n3_and, n3_or, n3_shl, n3_i, n3_cl, ↓hbd_0, ↓hbd_1, ↓hbd_2, hk_ob_0, hk_rd_0, hk_rd_1, hk_rd_2, hk_al_0, hk_al_1, h3r_0, h3r_1, hk_wi_0, hk_wj_0, h3w_0, h3w_1, h3v_0, hk_kI, hk_kJ, hk_kA, hk_kB, A_eq, A_ne, A_row, B_eq, B_ne, B_row, I_eq, I_ne, J_eq, J_ne, Option.bind_some, Option.some.injEq, if_true, if_false, eq_self, true_or, or_true, true_and, and_true, false_or, or_false, not_true_eq_false, not_false_eq_true, Classical.not_not, nar_b0, nar_b1, rz_0, rz_1, rz_i, ite01, Nat.add_zero, Nat.zero_add, Nat.one_mul, mul12, reduceIte, ra_z0, Nat.reduceEqDiff, Nat.reduceLT, Nat.reduceLeDiff, Nat.reduceAdd, Nat.reduceMul, Nat.reduceSub, Nat.reduceDiv, Nat.reduceMod, Bool.false_eq_true, false_and, and_false, reduceCtorEq, h_greatest N κ hB hn hN, hg, h2, hl, hw]
        rw [← pick_c hw]
        have stop : ∀ m p v, g ≤ v → v < 1000 → nX11_wanting_51 N (m + 1) 0 l w i (n3 g) p (n3 v) (hp κ) = if w = n3 0 then some (p, hp κ) else some (-n3 1, hp κ) := by
          intro m p v h1 h3
          have : ¬ v < g := by omega
          rw [nX11_wanting_51]
          simp (maxSteps := 400000) (disch := omega) only [n3_l, n3_add, n3_mul, n3_sub, n3_subn, n3_lt, n3_le, n3_eq, n3_eqn, n3_neq, n3_and, n3_or, n3_shl, n3_i, n3_cl, ↓hbd_0, ↓hbd_1, ↓hbd_2, hk_ob_0, hk_rd_0, hk_rd_1, hk_rd_2, hk_al_0, hk_al_1, h3r_0, h3r_1, hk_wi_0, hk_wj_0, h3w_0, h3w_1, h3v_0, hk_kI, hk_kJ, hk_kA, hk_kB, A_eq, A_ne, A_row, B_eq, B_ne, B_row, I_eq, I_ne, J_eq, J_ne, Option.bind_some, Option.some.injEq, if_true, if_false, eq_self, true_or, or_true, true_and, and_true, false_or, or_false, not_true_eq_false, not_false_eq_true, Classical.not_not, nar_b0, nar_b1, rz_0, rz_1, rz_i, ite01, Nat.add_zero, Nat.zero_add, Nat.one_mul, mul12, reduceIte, ra_z0, Nat.reduceEqDiff, Nat.reduceLT, Nat.reduceLeDiff, Nat.reduceAdd, Nat.reduceMul, Nat.reduceSub, Nat.reduceDiv, Nat.reduceMod, Bool.false_eq_true, false_and, and_false, reduceCtorEq, this, nX11_wanting_104]
        by_cases g0 : g = 0
        · subst g0
          obtain ⟨M, rfl⟩ : ∃ q, N = q + 1 := ⟨N - 1, by omega⟩
          rw [stop M _ 1 (by omega) (by omega)]
          show _ = if _ ∧ -n3 1 ≠ -n3 1 then _ else _
          simp only [ne_eq, not_true_eq_false, and_false, if_false]
          rfl
        · refine srch (i := i) (P := fun v => ¬ ∃ b, b < n ∧ hk_A κ 2 (12 * b) = l ∧ hk_A κ 2 (12 * b + 1) = n3 v) (val := n3) (w := decide (¬ w = n3 0)) (e := g) (fun m p v => nX11_wanting_51 N m 0 l w i (n3 g) p (n3 v) (hp κ)) (fun p => if w = n3 0 then some (p, hp κ) else some (-n3 1, hp κ)) (fun v => some (v, hp κ)) (fun b hb z => (n3_eqn (by omega) (by omega) (by omega)).mp z) ?_ ?_ (g - 1) 1 0 N (by omega) (by omega) (by omega)
          · intro m k v hv hk
            have hw01 : ¬ w = n3 0 → w = n3 1 := fun z => by
              have h2' : ¬ w.toInt = 2 := fun q => h2 (by rw [i_eq, n3_toInt (by omega)]; omega)
              have h0' : ¬ w.toInt = 0 := fun q => z (by rw [i_eq, n3_toInt (by omega)]; omega)
              rw [i_eq, n3_toInt (by omega)]; omega
            rw [nX11_wanting_51]
            simp (maxSteps := 400000) (disch := omega) only [n3_l, n3_add, n3_mul, n3_sub, n3_subn, n3_lt, n3_le, n3_eq, n3_eqn, n3_neq, n3_and, n3_or, n3_shl, n3_i, n3_cl, ↓hbd_0, ↓hbd_1, ↓hbd_2, hk_ob_0, hk_rd_0, hk_rd_1, hk_rd_2, hk_al_0, hk_al_1, h3r_0, h3r_1, hk_wi_0, hk_wj_0, h3w_0, h3w_1, h3v_0, hk_kI, hk_kJ, hk_kA, hk_kB, A_eq, A_ne, A_row, B_eq, B_ne, B_row, I_eq, I_ne, J_eq, J_ne, Option.bind_some, Option.some.injEq, if_true, if_false, eq_self, true_or, or_true, true_and, and_true, false_or, or_false, not_true_eq_false, not_false_eq_true, Classical.not_not, nar_b0, nar_b1, rz_0, rz_1, rz_i, ite01, Nat.add_zero, Nat.zero_add, Nat.one_mul, mul12, reduceIte, ra_z0, Nat.reduceEqDiff, Nat.reduceLT, Nat.reduceLeDiff, Nat.reduceAdd, Nat.reduceMul, Nat.reduceSub, Nat.reduceDiv, Nat.reduceMod, Bool.false_eq_true, false_and, and_false, reduceCtorEq, hv, h_hasMark N κ hB hn hN, nX11_wanting_85, nX11_wanting_88]
            simp only [decide_not, Bool.not_eq_eq_eq_not, Bool.not_true, decide_eq_false_iff_not]
            by_cases h0 : w = n3 0
            · simp (maxSteps := 400000) (disch := omega) only [n3_l, n3_add, n3_mul, n3_sub, n3_subn, n3_lt, n3_le, n3_eq, n3_eqn, n3_neq, n3_and, n3_or, n3_shl, n3_i, n3_cl, ↓hbd_0, ↓hbd_1, ↓hbd_2, hk_ob_0, hk_rd_0, hk_rd_1, hk_rd_2, hk_al_0, hk_al_1, h3r_0, h3r_1, hk_wi_0, hk_wj_0, h3w_0, h3w_1, h3v_0, hk_kI, hk_kJ, hk_kA, hk_kB, A_eq, A_ne, A_row, B_eq, B_ne, B_row, I_eq, I_ne, J_eq, J_ne, Option.bind_some, Option.some.injEq, if_true, if_false, eq_self, true_or, or_true, true_and, and_true, false_or, or_false, not_true_eq_false, not_false_eq_true, Classical.not_not, nar_b0, nar_b1, rz_0, rz_1, rz_i, ite01, Nat.add_zero, Nat.zero_add, Nat.one_mul, mul12, reduceIte, ra_z0, Nat.reduceEqDiff, Nat.reduceLT, Nat.reduceLeDiff, Nat.reduceAdd, Nat.reduceMul, Nat.reduceSub, Nat.reduceDiv, Nat.reduceMod, Bool.false_eq_true, false_and, and_false, reduceCtorEq, h0]
            · simp (maxSteps := 400000) (disch := omega) only [n3_l, n3_add, n3_mul, n3_sub, n3_subn, n3_lt, n3_le, n3_eq, n3_eqn, n3_neq, n3_and, n3_or, n3_shl, n3_i, n3_cl, ↓hbd_0, ↓hbd_1, ↓hbd_2, hk_ob_0, hk_rd_0, hk_rd_1, hk_rd_2, hk_al_0, hk_al_1, h3r_0, h3r_1, hk_wi_0, hk_wj_0, h3w_0, h3w_1, h3v_0, hk_kI, hk_kJ, hk_kA, hk_kB, A_eq, A_ne, A_row, B_eq, B_ne, B_row, I_eq, I_ne, J_eq, J_ne, Option.bind_some, Option.some.injEq, if_true, if_false, eq_self, true_or, or_true, true_and, and_true, false_or, or_false, not_true_eq_false, not_false_eq_true, Classical.not_not, nar_b0, nar_b1, rz_0, rz_1, rz_i, ite01, Nat.add_zero, Nat.zero_add, Nat.one_mul, mul12, reduceIte, ra_z0, Nat.reduceEqDiff, Nat.reduceLT, Nat.reduceLeDiff, Nat.reduceAdd, Nat.reduceMul, Nat.reduceSub, Nat.reduceDiv, Nat.reduceMod, Bool.false_eq_true, false_and, and_false, reduceCtorEq, h0, hw01 h0]
          · intro m k
            exact stop m (n3 k) g (Nat.le_refl _) (by omega)
    · have hw' : ¬ (0 ≤ w.toInt ∧ w.toInt ≤ 2) := fun z => hw (vIn_iff.mpr z)
      simp (maxSteps := 400000) (disch := omega) only [n3_l, n3_add, n3_mul, n3_sub, n3_subn, n3_lt, n3_le, n3_eq, n3_eqn, n3_neq, n3_and, n3_or, n3_shl, n3_i, n3_cl, ↓hbd_0, ↓hbd_1, ↓hbd_2, hk_ob_0, hk_rd_0, hk_rd_1, hk_rd_2, hk_al_0, hk_al_1, h3r_0, h3r_1, hk_wi_0, hk_wj_0, h3w_0, h3w_1, h3v_0, hk_kI, hk_kJ, hk_kA, hk_kB, A_eq, A_ne, A_row, B_eq, B_ne, B_row, I_eq, I_ne, J_eq, J_ne, Option.bind_some, Option.some.injEq, if_true, if_false, eq_self, true_or, or_true, true_and, and_true, false_or, or_false, not_true_eq_false, not_false_eq_true, Classical.not_not, nar_b0, nar_b1, rz_0, rz_1, rz_i, ite01, Nat.add_zero, Nat.zero_add, Nat.one_mul, mul12, reduceIte, ra_z0, Nat.reduceEqDiff, Nat.reduceLT, Nat.reduceLeDiff, Nat.reduceAdd, Nat.reduceMul, Nat.reduceSub, Nat.reduceDiv, Nat.reduceMod, Bool.false_eq_true, false_and, and_false, reduceCtorEq, hl, hw]
      split
      · rfl
      · rw [if_neg (by omega)]
  · have hl' : ¬ (0 ≤ l.toInt ∧ l.toInt ≤ 8) := fun z => hl (vIn_iff.mpr z)
    simp (maxSteps := 400000) (disch := omega) only [n3_l, n3_add, n3_mul, n3_sub, n3_subn, n3_lt, n3_le, n3_eq, n3_eqn, n3_neq, n3_and, n3_or, n3_shl, n3_i, n3_cl, ↓hbd_0, ↓hbd_1, ↓hbd_2, hk_ob_0, hk_rd_0, hk_rd_1, hk_rd_2, hk_al_0, hk_al_1, h3r_0, h3r_1, hk_wi_0, hk_wj_0, h3w_0, h3w_1, h3v_0, hk_kI, hk_kJ, hk_kA, hk_kB, A_eq, A_ne, A_row, B_eq, B_ne, B_row, I_eq, I_ne, J_eq, J_ne, Option.bind_some, Option.some.injEq, if_true, if_false, eq_self, true_or, or_true, true_and, and_true, false_or, or_false, not_true_eq_false, not_false_eq_true, Classical.not_not, nar_b0, nar_b1, rz_0, rz_1, rz_i, ite01, Nat.add_zero, Nat.zero_add, Nat.one_mul, mul12, reduceIte, ra_z0, Nat.reduceEqDiff, Nat.reduceLT, Nat.reduceLeDiff, Nat.reduceAdd, Nat.reduceMul, Nat.reduceSub, Nat.reduceDiv, Nat.reduceMod, Bool.false_eq_true, false_and, and_false, reduceCtorEq, hl]
    split
    · rfl
    · rw [if_neg (by omega)]
theorem r_wanting {n : Nat} {l w i : Int32} (hB : hk_A κ 71 480 = n3 n) (hn : n ≤ 40) (hN : 1000 < N) {g : Nat} (hg : sp_greatest (hk_A κ 71) l n = n3 g) (hg9 : g ≤ 99) :
    fX12_wanting N 69 l w i (hp κ) = some (if vIn 0 8 l = true ∧ vIn 0 2 w = true then (if w = n3 2 then sp_books (hk_A κ 71) l n else pick w (fo (stI i (fun v => ¬ ∃ b, b < n ∧ hk_A κ 71 (12 * b) = l ∧ hk_A κ 71 (12 * b + 1) = n3 v) n3) 1 g (n3 0, -n3 1))) else -n3 1, hp (hk_wI κ 69 0 (n3 0))) := by
  unfold fX12_wanting nX12_wanting_0 nX12_wanting_29
  simp (maxSteps := 400000) (disch := omega) only [n3_l, n3_add, n3_mul, n3_sub, n3_subn, n3_lt, n3_le, n3_eq, n3_eqn, n3_neq, n3_and, n3_or, n3_shl, n3_i, n3_cl, ↓hbd_0, ↓hbd_1, ↓hbd_2, hk_ob_0, hk_rd_0, hk_rd_1, hk_rd_2, hk_al_0, hk_al_1, h3r_0, h3r_1, hk_wi_0, hk_wj_0, h3w_0, h3w_1, h3v_0, hk_kI, hk_kJ, hk_kA, hk_kB, A_eq, A_ne, A_row, B_eq, B_ne, B_row, I_eq, I_ne, J_eq, J_ne, Option.bind_some, Option.some.injEq, if_true, if_false, eq_self, true_or, or_true, true_and, and_true, false_or, or_false, not_true_eq_false, not_false_eq_true, Classical.not_not, nar_b0, nar_b1, rz_0, rz_1, rz_i, ite01, Nat.add_zero, Nat.zero_add, Nat.one_mul, mul12, reduceIte, ra_z0, Nat.reduceEqDiff, Nat.reduceLT, Nat.reduceLeDiff, Nat.reduceAdd, Nat.reduceMul, Nat.reduceSub, Nat.reduceDiv, Nat.reduceMod, Bool.false_eq_true, false_and, and_false, reduceCtorEq, r_in32, j_l]
  by_cases hl : vIn 0 8 l = true
  · by_cases hw : vIn 0 2 w = true
    · simp (maxSteps := 400000) (disch := omega) only [n3_l, n3_add, n3_mul, n3_sub, n3_subn, n3_lt, n3_le, n3_eq, n3_eqn, n3_neq, n3_and, n3_or, n3_shl, n3_i, n3_cl, ↓hbd_0, ↓hbd_1, ↓hbd_2, hk_ob_0, hk_rd_0, hk_rd_1, hk_rd_2, hk_al_0, hk_al_1, h3r_0, h3r_1, hk_wi_0, hk_wj_0, h3w_0, h3w_1, h3v_0, hk_kI, hk_kJ, hk_kA, hk_kB, A_eq, A_ne, A_row, B_eq, B_ne, B_row, I_eq, I_ne, J_eq, J_ne, Option.bind_some, Option.some.injEq, if_true, if_false, eq_self, true_or, or_true, true_and, and_true, false_or, or_false, not_true_eq_false, not_false_eq_true, Classical.not_not, nar_b0, nar_b1, rz_0, rz_1, rz_i, ite01, Nat.add_zero, Nat.zero_add, Nat.one_mul, mul12, reduceIte, ra_z0, Nat.reduceEqDiff, Nat.reduceLT, Nat.reduceLeDiff, Nat.reduceAdd, Nat.reduceMul, Nat.reduceSub, Nat.reduceDiv, Nat.reduceMod, Bool.false_eq_true, false_and, and_false, reduceCtorEq, hl, hw]
      have e1 : nX12_wanting_40 N N 69 l w i (n3 0) (n3 0) (n3 0) (hp (hk_wI κ 69 0 (n3 0))) = nX12_wanting_121 N N 69 l w i (sp_greatest (hk_A κ 71) l n) (sp_books (hk_A κ 71) l n) (n3 0) (-n3 1) (n3 1) (hp (hk_wI κ 69 0 (n3 0))) := by
        have := lp0 (fun m b (s : Int32 × Int32) => nX12_wanting_40 N m 69 l w i s.1 s.2 (n3 b) (hp (hk_wI κ 69 0 (n3 0)))) n (fun b s => if hk_A κ 71 (12 * b) = l then ((if s.1 < hk_A κ 71 (12 * b + 1) then hk_A κ 71 (12 * b + 1) else s.1), s.2 + n3 1) else s) (fun s => nX12_wanting_121 N N 69 l w i s.1 s.2 (n3 0) (-n3 1) (n3 1) (hp (hk_wI κ 69 0 (n3 0)))) (by
          intro m b s hb
          rw [nX12_wanting_40]
          simp (maxSteps := 400000) (disch := omega) only [n3_l, n3_add, n3_mul, n3_sub, n3_subn, n3_lt, n3_le, n3_eq, n3_eqn, n3_neq, n3_and, n3_or, n3_shl, n3_i, n3_cl, ↓hbd_0, ↓hbd_1, ↓hbd_2, hk_ob_0, hk_rd_0, hk_rd_1, hk_rd_2, hk_al_0, hk_al_1, h3r_0, h3r_1, hk_wi_0, hk_wj_0, h3w_0, h3w_1, h3v_0, hk_kI, hk_kJ, hk_kA, hk_kB, A_eq, A_ne, A_row, B_eq, B_ne, B_row, I_eq, I_ne, J_eq, J_ne, Option.bind_some, Option.some.injEq, if_true, if_false, eq_self, true_or, or_true, true_and, and_true, false_or, or_false, not_true_eq_false, not_false_eq_true, Classical.not_not, nar_b0, nar_b1, rz_0, rz_1, rz_i, ite01, Nat.add_zero, Nat.zero_add, Nat.one_mul, mul12, reduceIte, ra_z0, Nat.reduceEqDiff, Nat.reduceLT, Nat.reduceLeDiff, Nat.reduceAdd, Nat.reduceMul, Nat.reduceSub, Nat.reduceDiv, Nat.reduceMod, Bool.false_eq_true, false_and, and_false, reduceCtorEq, hB, hb, nX12_wanting_104, nX12_wanting_106]
          have l1 : ∀ x y : Int32, (x ≤ y) ↔ ¬ y < x := fun x y => by rw [i_le, i_lt]; omega
          simp only [l1]
          (repeat' split) <;> first | rfl | contradiction) (by
          intro m s
          rw [nX12_wanting_40]
          simp (maxSteps := 400000) (disch := omega) only [n3_l, n3_add, n3_mul, n3_sub, n3_subn, n3_lt, n3_le, n3_eq, n3_eqn, n3_neq, n3_and, n3_or, n3_shl, n3_i, n3_cl, ↓hbd_0, ↓hbd_1, ↓hbd_2, hk_ob_0, hk_rd_0, hk_rd_1, hk_rd_2, hk_al_0, hk_al_1, h3r_0, h3r_1, hk_wi_0, hk_wj_0, h3w_0, h3w_1, h3v_0, hk_kI, hk_kJ, hk_kA, hk_kB, A_eq, A_ne, A_row, B_eq, B_ne, B_row, I_eq, I_ne, J_eq, J_ne, Option.bind_some, Option.some.injEq, if_true, if_false, eq_self, true_or, or_true, true_and, and_true, false_or, or_false, not_true_eq_false, not_false_eq_true, Classical.not_not, nar_b0, nar_b1, rz_0, rz_1, rz_i, ite01, Nat.add_zero, Nat.zero_add, Nat.one_mul, mul12, reduceIte, ra_z0, Nat.reduceEqDiff, Nat.reduceLT, Nat.reduceLeDiff, Nat.reduceAdd, Nat.reduceMul, Nat.reduceSub, Nat.reduceDiv, Nat.reduceMod, Bool.false_eq_true, false_and, and_false, reduceCtorEq, hB, Nat.lt_irrefl]) (m := N) (by omega) (n3 0, n3 0)
        rw [this]
        have e2 : ∀ k, fo (fun b (s : Int32 × Int32) => if hk_A κ 71 (12 * b) = l then ((if s.1 < hk_A κ 71 (12 * b + 1) then hk_A κ 71 (12 * b + 1) else s.1), s.2 + n3 1) else s) 0 k (n3 0, n3 0) = (sp_greatest (hk_A κ 71) l k, sp_books (hk_A κ 71) l k) := by
          intro k
          induction k with
          | zero => rfl
          | succ k ih =>
            unfold sp_greatest sp_books at ih ⊢
            rw [fo_last, fo_last, fo_last, ih, Nat.zero_add]
            split <;> rfl
        rw [e2]
      rw [e1, hg]
      refine (lp (fun m v (s : Int32 × Int32) => nX12_wanting_121 N m 69 l w i (n3 g) (sp_books (hk_A κ 71) l n) s.1 s.2 (n3 v) (hp (hk_wI κ 69 0 (n3 0)))) (g + 1) _ (fun s => some (if w = n3 2 then sp_books (hk_A κ 71) l n else pick w s, hp (hk_wI κ 69 0 (n3 0)))) (fun v _ => 1 ≤ v) ?_ ?_ g 1 N (n3 0, -n3 1) (by omega) (by omega) (by omega)).1
      · intro m v s hv hI
        refine ⟨?_, by omega⟩
        have hvg : v ≤ g := by omega
        rw [nX12_wanting_121]
        simp (maxSteps := 400000) (disch := omega) only [n3_l, n3_add, n3_mul, n3_sub, n3_subn, n3_lt, n3_le, n3_eq, n3_eqn, n3_neq, n3_and, n3_or, n3_shl, n3_i, n3_cl, ↓hbd_0, ↓hbd_1, ↓hbd_2, hk_ob_0, hk_rd_0, hk_rd_1, hk_rd_2, hk_al_0, hk_al_1, h3r_0, h3r_1, hk_wi_0, hk_wj_0, h3w_0, h3w_1, h3v_0, hk_kI, hk_kJ, hk_kA, hk_kB, A_eq, A_ne, A_row, B_eq, B_ne, B_row, I_eq, I_ne, J_eq, J_ne, Option.bind_some, Option.some.injEq, if_true, if_false, eq_self, true_or, or_true, true_and, and_true, false_or, or_false, not_true_eq_false, not_false_eq_true, Classical.not_not, nar_b0, nar_b1, rz_0, rz_1, rz_i, ite01, Nat.add_zero, Nat.zero_add, Nat.one_mul, mul12, reduceIte, ra_z0, Nat.reduceEqDiff, Nat.reduceLT, Nat.reduceLeDiff, Nat.reduceAdd, Nat.reduceMul, Nat.reduceSub, Nat.reduceDiv, Nat.reduceMod, Bool.false_eq_true, false_and, and_false, reduceCtorEq, hvg]
        have := lp0 (fun m' b t => nX12_wanting_134 N (nX12_wanting_121 N m) m' 69 l w i (n3 g) (sp_books (hk_A κ 71) l n) s.1 s.2 (n3 v) t (n3 b) (hp (hk_wI κ 69 0 (n3 0)))) n (orS (fun b => hk_A κ 71 (12 * b) = l ∧ hk_A κ 71 (12 * b + 1) = n3 v)) (fun t => nX12_wanting_121 N m 69 l w i (n3 g) (sp_books (hk_A κ 71) l n) (if t = n3 0 then s.1 + n3 1 else s.1) (if t = n3 0 then (if s.1 = i then n3 v else s.2) else s.2) (n3 (v + 1)) (hp (hk_wI κ 69 0 (n3 0)))) (by
          intro m' b t hb
          rw [nX12_wanting_134]
          simp (maxSteps := 400000) (disch := omega) only [n3_l, n3_add, n3_mul, n3_sub, n3_subn, n3_lt, n3_le, n3_eq, n3_eqn, n3_neq, n3_and, n3_or, n3_shl, n3_i, n3_cl, ↓hbd_0, ↓hbd_1, ↓hbd_2, hk_ob_0, hk_rd_0, hk_rd_1, hk_rd_2, hk_al_0, hk_al_1, h3r_0, h3r_1, hk_wi_0, hk_wj_0, h3w_0, h3w_1, h3v_0, hk_kI, hk_kJ, hk_kA, hk_kB, A_eq, A_ne, A_row, B_eq, B_ne, B_row, I_eq, I_ne, J_eq, J_ne, Option.bind_some, Option.some.injEq, if_true, if_false, eq_self, true_or, or_true, true_and, and_true, false_or, or_false, not_true_eq_false, not_false_eq_true, Classical.not_not, nar_b0, nar_b1, rz_0, rz_1, rz_i, ite01, Nat.add_zero, Nat.zero_add, Nat.one_mul, mul12, reduceIte, ra_z0, Nat.reduceEqDiff, Nat.reduceLT, Nat.reduceLeDiff, Nat.reduceAdd, Nat.reduceMul, Nat.reduceSub, Nat.reduceDiv, Nat.reduceMod, Bool.false_eq_true, false_and, and_false, reduceCtorEq, hB, hb, nX12_wanting_183, nX12_wanting_187, nX12_wanting_188]
          unfold orS
          (repeat' split) <;> first | rfl | contradiction | (simp_all; done)) (by
          intro m' t
          rw [nX12_wanting_134]
          simp (maxSteps := 400000) (disch := omega) only [n3_l, n3_add, n3_mul, n3_sub, n3_subn, n3_lt, n3_le, n3_eq, n3_eqn, n3_neq, n3_and, n3_or, n3_shl, n3_i, n3_cl, ↓hbd_0, ↓hbd_1, ↓hbd_2, hk_ob_0, hk_rd_0, hk_rd_1, hk_rd_2, hk_al_0, hk_al_1, h3r_0, h3r_1, hk_wi_0, hk_wj_0, h3w_0, h3w_1, h3v_0, hk_kI, hk_kJ, hk_kA, hk_kB, A_eq, A_ne, A_row, B_eq, B_ne, B_row, I_eq, I_ne, J_eq, J_ne, Option.bind_some, Option.some.injEq, if_true, if_false, eq_self, true_or, or_true, true_and, and_true, false_or, or_false, not_true_eq_false, not_false_eq_true, Classical.not_not, nar_b0, nar_b1, rz_0, rz_1, rz_i, ite01, Nat.add_zero, Nat.zero_add, Nat.one_mul, mul12, reduceIte, ra_z0, Nat.reduceEqDiff, Nat.reduceLT, Nat.reduceLeDiff, Nat.reduceAdd, Nat.reduceMul, Nat.reduceSub, Nat.reduceDiv, Nat.reduceMod, Bool.false_eq_true, false_and, and_false, reduceCtorEq, hB, Nat.lt_irrefl, nX12_wanting_214, nX12_wanting_219]
          (repeat' split) <;> first | rfl | contradiction) (m := N) (by omega) (n3 0)
        rw [this, orS_ex]
        unfold stI
        by_cases c : ∃ b, b < n ∧ hk_A κ 71 (12 * b) = l ∧ hk_A κ 71 (12 * b + 1) = n3 v
        · simp (maxSteps := 400000) (disch := omega) only [n3_l, n3_add, n3_mul, n3_sub, n3_subn, n3_lt, n3_le, n3_eq, n3_eqn, n3_neq, n3_and, n3_or, n3_shl, n3_i, n3_cl, ↓hbd_0, ↓hbd_1, ↓hbd_2, hk_ob_0, hk_rd_0, hk_rd_1, hk_rd_2, hk_al_0, hk_al_1, h3r_0, h3r_1, hk_wi_0, hk_wj_0, h3w_0, h3w_1, h3v_0, hk_kI, hk_kJ, hk_kA, hk_kB, A_eq, A_ne, A_row, B_eq, B_ne, B_row, I_eq, I_ne, J_eq, J_ne, Option.bind_some, Option.some.injEq, if_true, if_false, eq_self, true_or, or_true, true_and, and_true, false_or, or_false, not_true_eq_false, not_false_eq_true, Classical.not_not, nar_b0, nar_b1, rz_0, rz_1, rz_i, ite01, Nat.add_zero, Nat.zero_add, Nat.one_mul, mul12, reduceIte, ra_z0, Nat.reduceEqDiff, Nat.reduceLT, Nat.reduceLeDiff, Nat.reduceAdd, Nat.reduceMul, Nat.reduceSub, Nat.reduceDiv, Nat.reduceMod, Bool.false_eq_true, false_and, and_false, reduceCtorEq, c]
        · simp (maxSteps := 400000) (disch := omega) only [n3_l, n3_add, n3_mul, n3_sub, n3_subn, n3_lt, n3_le, n3_eq, n3_eqn, n3_neq, n3_and, n3_or, n3_shl, n3_i, n3_cl, ↓hbd_0, ↓hbd_1, ↓hbd_2, hk_ob_0, hk_rd_0, hk_rd_1, hk_rd_2, hk_al_0, hk_al_1, h3r_0, h3r_1, hk_wi_0, hk_wj_0, h3w_0, h3w_1, h3v_0, hk_kI, hk_kJ, hk_kA, hk_kB, A_eq, A_ne, A_row, B_eq, B_ne, B_row, I_eq, I_ne, J_eq, J_ne, Option.bind_some, Option.some.injEq, if_true, if_false, eq_self, true_or, or_true, true_and, and_true, false_or, or_false, not_true_eq_false, not_false_eq_true, Classical.not_not, nar_b0, nar_b1, rz_0, rz_1, rz_i, ite01, Nat.add_zero, Nat.zero_add, Nat.one_mul, mul12, reduceIte, ra_z0, Nat.reduceEqDiff, Nat.reduceLT, Nat.reduceLeDiff, Nat.reduceAdd, Nat.reduceMul, Nat.reduceSub, Nat.reduceDiv, Nat.reduceMod, Bool.false_eq_true, false_and, and_false, reduceCtorEq, c]
      · intro m s hI
        have : ¬ g + 1 ≤ g := by omega
        rw [nX12_wanting_121]
        simp (maxSteps := 400000) (disch := omega) only [n3_l, n3_add, n3_mul, n3_sub, n3_subn, n3_lt, n3_le, n3_eq, n3_eqn, n3_neq, n3_and, n3_or, n3_shl, n3_i, n3_cl, ↓hbd_0, ↓hbd_1, ↓hbd_2, hk_ob_0, hk_rd_0, hk_rd_1, hk_rd_2, hk_al_0, hk_al_1, h3r_0, h3r_1, hk_wi_0, hk_wj_0, h3w_0, h3w_1, h3v_0, hk_kI, hk_kJ, hk_kA, hk_kB, A_eq, A_ne, A_row, B_eq, B_ne, B_row, I_eq, I_ne, J_eq, J_ne, Option.bind_some, Option.some.injEq, if_true, if_false, eq_self, true_or, or_true, true_and, and_true, false_or, or_false, not_true_eq_false, not_false_eq_true, Classical.not_not, nar_b0, nar_b1, rz_0, rz_1, rz_i, ite01, Nat.add_zero, Nat.zero_add, Nat.one_mul, mul12, reduceIte, ra_z0, Nat.reduceEqDiff, Nat.reduceLT, Nat.reduceLeDiff, Nat.reduceAdd, Nat.reduceMul, Nat.reduceSub, Nat.reduceDiv, Nat.reduceMod, Bool.false_eq_true, false_and, and_false, reduceCtorEq, this, nX12_wanting_246, pick]
        have h02 : ¬ n3 0 = n3 2 := by decide
        have h12 : ¬ n3 1 = n3 2 := by decide
        by_cases c0 : w = n3 0
        · simp (maxSteps := 400000) (disch := omega) only [n3_l, n3_add, n3_mul, n3_sub, n3_subn, n3_lt, n3_le, n3_eq, n3_eqn, n3_neq, n3_and, n3_or, n3_shl, n3_i, n3_cl, ↓hbd_0, ↓hbd_1, ↓hbd_2, hk_ob_0, hk_rd_0, hk_rd_1, hk_rd_2, hk_al_0, hk_al_1, h3r_0, h3r_1, hk_wi_0, hk_wj_0, h3w_0, h3w_1, h3v_0, hk_kI, hk_kJ, hk_kA, hk_kB, A_eq, A_ne, A_row, B_eq, B_ne, B_row, I_eq, I_ne, J_eq, J_ne, Option.bind_some, Option.some.injEq, if_true, if_false, eq_self, true_or, or_true, true_and, and_true, false_or, or_false, not_true_eq_false, not_false_eq_true, Classical.not_not, nar_b0, nar_b1, rz_0, rz_1, rz_i, ite01, Nat.add_zero, Nat.zero_add, Nat.one_mul, mul12, reduceIte, ra_z0, Nat.reduceEqDiff, Nat.reduceLT, Nat.reduceLeDiff, Nat.reduceAdd, Nat.reduceMul, Nat.reduceSub, Nat.reduceDiv, Nat.reduceMod, Bool.false_eq_true, false_and, and_false, reduceCtorEq, c0, h02]
        · by_cases c1 : w = n3 1
          · simp (maxSteps := 400000) (disch := omega) only [n3_l, n3_add, n3_mul, n3_sub, n3_subn, n3_lt, n3_le, n3_eq, n3_eqn, n3_neq, n3_and, n3_or, n3_shl, n3_i, n3_cl, ↓hbd_0, ↓hbd_1, ↓hbd_2, hk_ob_0, hk_rd_0, hk_rd_1, hk_rd_2, hk_al_0, hk_al_1, h3r_0, h3r_1, hk_wi_0, hk_wj_0, h3w_0, h3w_1, h3v_0, hk_kI, hk_kJ, hk_kA, hk_kB, A_eq, A_ne, A_row, B_eq, B_ne, B_row, I_eq, I_ne, J_eq, J_ne, Option.bind_some, Option.some.injEq, if_true, if_false, eq_self, true_or, or_true, true_and, and_true, false_or, or_false, not_true_eq_false, not_false_eq_true, Classical.not_not, nar_b0, nar_b1, rz_0, rz_1, rz_i, ite01, Nat.add_zero, Nat.zero_add, Nat.one_mul, mul12, reduceIte, ra_z0, Nat.reduceEqDiff, Nat.reduceLT, Nat.reduceLeDiff, Nat.reduceAdd, Nat.reduceMul, Nat.reduceSub, Nat.reduceDiv, Nat.reduceMod, Bool.false_eq_true, false_and, and_false, reduceCtorEq, c0, c1, h12]
          · have hw' := vIn_iff.mp hw
            have c2 : w = n3 2 := by
              have h1' : ¬ w.toInt = 1 := fun q => c1 (by rw [i_eq, n3_toInt (by omega)]; omega)
              have h0' : ¬ w.toInt = 0 := fun q => c0 (by rw [i_eq, n3_toInt (by omega)]; omega)
              rw [i_eq, n3_toInt (by omega)]; omega
            simp (maxSteps := 400000) (disch := omega) only [n3_l, n3_add, n3_mul, n3_sub, n3_subn, n3_lt, n3_le, n3_eq, n3_eqn, n3_neq, n3_and, n3_or, n3_shl, n3_i, n3_cl, ↓hbd_0, ↓hbd_1, ↓hbd_2, hk_ob_0, hk_rd_0, hk_rd_1, hk_rd_2, hk_al_0, hk_al_1, h3r_0, h3r_1, hk_wi_0, hk_wj_0, h3w_0, h3w_1, h3v_0, hk_kI, hk_kJ, hk_kA, hk_kB, A_eq, A_ne, A_row, B_eq, B_ne, B_row, I_eq, I_ne, J_eq, J_ne, Option.bind_some, Option.some.injEq, if_true, if_false, eq_self, true_or, or_true, true_and, and_true, false_or, or_false, not_true_eq_false, not_false_eq_true, Classical.not_not, nar_b0, nar_b1, rz_0, rz_1, rz_i, ite01, Nat.add_zero, Nat.zero_add, Nat.one_mul, mul12, reduceIte, ra_z0, Nat.reduceEqDiff, Nat.reduceLT, Nat.reduceLeDiff, Nat.reduceAdd, Nat.reduceMul, Nat.reduceSub, Nat.reduceDiv, Nat.reduceMod, Bool.false_eq_true, false_and, and_false, reduceCtorEq, c2]
    · simp (maxSteps := 400000) (disch := omega) only [n3_l, n3_add, n3_mul, n3_sub, n3_subn, n3_lt, n3_le, n3_eq, n3_eqn, n3_neq, n3_and, n3_or, n3_shl, n3_i, n3_cl, ↓hbd_0, ↓hbd_1, ↓hbd_2, hk_ob_0, hk_rd_0, hk_rd_1, hk_rd_2, hk_al_0, hk_al_1, h3r_0, h3r_1, hk_wi_0, hk_wj_0, h3w_0, h3w_1, h3v_0, hk_kI, hk_kJ, hk_kA, hk_kB, A_eq, A_ne, A_row, B_eq, B_ne, B_row, I_eq, I_ne, J_eq, J_ne, Option.bind_some, Option.some.injEq, if_true, if_false, eq_self, true_or, or_true, true_and, and_true, false_or, or_false, not_true_eq_false, not_false_eq_true, Classical.not_not, nar_b0, nar_b1, rz_0, rz_1, rz_i, ite01, Nat.add_zero, Nat.zero_add, Nat.one_mul, mul12, reduceIte, ra_z0, Nat.reduceEqDiff, Nat.reduceLT, Nat.reduceLeDiff, Nat.reduceAdd, Nat.reduceMul, Nat.reduceSub, Nat.reduceDiv, Nat.reduceMod, Bool.false_eq_true, false_and, and_false, reduceCtorEq, hl, hw]
  · simp (maxSteps := 400000) (disch := omega) only [n3_l, n3_add, n3_mul, n3_sub, n3_subn, n3_lt, n3_le, n3_eq, n3_eqn, n3_neq, n3_and, n3_or, n3_shl, n3_i, n3_cl, ↓hbd_0, ↓hbd_1, ↓hbd_2, hk_ob_0, hk_rd_0, hk_rd_1, hk_rd_2, hk_al_0, hk_al_1, h3r_0, h3r_1, hk_wi_0, hk_wj_0, h3w_0, h3w_1, h3v_0, hk_kI, hk_kJ, hk_kA, hk_kB, A_eq, A_ne, A_row, B_eq, B_ne, B_row, I_eq, I_ne, J_eq, J_ne, Option.bind_some, Option.some.injEq, if_true, if_false, eq_self, true_or, or_true, true_and, and_true, false_or, or_false, not_true_eq_false, not_false_eq_true, Classical.not_not, nar_b0, nar_b1, rz_0, rz_1, rz_i, ite01, Nat.add_zero, Nat.zero_add, Nat.one_mul, mul12, reduceIte, ra_z0, Nat.reduceEqDiff, Nat.reduceLT, Nat.reduceLeDiff, Nat.reduceAdd, Nat.reduceMul, Nat.reduceSub, Nat.reduceDiv, Nat.reduceMod, Bool.false_eq_true, false_and, and_false, reduceCtorEq, hl]
/-- the greatest number is never wanting -/
theorem want_last {F : Nat → Int32} {l i : Int32} {n g : Nat} (hg : g = 0 ∨ ∃ b, b < n ∧ F (12 * b) = l ∧ F (12 * b + 1) = n3 g) (r : Int32 × Int32) : fo (stI i (fun v => ¬ ∃ b, b < n ∧ F (12 * b) = l ∧ F (12 * b + 1) = n3 v) n3) 1 g r = fo (stI i (fun v => ¬ ∃ b, b < n ∧ F (12 * b) = l ∧ F (12 * b + 1) = n3 v) n3) 1 (g - 1) r := by
  rcases hg with e | h
  · rw [e]
  · by_cases e : g = 0
    · rw [e]
    · obtain ⟨k, rfl⟩ : ∃ k, g = k + 1 := ⟨g - 1, by omega⟩
      rw [fo_last, Nat.add_sub_cancel, Nat.add_comm 1 k]
      generalize fo (stI i (fun v => ¬ ∃ b, b < n ∧ F (12 * b) = l ∧ F (12 * b + 1) = n3 v) n3) 1 k r = q
      unfold stI
      rw [if_neg (fun z => z h)]
end
