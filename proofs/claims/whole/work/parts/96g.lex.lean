/-! tokens: B the bytes, n how many -/
def isScn (q : Nat → Prop) (n j e : Nat) : Prop := j ≤ e ∧ e ≤ n ∧ (∀ i, j ≤ i → i < e → q i) ∧ (e < n → ¬ q e)
theorem isScn_uniq {q : Nat → Prop} {n j e e' : Nat} (h : isScn q n j e) (g : isScn q n j e') : e = e' := by
  obtain ⟨h1, h2, h3, h4⟩ := h
  obtain ⟨g1, g2, g3, g4⟩ := g
  rcases Nat.lt_trichotomy e e' with c | c | c
  · exact absurd (g3 e h1 c) (h4 (by omega))
  · exact c
  · exact absurd (h3 e' g1 c) (g4 (by omega))
def scF (q : Nat → Prop) [DecidablePred q] (n : Nat) : Nat → Nat → Nat
  | 0, j => j
  | d + 1, j => if j < n ∧ q j then scF q n d (j + 1) else j
def scn (q : Nat → Prop) [DecidablePred q] (n j : Nat) : Nat := scF q n (n - j) j
theorem scF_is (q : Nat → Prop) [DecidablePred q] (n : Nat) : ∀ d j, j + d = n → isScn q n j (scF q n d j) := by
  intro d
  induction d with
  | zero => intro j h; exact ⟨Nat.le_refl _, by show j ≤ n; omega, fun i h1 h2 => absurd h2 (by show ¬ i < j; omega), fun h1 => absurd h1 (by show ¬ j < n; omega)⟩
  | succ d ih =>
    intro j h
    rw [scF]
    by_cases c : j < n ∧ q j
    · rw [if_pos c]
      obtain ⟨h1, h2, h3, h4⟩ := ih (j + 1) (by omega)
      refine ⟨by omega, h2, fun i g1 g2 => ?_, h4⟩
      by_cases e : i = j
      · rw [e]; exact c.2
      · exact h3 i (by omega) g2
    · rw [if_neg c]
      exact ⟨Nat.le_refl _, by omega, fun i h1 h2 => by omega, fun h1 h2 => c ⟨h1, h2⟩⟩
theorem scn_is (q : Nat → Prop) [DecidablePred q] {n j : Nat} (h : j ≤ n) : isScn q n j (scn q n j) := scF_is q n (n - j) j (by omega)
/-- a loop that goes on while q holds -/
theorem lpw {σ β : Type} (F : Nat → Nat → σ → Option β) (n : Nat) (q : Nat → Prop) [DecidablePred q] (out : Nat → σ → Option β) (I : Nat → σ → Prop)
    (h1 : ∀ m j s, j < n → q j → I j s → ∃ s', F (m + 1) j s = F m (j + 1) s' ∧ I (j + 1) s') (h2 : ∀ m j s, j ≤ n → ¬ (j < n ∧ q j) → I j s → F (m + 1) j s = out j s) :
    ∀ d j m s, j + d = n → d < m → I j s → ∃ s', F m j s = out (scF q n d j) s' ∧ I (scF q n d j) s' := by
  intro d
  induction d with
  | zero =>
    intro j m s hj hm hI
    obtain ⟨m, rfl⟩ : ∃ k, m = k + 1 := ⟨m - 1, by omega⟩
    exact ⟨s, h2 m j s (by omega) (fun z => by omega) hI, hI⟩
  | succ d ih =>
    intro j m s hj hm hI
    obtain ⟨m, rfl⟩ : ∃ k, m = k + 1 := ⟨m - 1, by omega⟩
    rw [scF]
    by_cases c : j < n ∧ q j
    · rw [if_pos c]
      obtain ⟨s1, e1, e2⟩ := h1 m j s c.1 c.2 hI
      obtain ⟨s', e3, e4⟩ := ih (j + 1) m s1 (by omega) (by omega) e2
      exact ⟨s', e1.trans e3, e4⟩
    · rw [if_neg c]
      exact ⟨s, h2 m j s (by omega) c hI, hI⟩
abbrev isL (c : Nat) : Prop := 97 ≤ c ∧ c ≤ 122
abbrev isD (c : Nat) : Prop := 48 ≤ c ∧ c ≤ 57
def tkK (B : Nat → Nat) (n j : Nat) : Nat := if n ≤ j then 0 else if isL (B j) then 1 else if isD (B j) then 2 else 3
def tkE (B : Nat → Nat) (n j : Nat) : Nat := if n ≤ j then j else if isL (B j) then scn (fun i => isL (B i)) n j else if isD (B j) then scn (fun i => isD (B i)) n j else j + 1
def tkS (B : Nat → Nat) (n p : Nat) : Nat := scn (fun i => B i = 32) n p
/-- the token behind the one at j -/
def nxt (B : Nat → Nat) (n j : Nat) : Nat := tkS B n (tkE B n j)
/-- a number, capped as the class does -/
def numC (B : Nat → Nat) (j e : Nat) : Nat := fo (fun i v => min (v * 10 + (B i - 48)) 1001) j (e - j) 0
def tkV (B : Nat → Nat) (n j : Nat) : Nat := if tkK B n j = 2 then numC B j (tkE B n j) else if tkK B n j = 3 then B j else 0
theorem tkE_le {B : Nat → Nat} {n j : Nat} (h : j ≤ n) : j ≤ tkE B n j ∧ tkE B n j ≤ n ∧ (j < n → j < tkE B n j) := by
  unfold tkE
  by_cases c : n ≤ j
  · rw [if_pos c]; omega
  · rw [if_neg c]
    by_cases c1 : isL (B j)
    · rw [if_pos c1]
      obtain ⟨h1, h2, h3, h4⟩ := scn_is (fun i => isL (B i)) h
      refine ⟨h1, h2, fun hj => ?_⟩
      rcases Nat.lt_or_ge j (scn (fun i => isL (B i)) n j) with g | g
      · exact g
      · have e : scn (fun i => isL (B i)) n j = j := by omega
        rw [e] at h4
        exact absurd c1 (h4 hj)
    · rw [if_neg c1]
      by_cases c2 : isD (B j)
      · rw [if_pos c2]
        obtain ⟨h1, h2, h3, h4⟩ := scn_is (fun i => isD (B i)) h
        refine ⟨h1, h2, fun hj => ?_⟩
        rcases Nat.lt_or_ge j (scn (fun i => isD (B i)) n j) with g | g
        · exact g
        · have e : scn (fun i => isD (B i)) n j = j := by omega
          rw [e] at h4
          exact absurd c2 (h4 hj)
      · rw [if_neg c2]; omega
theorem tkS_le {B : Nat → Nat} {n p : Nat} (h : p ≤ n) : p ≤ tkS B n p ∧ tkS B n p ≤ n := by
  obtain ⟨h1, h2, -, -⟩ := scn_is (fun i => B i = 32) h
  exact ⟨h1, h2⟩
theorem nxt_le {B : Nat → Nat} {n j : Nat} (h : j ≤ n) : nxt B n j ≤ n ∧ (j < n → j < nxt B n j) := by
  have h1 := tkE_le (B := B) h
  have h2 := tkS_le (B := B) h1.2.1
  unfold nxt
  omega
/-- what the tape holds, on the class's side -/
def cTape (κ : hk_T) (B : Nat → Nat) (n : Nat) : Prop := n ≤ 400 ∧ hk_I κ 16 1 = n3 n ∧ ∀ i, i < n → hk_A κ 17 i = n3 (B i) ∧ B i < 256
def cTok (κ : hk_T) (B : Nat → Nat) (n j : Nat) : Prop := j ≤ n ∧ hk_I κ 16 2 = n3 j ∧ hk_I κ 16 11 = n3 (tkE B n j) ∧ hk_I κ 16 9 = n3 (tkK B n j) ∧ hk_I κ 16 10 = n3 (tkV B n j)
theorem numC_le (B : Nat → Nat) (j e : Nat) : numC B j e ≤ 1001 := by
  unfold numC
  cases e - j with
  | zero => show 0 ≤ 1001; omega
  | succ d => rw [fo_last]; exact Nat.min_le_right _ _
section
variable (N : Nat) (κ : hk_T)
theorem c_isLetter {h : ra_H} {b : Nat} (hb : b < 256) : fX8_isLetter N (n3 b) h = some (if isL b then n3 1 else n3 0, h) := by
  by_cases c1 : b < 97
  · rw [if_neg (show ¬ isL b by omega)]
    simp (maxSteps := 400000) (disch := omega) only [n3_l, n3_add, n3_mul, n3_sub, n3_subn, n3_lt, n3_le, n3_eq, n3_eqn, n3_neq, n3_and, n3_or, n3_shl, n3_i, n3_cl, ↓hbd_0, ↓hbd_1, ↓hbd_2, hk_ob_0, hk_rd_0, hk_rd_1, hk_rd_2, hk_al_0, hk_al_1, h3r_0, h3r_1, hk_wi_0, hk_wj_0, h3w_0, h3w_1, h3v_0, hk_kI, hk_kJ, hk_kA, hk_kB, A_eq, A_ne, A_row, B_eq, B_ne, B_row, I_eq, I_ne, J_eq, J_ne, Option.bind_some, Option.some.injEq, if_true, if_false, eq_self, true_or, or_true, true_and, and_true, false_or, or_false, not_true_eq_false, not_false_eq_true, Classical.not_not, nar_b0, nar_b1, rz_0, rz_1, rz_i, ite01, Nat.add_zero, Nat.zero_add, Nat.one_mul, mul12, reduceIte, ra_z0, Nat.reduceEqDiff, Nat.reduceLT, Nat.reduceLeDiff, Nat.reduceAdd, Nat.reduceMul, Nat.reduceSub, Nat.reduceDiv, Nat.reduceMod, Bool.false_eq_true, false_and, and_false, reduceCtorEq, fX8_isLetter, nX8_isLetter_17, nX8_isLetter_16, nX8_isLetter_0, c1]
  · by_cases c2 : b ≤ 122
    · rw [if_pos (show isL b by omega)]
      simp (maxSteps := 400000) (disch := omega) only [n3_l, n3_add, n3_mul, n3_sub, n3_subn, n3_lt, n3_le, n3_eq, n3_eqn, n3_neq, n3_and, n3_or, n3_shl, n3_i, n3_cl, ↓hbd_0, ↓hbd_1, ↓hbd_2, hk_ob_0, hk_rd_0, hk_rd_1, hk_rd_2, hk_al_0, hk_al_1, h3r_0, h3r_1, hk_wi_0, hk_wj_0, h3w_0, h3w_1, h3v_0, hk_kI, hk_kJ, hk_kA, hk_kB, A_eq, A_ne, A_row, B_eq, B_ne, B_row, I_eq, I_ne, J_eq, J_ne, Option.bind_some, Option.some.injEq, if_true, if_false, eq_self, true_or, or_true, true_and, and_true, false_or, or_false, not_true_eq_false, not_false_eq_true, Classical.not_not, nar_b0, nar_b1, rz_0, rz_1, rz_i, ite01, Nat.add_zero, Nat.zero_add, Nat.one_mul, mul12, reduceIte, ra_z0, Nat.reduceEqDiff, Nat.reduceLT, Nat.reduceLeDiff, Nat.reduceAdd, Nat.reduceMul, Nat.reduceSub, Nat.reduceDiv, Nat.reduceMod, Bool.false_eq_true, false_and, and_false, reduceCtorEq, fX8_isLetter, nX8_isLetter_17, nX8_isLetter_16, nX8_isLetter_0, c1, c2]
    · rw [if_neg (show ¬ isL b by omega)]
      simp (maxSteps := 400000) (disch := omega) only [n3_l, n3_add, n3_mul, n3_sub, n3_subn, n3_lt, n3_le, n3_eq, n3_eqn, n3_neq, n3_and, n3_or, n3_shl, n3_i, n3_cl, ↓hbd_0, ↓hbd_1, ↓hbd_2, hk_ob_0, hk_rd_0, hk_rd_1, hk_rd_2, hk_al_0, hk_al_1, h3r_0, h3r_1, hk_wi_0, hk_wj_0, h3w_0, h3w_1, h3v_0, hk_kI, hk_kJ, hk_kA, hk_kB, A_eq, A_ne, A_row, B_eq, B_ne, B_row, I_eq, I_ne, J_eq, J_ne, Option.bind_some, Option.some.injEq, if_true, if_false, eq_self, true_or, or_true, true_and, and_true, false_or, or_false, not_true_eq_false, not_false_eq_true, Classical.not_not, nar_b0, nar_b1, rz_0, rz_1, rz_i, ite01, Nat.add_zero, Nat.zero_add, Nat.one_mul, mul12, reduceIte, ra_z0, Nat.reduceEqDiff, Nat.reduceLT, Nat.reduceLeDiff, Nat.reduceAdd, Nat.reduceMul, Nat.reduceSub, Nat.reduceDiv, Nat.reduceMod, Bool.false_eq_true, false_and, and_false, reduceCtorEq, fX8_isLetter, nX8_isLetter_17, nX8_isLetter_16, nX8_isLetter_0, c1, c2]
theorem c_isDigit {h : ra_H} {b : Nat} (hb : b < 256) : fX8_isDigit N (n3 b) h = some (if isD b then n3 1 else n3 0, h) := by
  by_cases c1 : b < 48
  · rw [if_neg (show ¬ isD b by omega)]
    simp (maxSteps := 400000) (disch := omega) only [n3_l, n3_add, n3_mul, n3_sub, n3_subn, n3_lt, n3_le, n3_eq, n3_eqn, n3_neq, n3_and, n3_or, n3_shl, n3_i, n3_cl, ↓hbd_0, ↓hbd_1, ↓hbd_2, hk_ob_0, hk_rd_0, hk_rd_1, hk_rd_2, hk_al_0, hk_al_1, h3r_0, h3r_1, hk_wi_0, hk_wj_0, h3w_0, h3w_1, h3v_0, hk_kI, hk_kJ, hk_kA, hk_kB, A_eq, A_ne, A_row, B_eq, B_ne, B_row, I_eq, I_ne, J_eq, J_ne, Option.bind_some, Option.some.injEq, if_true, if_false, eq_self, true_or, or_true, true_and, and_true, false_or, or_false, not_true_eq_false, not_false_eq_true, Classical.not_not, nar_b0, nar_b1, rz_0, rz_1, rz_i, ite01, Nat.add_zero, Nat.zero_add, Nat.one_mul, mul12, reduceIte, ra_z0, Nat.reduceEqDiff, Nat.reduceLT, Nat.reduceLeDiff, Nat.reduceAdd, Nat.reduceMul, Nat.reduceSub, Nat.reduceDiv, Nat.reduceMod, Bool.false_eq_true, false_and, and_false, reduceCtorEq, fX8_isDigit, nX8_isDigit_17, nX8_isDigit_16, nX8_isDigit_0, c1]
  · by_cases c2 : b ≤ 57
    · rw [if_pos (show isD b by omega)]
      simp (maxSteps := 400000) (disch := omega) only [n3_l, n3_add, n3_mul, n3_sub, n3_subn, n3_lt, n3_le, n3_eq, n3_eqn, n3_neq, n3_and, n3_or, n3_shl, n3_i, n3_cl, ↓hbd_0, ↓hbd_1, ↓hbd_2, hk_ob_0, hk_rd_0, hk_rd_1, hk_rd_2, hk_al_0, hk_al_1, h3r_0, h3r_1, hk_wi_0, hk_wj_0, h3w_0, h3w_1, h3v_0, hk_kI, hk_kJ, hk_kA, hk_kB, A_eq, A_ne, A_row, B_eq, B_ne, B_row, I_eq, I_ne, J_eq, J_ne, Option.bind_some, Option.some.injEq, if_true, if_false, eq_self, true_or, or_true, true_and, and_true, false_or, or_false, not_true_eq_false, not_false_eq_true, Classical.not_not, nar_b0, nar_b1, rz_0, rz_1, rz_i, ite01, Nat.add_zero, Nat.zero_add, Nat.one_mul, mul12, reduceIte, ra_z0, Nat.reduceEqDiff, Nat.reduceLT, Nat.reduceLeDiff, Nat.reduceAdd, Nat.reduceMul, Nat.reduceSub, Nat.reduceDiv, Nat.reduceMod, Bool.false_eq_true, false_and, and_false, reduceCtorEq, fX8_isDigit, nX8_isDigit_17, nX8_isDigit_16, nX8_isDigit_0, c1, c2]
    · rw [if_neg (show ¬ isD b by omega)]
      simp (maxSteps := 400000) (disch := omega) only [n3_l, n3_add, n3_mul, n3_sub, n3_subn, n3_lt, n3_le, n3_eq, n3_eqn, n3_neq, n3_and, n3_or, n3_shl, n3_i, n3_cl, ↓hbd_0, ↓hbd_1, ↓hbd_2, hk_ob_0, hk_rd_0, hk_rd_1, hk_rd_2, hk_al_0, hk_al_1, h3r_0, h3r_1, hk_wi_0, hk_wj_0, h3w_0, h3w_1, h3v_0, hk_kI, hk_kJ, hk_kA, hk_kB, A_eq, A_ne, A_row, B_eq, B_ne, B_row, I_eq, I_ne, J_eq, J_ne, Option.bind_some, Option.some.injEq, if_true, if_false, eq_self, true_or, or_true, true_and, and_true, false_or, or_false, not_true_eq_false, not_false_eq_true, Classical.not_not, nar_b0, nar_b1, rz_0, rz_1, rz_i, ite01, Nat.add_zero, Nat.zero_add, Nat.one_mul, mul12, reduceIte, ra_z0, Nat.reduceEqDiff, Nat.reduceLT, Nat.reduceLeDiff, Nat.reduceAdd, Nat.reduceMul, Nat.reduceSub, Nat.reduceDiv, Nat.reduceMod, Bool.false_eq_true, false_and, and_false, reduceCtorEq, fX8_isDigit, nX8_isDigit_17, nX8_isDigit_16, nX8_isDigit_0, c1, c2]
theorem c_advW {B : Nat → Nat} {n j : Nat} (hT : cTape κ B n) (jn : j ≤ n) (q11 : hk_I κ 16 11 = n3 j) (hN : 1000 < N) : ∃ κ', nX8_advance_90 N N 16 (hp κ) = some (hp κ') ∧ same [] [(16, 11)] κ κ' ∧ hk_I κ' 16 11 = n3 (scn (fun i => isL (B i)) n j) := by
  obtain ⟨n4, h1, hB⟩ := hT
  obtain ⟨κ3, e3, j1, j2⟩ := lpw (fun m _ (s : hk_T) => nX8_advance_90 N m 16 (hp s)) n (fun i => isL (B i)) (fun _ s => some (hp s)) (fun j' s => same [] [(16, 11)] κ s ∧ hk_I s 16 11 = n3 j') (by
    rintro m j' s hj' hq ⟨k1, k2⟩
    obtain ⟨b1, b2⟩ := hB j' hj'
    have r1 : hk_I s 16 1 = n3 n := by rw [k1.2.2.1 16 1 (by decide)]; exact h1
    have rb : hk_A s 17 j' = n3 (B j') := by rw [k1.1 17 (by decide)]; exact b1
    have il := c_isLetter N (h := hp s) b2
    rw [if_pos hq] at il
    refine ⟨hk_wI s 16 11 (n3 (j' + 1)), ?_, k1.wI (by decide), I_eq⟩
    show nX8_advance_90 N (m + 1) 16 (hp s) = _
    rw [nX8_advance_90]
    simp (maxSteps := 400000) (disch := omega) only [n3_l, n3_add, n3_mul, n3_sub, n3_subn, n3_lt, n3_le, n3_eq, n3_eqn, n3_neq, n3_and, n3_or, n3_shl, n3_i, n3_cl, ↓hbd_0, ↓hbd_1, ↓hbd_2, hk_ob_0, hk_rd_0, hk_rd_1, hk_rd_2, hk_al_0, hk_al_1, h3r_0, h3r_1, hk_wi_0, hk_wj_0, h3w_0, h3w_1, h3v_0, hk_kI, hk_kJ, hk_kA, hk_kB, A_eq, A_ne, A_row, B_eq, B_ne, B_row, I_eq, I_ne, J_eq, J_ne, Option.bind_some, Option.some.injEq, if_true, if_false, eq_self, true_or, or_true, true_and, and_true, false_or, or_false, not_true_eq_false, not_false_eq_true, Classical.not_not, nar_b0, nar_b1, rz_0, rz_1, rz_i, ite01, Nat.add_zero, Nat.zero_add, Nat.one_mul, mul12, reduceIte, ra_z0, Nat.reduceEqDiff, Nat.reduceLT, Nat.reduceLeDiff, Nat.reduceAdd, Nat.reduceMul, Nat.reduceSub, Nat.reduceDiv, Nat.reduceMod, Bool.false_eq_true, false_and, and_false, reduceCtorEq, k2, r1, hj', rb, il]) (by
    rintro m j' s hj' hq ⟨k1, k2⟩
    have r1 : hk_I s 16 1 = n3 n := by rw [k1.2.2.1 16 1 (by decide)]; exact h1
    show nX8_advance_90 N (m + 1) 16 (hp s) = _
    rw [nX8_advance_90]
    by_cases c : j' < n
    · obtain ⟨b1, b2⟩ := hB j' c
      have rb : hk_A s 17 j' = n3 (B j') := by rw [k1.1 17 (by decide)]; exact b1
      have il := c_isLetter N (h := hp s) b2
      rw [if_neg (fun z => hq ⟨c, z⟩)] at il
      simp (maxSteps := 400000) (disch := omega) only [n3_l, n3_add, n3_mul, n3_sub, n3_subn, n3_lt, n3_le, n3_eq, n3_eqn, n3_neq, n3_and, n3_or, n3_shl, n3_i, n3_cl, ↓hbd_0, ↓hbd_1, ↓hbd_2, hk_ob_0, hk_rd_0, hk_rd_1, hk_rd_2, hk_al_0, hk_al_1, h3r_0, h3r_1, hk_wi_0, hk_wj_0, h3w_0, h3w_1, h3v_0, hk_kI, hk_kJ, hk_kA, hk_kB, A_eq, A_ne, A_row, B_eq, B_ne, B_row, I_eq, I_ne, J_eq, J_ne, Option.bind_some, Option.some.injEq, if_true, if_false, eq_self, true_or, or_true, true_and, and_true, false_or, or_false, not_true_eq_false, not_false_eq_true, Classical.not_not, nar_b0, nar_b1, rz_0, rz_1, rz_i, ite01, Nat.add_zero, Nat.zero_add, Nat.one_mul, mul12, reduceIte, ra_z0, Nat.reduceEqDiff, Nat.reduceLT, Nat.reduceLeDiff, Nat.reduceAdd, Nat.reduceMul, Nat.reduceSub, Nat.reduceDiv, Nat.reduceMod, Bool.false_eq_true, false_and, and_false, reduceCtorEq, k2, r1, c, rb, il, nX8_advance_246]
    · simp (maxSteps := 400000) (disch := omega) only [n3_l, n3_add, n3_mul, n3_sub, n3_subn, n3_lt, n3_le, n3_eq, n3_eqn, n3_neq, n3_and, n3_or, n3_shl, n3_i, n3_cl, ↓hbd_0, ↓hbd_1, ↓hbd_2, hk_ob_0, hk_rd_0, hk_rd_1, hk_rd_2, hk_al_0, hk_al_1, h3r_0, h3r_1, hk_wi_0, hk_wj_0, h3w_0, h3w_1, h3v_0, hk_kI, hk_kJ, hk_kA, hk_kB, A_eq, A_ne, A_row, B_eq, B_ne, B_row, I_eq, I_ne, J_eq, J_ne, Option.bind_some, Option.some.injEq, if_true, if_false, eq_self, true_or, or_true, true_and, and_true, false_or, or_false, not_true_eq_false, not_false_eq_true, Classical.not_not, nar_b0, nar_b1, rz_0, rz_1, rz_i, ite01, Nat.add_zero, Nat.zero_add, Nat.one_mul, mul12, reduceIte, ra_z0, Nat.reduceEqDiff, Nat.reduceLT, Nat.reduceLeDiff, Nat.reduceAdd, Nat.reduceMul, Nat.reduceSub, Nat.reduceDiv, Nat.reduceMod, Bool.false_eq_true, false_and, and_false, reduceCtorEq, k2, r1, c, nX8_advance_246]) (n - j) j N κ (by omega) (by omega) ⟨same.refl _ _ _, q11⟩
  exact ⟨κ3, e3, j1, j2⟩
theorem c_advD {B : Nat → Nat} {n j : Nat} (hT : cTape κ B n) (jn : j ≤ n) (q11 : hk_I κ 16 11 = n3 j) (q10 : hk_I κ 16 10 = n3 0) (hN : 1000 < N) : ∃ κ', nX8_advance_149 N N 16 (hp κ) = some (hp κ') ∧ same [] [(16, 10), (16, 11)] κ κ' ∧ hk_I κ' 16 11 = n3 (scn (fun i => isD (B i)) n j) ∧ hk_I κ' 16 10 = n3 (numC B j (scn (fun i => isD (B i)) n j)) := by
  obtain ⟨n4, h1, hB⟩ := hT
  obtain ⟨κ3, e3, j1, j2, j3', j4⟩ := lpw (fun m _ (s : hk_T) => nX8_advance_149 N m 16 (hp s)) n (fun i => isD (B i)) (fun _ s => some (hp s)) (fun j' s => same [] [(16, 10), (16, 11)] κ s ∧ hk_I s 16 11 = n3 j' ∧ hk_I s 16 10 = n3 (numC B j j') ∧ j ≤ j') (by
    rintro m j' s hj' hq ⟨k1, k2, k3, k4⟩
    obtain ⟨b1, b2⟩ := hB j' hj'
    have r1 : hk_I s 16 1 = n3 n := by rw [k1.2.2.1 16 1 (by decide)]; exact h1
    have rb : hk_A s 17 j' = n3 (B j') := by rw [k1.1 17 (by decide)]; exact b1
    have id := c_isDigit N (h := hp s) b2
    rw [if_pos hq] at id
    have nl := numC_le B j j'
    have nn : numC B j (j' + 1) = min (numC B j j' * 10 + (B j' - 48)) 1001 := by
      unfold numC
      rw [show j' + 1 - j = (j' - j) + 1 by omega, fo_last, show j + (j' - j) = j' by omega]
    refine ⟨hk_wI (hk_wI s 16 10 (n3 (numC B j (j' + 1)))) 16 11 (n3 (j' + 1)), ?_, (k1.wI (by decide)).wI (by decide), I_eq, by rw [I_ne (Or.inr (by decide)), I_eq], by omega⟩
    show nX8_advance_149 N (m + 1) 16 (hp s) = _
    rw [nX8_advance_149, nn]
    by_cases cm : 1001 < numC B j j' * 10 + B j' - 48
    · rw [Nat.min_eq_right (by omega)]
      simp (maxSteps := 400000) (disch := omega) only [n3_l, n3_add, n3_mul, n3_sub, n3_subn, n3_lt, n3_le, n3_eq, n3_eqn, n3_neq, n3_and, n3_or, n3_shl, n3_i, n3_cl, ↓hbd_0, ↓hbd_1, ↓hbd_2, hk_ob_0, hk_rd_0, hk_rd_1, hk_rd_2, hk_al_0, hk_al_1, h3r_0, h3r_1, hk_wi_0, hk_wj_0, h3w_0, h3w_1, h3v_0, hk_kI, hk_kJ, hk_kA, hk_kB, A_eq, A_ne, A_row, B_eq, B_ne, B_row, I_eq, I_ne, J_eq, J_ne, Option.bind_some, Option.some.injEq, if_true, if_false, eq_self, true_or, or_true, true_and, and_true, false_or, or_false, not_true_eq_false, not_false_eq_true, Classical.not_not, nar_b0, nar_b1, rz_0, rz_1, rz_i, ite01, Nat.add_zero, Nat.zero_add, Nat.one_mul, mul12, reduceIte, ra_z0, Nat.reduceEqDiff, Nat.reduceLT, Nat.reduceLeDiff, Nat.reduceAdd, Nat.reduceMul, Nat.reduceSub, Nat.reduceDiv, Nat.reduceMod, Bool.false_eq_true, false_and, and_false, reduceCtorEq, k2, r1, hj', rb, id, k3, cm]
    · rw [Nat.min_eq_left (by omega), show numC B j j' * 10 + (B j' - 48) = numC B j j' * 10 + B j' - 48 by omega]
      simp (maxSteps := 400000) (disch := omega) only [n3_l, n3_add, n3_mul, n3_sub, n3_subn, n3_lt, n3_le, n3_eq, n3_eqn, n3_neq, n3_and, n3_or, n3_shl, n3_i, n3_cl, ↓hbd_0, ↓hbd_1, ↓hbd_2, hk_ob_0, hk_rd_0, hk_rd_1, hk_rd_2, hk_al_0, hk_al_1, h3r_0, h3r_1, hk_wi_0, hk_wj_0, h3w_0, h3w_1, h3v_0, hk_kI, hk_kJ, hk_kA, hk_kB, A_eq, A_ne, A_row, B_eq, B_ne, B_row, I_eq, I_ne, J_eq, J_ne, Option.bind_some, Option.some.injEq, if_true, if_false, eq_self, true_or, or_true, true_and, and_true, false_or, or_false, not_true_eq_false, not_false_eq_true, Classical.not_not, nar_b0, nar_b1, rz_0, rz_1, rz_i, ite01, Nat.add_zero, Nat.zero_add, Nat.one_mul, mul12, reduceIte, ra_z0, Nat.reduceEqDiff, Nat.reduceLT, Nat.reduceLeDiff, Nat.reduceAdd, Nat.reduceMul, Nat.reduceSub, Nat.reduceDiv, Nat.reduceMod, Bool.false_eq_true, false_and, and_false, reduceCtorEq, k2, r1, hj', rb, id, k3, cm]) (by
    rintro m j' s hj' hq ⟨k1, k2, k3, k4⟩
    have r1 : hk_I s 16 1 = n3 n := by rw [k1.2.2.1 16 1 (by decide)]; exact h1
    show nX8_advance_149 N (m + 1) 16 (hp s) = _
    rw [nX8_advance_149]
    by_cases c : j' < n
    · obtain ⟨b1, b2⟩ := hB j' c
      have rb : hk_A s 17 j' = n3 (B j') := by rw [k1.1 17 (by decide)]; exact b1
      have id := c_isDigit N (h := hp s) b2
      rw [if_neg (fun z => hq ⟨c, z⟩)] at id
      simp (maxSteps := 400000) (disch := omega) only [n3_l, n3_add, n3_mul, n3_sub, n3_subn, n3_lt, n3_le, n3_eq, n3_eqn, n3_neq, n3_and, n3_or, n3_shl, n3_i, n3_cl, ↓hbd_0, ↓hbd_1, ↓hbd_2, hk_ob_0, hk_rd_0, hk_rd_1, hk_rd_2, hk_al_0, hk_al_1, h3r_0, h3r_1, hk_wi_0, hk_wj_0, h3w_0, h3w_1, h3v_0, hk_kI, hk_kJ, hk_kA, hk_kB, A_eq, A_ne, A_row, B_eq, B_ne, B_row, I_eq, I_ne, J_eq, J_ne, Option.bind_some, Option.some.injEq, if_true, if_false, eq_self, true_or, or_true, true_and, and_true, false_or, or_false, not_true_eq_false, not_false_eq_true, Classical.not_not, nar_b0, nar_b1, rz_0, rz_1, rz_i, ite01, Nat.add_zero, Nat.zero_add, Nat.one_mul, mul12, reduceIte, ra_z0, Nat.reduceEqDiff, Nat.reduceLT, Nat.reduceLeDiff, Nat.reduceAdd, Nat.reduceMul, Nat.reduceSub, Nat.reduceDiv, Nat.reduceMod, Bool.false_eq_true, false_and, and_false, reduceCtorEq, k2, r1, c, rb, id, nX8_advance_246]
    · simp (maxSteps := 400000) (disch := omega) only [n3_l, n3_add, n3_mul, n3_sub, n3_subn, n3_lt, n3_le, n3_eq, n3_eqn, n3_neq, n3_and, n3_or, n3_shl, n3_i, n3_cl, ↓hbd_0, ↓hbd_1, ↓hbd_2, hk_ob_0, hk_rd_0, hk_rd_1, hk_rd_2, hk_al_0, hk_al_1, h3r_0, h3r_1, hk_wi_0, hk_wj_0, h3w_0, h3w_1, h3v_0, hk_kI, hk_kJ, hk_kA, hk_kB, A_eq, A_ne, A_row, B_eq, B_ne, B_row, I_eq, I_ne, J_eq, J_ne, Option.bind_some, Option.some.injEq, if_true, if_false, eq_self, true_or, or_true, true_and, and_true, false_or, or_false, not_true_eq_false, not_false_eq_true, Classical.not_not, nar_b0, nar_b1, rz_0, rz_1, rz_i, ite01, Nat.add_zero, Nat.zero_add, Nat.one_mul, mul12, reduceIte, ra_z0, Nat.reduceEqDiff, Nat.reduceLT, Nat.reduceLeDiff, Nat.reduceAdd, Nat.reduceMul, Nat.reduceSub, Nat.reduceDiv, Nat.reduceMod, Bool.false_eq_true, false_and, and_false, reduceCtorEq, k2, r1, c, nX8_advance_246]) (n - j) j N κ (by omega) (by omega) ⟨same.refl _ _ _, q11, by rw [q10]; unfold numC; rw [Nat.sub_self]; rfl, Nat.le_refl _⟩
  exact ⟨κ3, e3, j1, j2, j3'⟩
end
