/-! the reference's reader on the heap: its tools -/
def rWd (κ : hk_T) : Prop := (∀ g, g < 12 → hk_B κ 80 g = j3 (enW (5 + g))) ∧ ∀ g, g < 5 → hk_B κ 81 g = j3 (enW g)
def pil (κ : hk_T) : List (Nat × Nat) → Prop
  | [] => True
  | (o, a) :: P => hk_A κ 78 P.length = n3 o ∧ hk_A κ 79 P.length = n3 a ∧ 20 ≤ o ∧ o ≤ 31 ∧ a < 400 ∧ pil κ P
theorem pil.same {κ κ' : hk_T} (h1 : hk_A κ' 78 = hk_A κ 78) (h2 : hk_A κ' 79 = hk_A κ 79) : ∀ {P : List (Nat × Nat)}, pil κ P → pil κ' P := by
  intro P
  induction P with
  | nil => exact id
  | cons q P ih =>
    obtain ⟨o, a⟩ := q
    rintro ⟨a1, a2, a3, a4, a5, a6⟩
    exact ⟨by rw [h1]; exact a1, by rw [h2]; exact a2, a3, a4, a5, ih a6⟩
theorem pil.keep {κ κ' : hk_T} : ∀ {P : List (Nat × Nat)}, pil κ P → (∀ i, i < P.length → hk_A κ' 78 i = hk_A κ 78 i ∧ hk_A κ' 79 i = hk_A κ 79 i) → pil κ' P := by
  intro P
  induction P with
  | nil => exact fun _ _ => trivial
  | cons q P ih =>
    obtain ⟨o, a⟩ := q
    rintro ⟨a1, a2, a3, a4, a5, a6⟩ h
    have e : ((o, a) :: P).length = P.length + 1 := rfl
    exact ⟨by rw [(h _ (by omega)).1]; exact a1, by rw [(h _ (by omega)).2]; exact a2, a3, a4, a5, ih a6 (fun i hi => h i (by omega))⟩
def pa : List (Nat × Nat) → Nat → Nat
  | [], _ => 0
  | (o, _) :: P, i => if i = P.length then o else pa P i
def bt : List (Nat × Nat) → Nat → List (Nat × Nat)
  | [], _ => []
  | q :: P, i => if P.length < i then q :: P else bt P i
theorem bt_all : ∀ P : List (Nat × Nat), bt P P.length = P := by
  intro P
  cases P with
  | nil => rfl
  | cons q P => rw [bt, if_pos (by show P.length < P.length + 1; omega)]
theorem bt_0 : ∀ P : List (Nat × Nat), bt P 0 = [] := by
  intro P
  induction P with
  | nil => rfl
  | cons q P ih => rw [bt, if_neg (by omega)]; exact ih
theorem bt_next : ∀ (P : List (Nat × Nat)) (i : Nat), i < P.length → ∃ a, bt P (i + 1) = (pa P i, a) :: bt P i := by
  intro P
  induction P with
  | nil => intro i hi; exact absurd hi (Nat.not_lt_zero _)
  | cons q P ih =>
    obtain ⟨o, a⟩ := q
    intro i hi
    have e : ((o, a) :: P).length = P.length + 1 := rfl
    by_cases c : i = P.length
    · subst c
      refine ⟨a, ?_⟩
      rw [bt, if_pos (by omega), pa, if_pos rfl, bt, if_neg (by omega), bt_all]
    · obtain ⟨a', h⟩ := ih i (by omega)
      refine ⟨a', ?_⟩
      rw [bt, if_neg (by omega), pa, if_neg c, h, bt, if_neg (by omega)]
theorem pil_pa {κ : hk_T} : ∀ {P : List (Nat × Nat)}, pil κ P → ∀ i, i < P.length → hk_A κ 78 i = n3 (pa P i) ∧ 20 ≤ pa P i ∧ pa P i ≤ 31 := by
  intro P
  induction P with
  | nil => intro _ i hi; exact absurd hi (Nat.not_lt_zero _)
  | cons q P ih =>
    obtain ⟨o, a⟩ := q
    rintro ⟨a1, a2, a3, a4, a5, a6⟩ i hi
    have e : ((o, a) :: P).length = P.length + 1 := rfl
    rw [pa]
    by_cases c : i = P.length
    · rw [if_pos c, c]
      exact ⟨a1, a3, a4⟩
    · rw [if_neg c]
      exact ih a6 i (by omega)
theorem brk_le : ∀ P : List (Nat × Nat), brk P ≤ P.length := by
  intro P
  induction P with
  | nil => exact Nat.le_refl _
  | cons q P ih =>
    obtain ⟨o, a⟩ := q
    have e : ((o, a) :: P).length = P.length + 1 := rfl
    rw [brk]
    split <;> omega
theorem inn_le {κ : hk_T} : ∀ P : List (Nat × Nat), pil κ P → inn P ≤ 31 ∧ (inn P = 0 ∨ 30 ≤ inn P) := by
  intro P
  induction P with
  | nil => intro _; exact ⟨Nat.zero_le _, Or.inl rfl⟩
  | cons q P ih =>
    obtain ⟨o, a⟩ := q
    rintro ⟨a1, a2, a3, a4, a5, a6⟩
    rw [inn]
    by_cases c : 30 ≤ o
    · rw [if_pos c]; exact ⟨a4, Or.inr c⟩
    · rw [if_neg c]; exact ih a6
section
variable (N : Nat) (κ : hk_T)
theorem r_isSign {B : Nat → Nat} {n j c : Nat} (hT : rTape κ B n) (h : rTok κ B n j) (hc : c < 256) : fX12_isSign N 69 (n3 c) (hp κ) = some (if sg B n c j then n3 1 else n3 0, hp κ) := by
  obtain ⟨h1, h2, h3, h4, h5⟩ := h
  have k3 : tkK B n j ≤ 3 := tkK_le
  by_cases ck : tkK B n j = 3
  · rw [ck] at h4
    have jl : j < n := by
      unfold tkK at ck
      by_cases c : n ≤ j
      · rw [if_pos c] at ck; omega
      · omega
    have hb := (hT.2.2 j jl).2
    have tr : tkR B n j = j3 (B j) := by
      unfold tkR
      rw [if_neg (by omega), if_neg (by omega), if_pos ck]
    have tv : tkV B n j = B j := by
      unfold tkV
      rw [if_neg (by omega), if_pos ck]
    rw [tr] at h5
    by_cases cc : B j = c
    · have s : sg B n c j := ⟨ck, by rw [tv]; exact cc⟩
      rw [if_pos s]
      rw [cc] at h5
      simp (maxSteps := 400000) (disch := omega) only [n3_l, n3_add, n3_mul, n3_sub, n3_subn, n3_lt, n3_le, n3_eq, n3_eqn, n3_neq, n3_and, n3_or, n3_shl, n3_i, n3_cl, j3_l, j3_add, j3_mul, j3_sub, j3_lt, j3_le, j3_eq, j3_n, lg3_le, lg3_lt, lg3_eq, r_in3, ↓hbd_0, ↓hbd_1, ↓hbd_2, hk_ob_0, hk_rd_0, hk_rd_1, hk_rd_2, hk_al_0, hk_al_1, h3r_0, h3r_1, hk_wi_0, hk_wj_0, h3w_0, h3w_1, h3v_0, hk_kI, hk_kJ, hk_kA, hk_kB, A_eq, A_ne, A_row, B_eq, B_ne, B_row, I_eq, I_ne, J_eq, J_ne, Option.bind_some, Option.some.injEq, if_true, if_false, eq_self, true_or, or_true, true_and, and_true, false_or, or_false, not_true_eq_false, not_false_eq_true, Classical.not_not, nar_b0, nar_b1, rz_0, rz_1, rz_i, ite01, Nat.add_zero, Nat.zero_add, Nat.one_mul, mul12, reduceIte, ra_z0, Nat.reduceEqDiff, Nat.reduceLT, Nat.reduceLeDiff, Nat.reduceAdd, Nat.reduceMul, Nat.reduceSub, Nat.reduceDiv, Nat.reduceMod, Bool.false_eq_true, false_and, and_false, reduceCtorEq, fX12_isSign, nX12_isSign_23, nX12_isSign_22, nX12_isSign_0, h4, h5]
    · have s : ¬ sg B n c j := fun z => cc (by rw [← tv]; exact z.2)
      rw [if_neg s]
      simp (maxSteps := 400000) (disch := omega) only [n3_l, n3_add, n3_mul, n3_sub, n3_subn, n3_lt, n3_le, n3_eq, n3_eqn, n3_neq, n3_and, n3_or, n3_shl, n3_i, n3_cl, j3_l, j3_add, j3_mul, j3_sub, j3_lt, j3_le, j3_eq, j3_n, lg3_le, lg3_lt, lg3_eq, r_in3, ↓hbd_0, ↓hbd_1, ↓hbd_2, hk_ob_0, hk_rd_0, hk_rd_1, hk_rd_2, hk_al_0, hk_al_1, h3r_0, h3r_1, hk_wi_0, hk_wj_0, h3w_0, h3w_1, h3v_0, hk_kI, hk_kJ, hk_kA, hk_kB, A_eq, A_ne, A_row, B_eq, B_ne, B_row, I_eq, I_ne, J_eq, J_ne, Option.bind_some, Option.some.injEq, if_true, if_false, eq_self, true_or, or_true, true_and, and_true, false_or, or_false, not_true_eq_false, not_false_eq_true, Classical.not_not, nar_b0, nar_b1, rz_0, rz_1, rz_i, ite01, Nat.add_zero, Nat.zero_add, Nat.one_mul, mul12, reduceIte, ra_z0, Nat.reduceEqDiff, Nat.reduceLT, Nat.reduceLeDiff, Nat.reduceAdd, Nat.reduceMul, Nat.reduceSub, Nat.reduceDiv, Nat.reduceMod, Bool.false_eq_true, false_and, and_false, reduceCtorEq, fX12_isSign, nX12_isSign_23, nX12_isSign_22, nX12_isSign_0, h4, h5, cc]
  · have s : ¬ sg B n c j := fun z => ck z.1
    rw [if_neg s]
    simp (maxSteps := 400000) (disch := omega) only [n3_l, n3_add, n3_mul, n3_sub, n3_subn, n3_lt, n3_le, n3_eq, n3_eqn, n3_neq, n3_and, n3_or, n3_shl, n3_i, n3_cl, j3_l, j3_add, j3_mul, j3_sub, j3_lt, j3_le, j3_eq, j3_n, lg3_le, lg3_lt, lg3_eq, r_in3, ↓hbd_0, ↓hbd_1, ↓hbd_2, hk_ob_0, hk_rd_0, hk_rd_1, hk_rd_2, hk_al_0, hk_al_1, h3r_0, h3r_1, hk_wi_0, hk_wj_0, h3w_0, h3w_1, h3v_0, hk_kI, hk_kJ, hk_kA, hk_kB, A_eq, A_ne, A_row, B_eq, B_ne, B_row, I_eq, I_ne, J_eq, J_ne, Option.bind_some, Option.some.injEq, if_true, if_false, eq_self, true_or, or_true, true_and, and_true, false_or, or_false, not_true_eq_false, not_false_eq_true, Classical.not_not, nar_b0, nar_b1, rz_0, rz_1, rz_i, ite01, Nat.add_zero, Nat.zero_add, Nat.one_mul, mul12, reduceIte, ra_z0, Nat.reduceEqDiff, Nat.reduceLT, Nat.reduceLeDiff, Nat.reduceAdd, Nat.reduceMul, Nat.reduceSub, Nat.reduceDiv, Nat.reduceMod, Bool.false_eq_true, false_and, and_false, reduceCtorEq, fX12_isSign, nX12_isSign_23, nX12_isSign_22, nX12_isSign_0, h4, ck]
theorem r_isWord {B : Nat → Nat} {n j k : Nat} {w : Int64} (h : rTok κ B n j) (hk : k < 21) (hw : w = j3 (enW k)) : fX12_isWord N 69 w (hp κ) = some (if isW B n k j then n3 1 else n3 0, hp κ) := by
  obtain ⟨h1, h2, h3, h4, h5⟩ := h
  have k3 : tkK B n j ≤ 3 := tkK_le
  subst hw
  by_cases ck : tkK B n j = 1
  · have we := word_eq (k := k) h1 ck hk
    rw [ck] at h4
    have tr : tkR B n j = wrR B j (tkE B n j) := by
      unfold tkR
      rw [if_pos ck]
    rw [tr] at h5
    by_cases cc : isW B n k j
    · rw [if_pos cc]
      have e := we.mpr cc
      rw [e] at h5
      simp (maxSteps := 400000) (disch := omega) only [n3_l, n3_add, n3_mul, n3_sub, n3_subn, n3_lt, n3_le, n3_eq, n3_eqn, n3_neq, n3_and, n3_or, n3_shl, n3_i, n3_cl, j3_l, j3_add, j3_mul, j3_sub, j3_lt, j3_le, j3_eq, j3_n, lg3_le, lg3_lt, lg3_eq, r_in3, ↓hbd_0, ↓hbd_1, ↓hbd_2, hk_ob_0, hk_rd_0, hk_rd_1, hk_rd_2, hk_al_0, hk_al_1, h3r_0, h3r_1, hk_wi_0, hk_wj_0, h3w_0, h3w_1, h3v_0, hk_kI, hk_kJ, hk_kA, hk_kB, A_eq, A_ne, A_row, B_eq, B_ne, B_row, I_eq, I_ne, J_eq, J_ne, Option.bind_some, Option.some.injEq, if_true, if_false, eq_self, true_or, or_true, true_and, and_true, false_or, or_false, not_true_eq_false, not_false_eq_true, Classical.not_not, nar_b0, nar_b1, rz_0, rz_1, rz_i, ite01, Nat.add_zero, Nat.zero_add, Nat.one_mul, mul12, reduceIte, ra_z0, Nat.reduceEqDiff, Nat.reduceLT, Nat.reduceLeDiff, Nat.reduceAdd, Nat.reduceMul, Nat.reduceSub, Nat.reduceDiv, Nat.reduceMod, Bool.false_eq_true, false_and, and_false, reduceCtorEq, fX12_isWord, nX12_isWord_22, nX12_isWord_21, nX12_isWord_0, h4, h5]
    · rw [if_neg cc]
      have e : ¬ wrR B j (tkE B n j) = j3 (enW k) := fun z => cc (we.mp z)
      simp (maxSteps := 400000) (disch := omega) only [n3_l, n3_add, n3_mul, n3_sub, n3_subn, n3_lt, n3_le, n3_eq, n3_eqn, n3_neq, n3_and, n3_or, n3_shl, n3_i, n3_cl, j3_l, j3_add, j3_mul, j3_sub, j3_lt, j3_le, j3_eq, j3_n, lg3_le, lg3_lt, lg3_eq, r_in3, ↓hbd_0, ↓hbd_1, ↓hbd_2, hk_ob_0, hk_rd_0, hk_rd_1, hk_rd_2, hk_al_0, hk_al_1, h3r_0, h3r_1, hk_wi_0, hk_wj_0, h3w_0, h3w_1, h3v_0, hk_kI, hk_kJ, hk_kA, hk_kB, A_eq, A_ne, A_row, B_eq, B_ne, B_row, I_eq, I_ne, J_eq, J_ne, Option.bind_some, Option.some.injEq, if_true, if_false, eq_self, true_or, or_true, true_and, and_true, false_or, or_false, not_true_eq_false, not_false_eq_true, Classical.not_not, nar_b0, nar_b1, rz_0, rz_1, rz_i, ite01, Nat.add_zero, Nat.zero_add, Nat.one_mul, mul12, reduceIte, ra_z0, Nat.reduceEqDiff, Nat.reduceLT, Nat.reduceLeDiff, Nat.reduceAdd, Nat.reduceMul, Nat.reduceSub, Nat.reduceDiv, Nat.reduceMod, Bool.false_eq_true, false_and, and_false, reduceCtorEq, fX12_isWord, nX12_isWord_22, nX12_isWord_21, nX12_isWord_0, h4, h5, e]
  · have s : ¬ isW B n k j := fun z => ck z.1
    rw [if_neg s]
    simp (maxSteps := 400000) (disch := omega) only [n3_l, n3_add, n3_mul, n3_sub, n3_subn, n3_lt, n3_le, n3_eq, n3_eqn, n3_neq, n3_and, n3_or, n3_shl, n3_i, n3_cl, j3_l, j3_add, j3_mul, j3_sub, j3_lt, j3_le, j3_eq, j3_n, lg3_le, lg3_lt, lg3_eq, r_in3, ↓hbd_0, ↓hbd_1, ↓hbd_2, hk_ob_0, hk_rd_0, hk_rd_1, hk_rd_2, hk_al_0, hk_al_1, h3r_0, h3r_1, hk_wi_0, hk_wj_0, h3w_0, h3w_1, h3v_0, hk_kI, hk_kJ, hk_kA, hk_kB, A_eq, A_ne, A_row, B_eq, B_ne, B_row, I_eq, I_ne, J_eq, J_ne, Option.bind_some, Option.some.injEq, if_true, if_false, eq_self, true_or, or_true, true_and, and_true, false_or, or_false, not_true_eq_false, not_false_eq_true, Classical.not_not, nar_b0, nar_b1, rz_0, rz_1, rz_i, ite01, Nat.add_zero, Nat.zero_add, Nat.one_mul, mul12, reduceIte, ra_z0, Nat.reduceEqDiff, Nat.reduceLT, Nat.reduceLeDiff, Nat.reduceAdd, Nat.reduceMul, Nat.reduceSub, Nat.reduceDiv, Nat.reduceMod, Bool.false_eq_true, false_and, and_false, reduceCtorEq, fX12_isWord, nX12_isWord_22, nX12_isWord_21, nX12_isWord_0, h4, ck]
theorem r_goP {B : Nat → Nat} {n j : Nat} (hT : rTape κ B n) (h : rTok κ B n j) (hN : 1000 < N) : ∃ κ', fX12_goOn N 69 (hp κ) = some (hp κ') ∧ same [] [(69, 9), (69, 10), (69, 11)] κ κ' ∧ rTok κ' B n (nxt B n j) := by
  have le := tkE_le (B := B) h.1
  exact r_goOn N κ hT le.2.1 h.2.2.1 hN
theorem r_mustT {B : Nat → Nat} {n j : Nat} (hT : rTape κ B n) (h : rTok κ B n j) (h14 : hk_I κ 69 14 = n3 0) (hN : 1000 < N) : ∃ κ', fX12_must N 69 (n3 1) (hp κ) = some (hp κ') ∧ same [] [(69, 9), (69, 10), (69, 11)] κ κ' ∧ rTok κ' B n (nxt B n j) := by
  obtain ⟨κ', e, s, t⟩ := r_goP N κ hT h hN
  refine ⟨κ', ?_, s, t⟩
  simp (maxSteps := 400000) (disch := omega) only [n3_l, n3_add, n3_mul, n3_sub, n3_subn, n3_lt, n3_le, n3_eq, n3_eqn, n3_neq, n3_and, n3_or, n3_shl, n3_i, n3_cl, ↓hbd_0, ↓hbd_1, ↓hbd_2, hk_ob_0, hk_rd_0, hk_rd_1, hk_rd_2, hk_al_0, hk_al_1, h3r_0, h3r_1, hk_wi_0, hk_wj_0, h3w_0, h3w_1, h3v_0, hk_kI, hk_kJ, hk_kA, hk_kB, A_eq, A_ne, A_row, B_eq, B_ne, B_row, I_eq, I_ne, J_eq, J_ne, Option.bind_some, Option.some.injEq, if_true, if_false, eq_self, true_or, or_true, true_and, and_true, false_or, or_false, not_true_eq_false, not_false_eq_true, Classical.not_not, nar_b0, nar_b1, rz_0, rz_1, rz_i, ite01, Nat.add_zero, Nat.zero_add, Nat.one_mul, mul12, reduceIte, ra_z0, Nat.reduceEqDiff, Nat.reduceLT, Nat.reduceLeDiff, Nat.reduceAdd, Nat.reduceMul, Nat.reduceSub, Nat.reduceDiv, Nat.reduceMod, Bool.false_eq_true, false_and, and_false, reduceCtorEq, fX12_must, nX12_must_35, nX12_must_24, nX12_must_0, h14, e]
theorem r_mustF {j : Nat} (h9 : hk_I κ 69 9 = n3 j) (h14 : hk_I κ 69 14 = n3 0) : fX12_must N 69 (n3 0) (hp κ) = some (hp (hk_wI (hk_wI κ 69 14 (n3 1)) 69 13 (n3 j))) := by
  have a1 : ra_fI (hp (hk_wI κ 69 14 (n3 1))) 12 69 9 = some (n3 j) := by rw [← h9]; rfl
  have a2 : ra_fI (hp (hk_wI (hk_wI κ 69 14 (n3 1)) 69 13 (n3 j))) 12 69 14 = some (n3 1) := rfl
  have w1 : ra_fW (hp κ) 12 69 14 (.int (n3 1)) = some (hp (hk_wI κ 69 14 (n3 1))) := by simp (maxSteps := 400000) (disch := omega) only [n3_l, n3_add, n3_mul, n3_sub, n3_subn, n3_lt, n3_le, n3_eq, n3_eqn, n3_neq, n3_and, n3_or, n3_shl, n3_i, n3_cl, ↓hbd_0, ↓hbd_1, ↓hbd_2, hk_ob_0, hk_rd_0, hk_rd_1, hk_rd_2, hk_al_0, hk_al_1, h3r_0, h3r_1, hk_wi_0, hk_wj_0, h3w_0, h3w_1, h3v_0, hk_kI, hk_kJ, hk_kA, hk_kB, A_eq, A_ne, A_row, B_eq, B_ne, B_row, I_eq, I_ne, J_eq, J_ne, Option.bind_some, Option.some.injEq, if_true, if_false, eq_self, true_or, or_true, true_and, and_true, false_or, or_false, not_true_eq_false, not_false_eq_true, Classical.not_not, nar_b0, nar_b1, rz_0, rz_1, rz_i, ite01, Nat.add_zero, Nat.zero_add, Nat.one_mul, mul12, reduceIte, ra_z0, Nat.reduceEqDiff, Nat.reduceLT, Nat.reduceLeDiff, Nat.reduceAdd, Nat.reduceMul, Nat.reduceSub, Nat.reduceDiv, Nat.reduceMod, Bool.false_eq_true, false_and, and_false, reduceCtorEq]
  have w2 : ra_fW (hp (hk_wI κ 69 14 (n3 1))) 12 69 13 (.int (n3 j)) = some (hp (hk_wI (hk_wI κ 69 14 (n3 1)) 69 13 (n3 j))) := by simp (maxSteps := 400000) (disch := omega) only [n3_l, n3_add, n3_mul, n3_sub, n3_subn, n3_lt, n3_le, n3_eq, n3_eqn, n3_neq, n3_and, n3_or, n3_shl, n3_i, n3_cl, ↓hbd_0, ↓hbd_1, ↓hbd_2, hk_ob_0, hk_rd_0, hk_rd_1, hk_rd_2, hk_al_0, hk_al_1, h3r_0, h3r_1, hk_wi_0, hk_wj_0, h3w_0, h3w_1, h3v_0, hk_kI, hk_kJ, hk_kA, hk_kB, A_eq, A_ne, A_row, B_eq, B_ne, B_row, I_eq, I_ne, J_eq, J_ne, Option.bind_some, Option.some.injEq, if_true, if_false, eq_self, true_or, or_true, true_and, and_true, false_or, or_false, not_true_eq_false, not_false_eq_true, Classical.not_not, nar_b0, nar_b1, rz_0, rz_1, rz_i, ite01, Nat.add_zero, Nat.zero_add, Nat.one_mul, mul12, reduceIte, ra_z0, Nat.reduceEqDiff, Nat.reduceLT, Nat.reduceLeDiff, Nat.reduceAdd, Nat.reduceMul, Nat.reduceSub, Nat.reduceDiv, Nat.reduceMod, Bool.false_eq_true, false_and, and_false, reduceCtorEq]
  simp (maxSteps := 400000) (disch := omega) only [n3_l, n3_add, n3_mul, n3_sub, n3_subn, n3_lt, n3_le, n3_eq, n3_eqn, n3_neq, n3_and, n3_or, n3_shl, n3_i, n3_cl, ↓hbd_0, ↓hbd_1, ↓hbd_2, hk_ob_0, hk_rd_0, hk_rd_1, hk_rd_2, hk_al_0, hk_al_1, h3r_0, h3r_1, hk_wi_0, hk_wj_0, h3w_0, h3w_1, h3v_0, hk_kI, hk_kJ, hk_kA, hk_kB, A_eq, A_ne, A_row, B_eq, B_ne, B_row, I_eq, I_ne, J_eq, J_ne, Option.bind_some, Option.some.injEq, if_true, if_false, eq_self, true_or, or_true, true_and, and_true, false_or, or_false, not_true_eq_false, not_false_eq_true, Classical.not_not, nar_b0, nar_b1, rz_0, rz_1, rz_i, ite01, Nat.add_zero, Nat.zero_add, Nat.one_mul, mul12, reduceIte, ra_z0, Nat.reduceEqDiff, Nat.reduceLT, Nat.reduceLeDiff, Nat.reduceAdd, Nat.reduceMul, Nat.reduceSub, Nat.reduceDiv, Nat.reduceMod, Bool.false_eq_true, false_and, and_false, reduceCtorEq, fX12_must, nX12_must_35, nX12_must_24, nX12_must_0, h14, w1, a1, w2, a2]
theorem r_emit {f : Nat} {o g : Int32} (h17 : hk_I κ 69 17 = n3 f) (hf : f < 400) : fX12_emit N 69 o g (hp κ) = some (hp (hk_wI (hk_wA (hk_wA κ 76 f o) 77 f g) 69 17 (n3 (f + 1)))) := by
  simp (maxSteps := 400000) (disch := omega) only [n3_l, n3_add, n3_mul, n3_sub, n3_subn, n3_lt, n3_le, n3_eq, n3_eqn, n3_neq, n3_and, n3_or, n3_shl, n3_i, n3_cl, ↓hbd_0, ↓hbd_1, ↓hbd_2, hk_ob_0, hk_rd_0, hk_rd_1, hk_rd_2, hk_al_0, hk_al_1, h3r_0, h3r_1, hk_wi_0, hk_wj_0, h3w_0, h3w_1, h3v_0, hk_kI, hk_kJ, hk_kA, hk_kB, A_eq, A_ne, A_row, B_eq, B_ne, B_row, I_eq, I_ne, J_eq, J_ne, Option.bind_some, Option.some.injEq, if_true, if_false, eq_self, true_or, or_true, true_and, and_true, false_or, or_false, not_true_eq_false, not_false_eq_true, Classical.not_not, nar_b0, nar_b1, rz_0, rz_1, rz_i, ite01, Nat.add_zero, Nat.zero_add, Nat.one_mul, mul12, reduceIte, ra_z0, Nat.reduceEqDiff, Nat.reduceLT, Nat.reduceLeDiff, Nat.reduceAdd, Nat.reduceMul, Nat.reduceSub, Nat.reduceDiv, Nat.reduceMod, Bool.false_eq_true, false_and, and_false, reduceCtorEq, fX12_emit, nX12_emit_0, h17]
theorem r_push {f : Nat} {o g : Int32} (h23 : hk_I κ 69 23 = n3 f) (hf : f < 400) : fX12_push N 69 o g (hp κ) = some (hp (hk_wI (hk_wA (hk_wA κ 78 f o) 79 f g) 69 23 (n3 (f + 1)))) := by
  simp (maxSteps := 400000) (disch := omega) only [n3_l, n3_add, n3_mul, n3_sub, n3_subn, n3_lt, n3_le, n3_eq, n3_eqn, n3_neq, n3_and, n3_or, n3_shl, n3_i, n3_cl, ↓hbd_0, ↓hbd_1, ↓hbd_2, hk_ob_0, hk_rd_0, hk_rd_1, hk_rd_2, hk_al_0, hk_al_1, h3r_0, h3r_1, hk_wi_0, hk_wj_0, h3w_0, h3w_1, h3v_0, hk_kI, hk_kJ, hk_kA, hk_kB, A_eq, A_ne, A_row, B_eq, B_ne, B_row, I_eq, I_ne, J_eq, J_ne, Option.bind_some, Option.some.injEq, if_true, if_false, eq_self, true_or, or_true, true_and, and_true, false_or, or_false, not_true_eq_false, not_false_eq_true, Classical.not_not, nar_b0, nar_b1, rz_0, rz_1, rz_i, ite01, Nat.add_zero, Nat.zero_add, Nat.one_mul, mul12, reduceIte, ra_z0, Nat.reduceEqDiff, Nat.reduceLT, Nat.reduceLeDiff, Nat.reduceAdd, Nat.reduceMul, Nat.reduceSub, Nat.reduceDiv, Nat.reduceMod, Bool.false_eq_true, false_and, and_false, reduceCtorEq, fX12_push, nX12_push_0, h23]
theorem r_binds {o : Nat} (ho : o < 100) (h : ra_H) : fX12_binds N (n3 o) h = some (n3 (bnd o), h) := by
  unfold bnd
  simp (maxSteps := 400000) (disch := omega) only [n3_l, n3_add, n3_mul, n3_sub, n3_subn, n3_lt, n3_le, n3_eq, n3_eqn, n3_neq, n3_and, n3_or, n3_shl, n3_i, n3_cl, Option.bind_some, Option.some.injEq, if_true, if_false, eq_self, true_or, or_true, true_and, and_true, false_or, or_false, not_true_eq_false, not_false_eq_true, Classical.not_not, nar_b0, nar_b1, rz_0, rz_1, rz_i, ite01, Nat.add_zero, Nat.zero_add, Nat.one_mul, mul12, reduceIte, ra_z0, Nat.reduceEqDiff, Nat.reduceLT, Nat.reduceLeDiff, Nat.reduceAdd, Nat.reduceMul, Nat.reduceSub, Nat.reduceDiv, Nat.reduceMod, Bool.false_eq_true, false_and, and_false, reduceCtorEq, fX12_binds, nX12_binds_62, nX12_binds_0]
  (repeat' split) <;> first | rfl | (exfalso; omega)
theorem r_inner {P : List (Nat × Nat)} (h23 : hk_I κ 69 23 = n3 P.length) (hl : P.length ≤ 400) (hp' : pil κ P) (hN : 1000 < N) : fX12_inner N 69 (hp κ) = some (if inn P = 0 then -n3 1 else n3 (inn P), hp κ) := by
  have loop : ∀ r i m, r + i = P.length → r < m → nX12_inner_4 N m 69 (if inn (bt P i) = 0 then -n3 1 else n3 (inn (bt P i))) (n3 i) (hp κ) = some (if inn P = 0 then -n3 1 else n3 (inn P), hp κ) := by
    intro r
    induction r with
    | zero =>
      intro i m hi hm
      obtain ⟨m, rfl⟩ : ∃ q, m = q + 1 := ⟨m - 1, by omega⟩
      have c : ¬ i < P.length := by omega
      have e : i = P.length := by omega
      rw [nX12_inner_4]
      simp (maxSteps := 400000) (disch := omega) only [n3_l, n3_add, n3_mul, n3_sub, n3_subn, n3_lt, n3_le, n3_eq, n3_eqn, n3_neq, n3_and, n3_or, n3_shl, n3_i, n3_cl, ↓hbd_0, ↓hbd_1, ↓hbd_2, hk_ob_0, hk_rd_0, hk_rd_1, hk_rd_2, hk_al_0, hk_al_1, h3r_0, h3r_1, hk_wi_0, hk_wj_0, h3w_0, h3w_1, h3v_0, hk_kI, hk_kJ, hk_kA, hk_kB, A_eq, A_ne, A_row, B_eq, B_ne, B_row, I_eq, I_ne, J_eq, J_ne, Option.bind_some, Option.some.injEq, if_true, if_false, eq_self, true_or, or_true, true_and, and_true, false_or, or_false, not_true_eq_false, not_false_eq_true, Classical.not_not, nar_b0, nar_b1, rz_0, rz_1, rz_i, ite01, Nat.add_zero, Nat.zero_add, Nat.one_mul, mul12, reduceIte, ra_z0, Nat.reduceEqDiff, Nat.reduceLT, Nat.reduceLeDiff, Nat.reduceAdd, Nat.reduceMul, Nat.reduceSub, Nat.reduceDiv, Nat.reduceMod, Bool.false_eq_true, false_and, and_false, reduceCtorEq, h23, c]
      rw [e, bt_all]
    | succ r ih =>
      intro i m hi hm
      obtain ⟨m, rfl⟩ : ∃ q, m = q + 1 := ⟨m - 1, by omega⟩
      have c : i < P.length := by omega
      obtain ⟨q1, q2, q3⟩ := pil_pa hp' i c
      obtain ⟨a, e⟩ := bt_next P i c
      have r1 := ih (i + 1) m (by omega) (by omega)
      rw [e, inn] at r1
      rw [nX12_inner_4]
      by_cases c30 : 30 ≤ pa P i
      · rw [if_pos c30] at r1
        have z0 : ¬ pa P i = 0 := by omega
        rw [if_neg z0] at r1
        have c30' : ¬ pa P i < 30 := by omega
        simp (maxSteps := 400000) (disch := omega) only [n3_l, n3_add, n3_mul, n3_sub, n3_subn, n3_lt, n3_le, n3_eq, n3_eqn, n3_neq, n3_and, n3_or, n3_shl, n3_i, n3_cl, ↓hbd_0, ↓hbd_1, ↓hbd_2, hk_ob_0, hk_rd_0, hk_rd_1, hk_rd_2, hk_al_0, hk_al_1, h3r_0, h3r_1, hk_wi_0, hk_wj_0, h3w_0, h3w_1, h3v_0, hk_kI, hk_kJ, hk_kA, hk_kB, A_eq, A_ne, A_row, B_eq, B_ne, B_row, I_eq, I_ne, J_eq, J_ne, Option.bind_some, Option.some.injEq, if_true, if_false, eq_self, true_or, or_true, true_and, and_true, false_or, or_false, not_true_eq_false, not_false_eq_true, Classical.not_not, nar_b0, nar_b1, rz_0, rz_1, rz_i, ite01, Nat.add_zero, Nat.zero_add, Nat.one_mul, mul12, reduceIte, ra_z0, Nat.reduceEqDiff, Nat.reduceLT, Nat.reduceLeDiff, Nat.reduceAdd, Nat.reduceMul, Nat.reduceSub, Nat.reduceDiv, Nat.reduceMod, Bool.false_eq_true, false_and, and_false, reduceCtorEq, h23, c, q1, c30', nX12_inner_33]
        exact r1
      · rw [if_neg c30] at r1
        have c30' : pa P i < 30 := by omega
        simp (maxSteps := 400000) (disch := omega) only [n3_l, n3_add, n3_mul, n3_sub, n3_subn, n3_lt, n3_le, n3_eq, n3_eqn, n3_neq, n3_and, n3_or, n3_shl, n3_i, n3_cl, ↓hbd_0, ↓hbd_1, ↓hbd_2, hk_ob_0, hk_rd_0, hk_rd_1, hk_rd_2, hk_al_0, hk_al_1, h3r_0, h3r_1, hk_wi_0, hk_wj_0, h3w_0, h3w_1, h3v_0, hk_kI, hk_kJ, hk_kA, hk_kB, A_eq, A_ne, A_row, B_eq, B_ne, B_row, I_eq, I_ne, J_eq, J_ne, Option.bind_some, Option.some.injEq, if_true, if_false, eq_self, true_or, or_true, true_and, and_true, false_or, or_false, not_true_eq_false, not_false_eq_true, Classical.not_not, nar_b0, nar_b1, rz_0, rz_1, rz_i, ite01, Nat.add_zero, Nat.zero_add, Nat.one_mul, mul12, reduceIte, ra_z0, Nat.reduceEqDiff, Nat.reduceLT, Nat.reduceLeDiff, Nat.reduceAdd, Nat.reduceMul, Nat.reduceSub, Nat.reduceDiv, Nat.reduceMod, Bool.false_eq_true, false_and, and_false, reduceCtorEq, h23, c, q1, c30', nX12_inner_33]
        exact r1
  have r := loop P.length 0 N (by omega) (by omega)
  rw [bt_0] at r
  unfold fX12_inner nX12_inner_0
  simp (maxSteps := 400000) (disch := omega) only [n3_l, n3_add, n3_mul, n3_sub, n3_subn, n3_lt, n3_le, n3_eq, n3_eqn, n3_neq, n3_and, n3_or, n3_shl, n3_i, n3_cl, ↓hbd_0, ↓hbd_1, ↓hbd_2, hk_ob_0, hk_rd_0, hk_rd_1, hk_rd_2, hk_al_0, hk_al_1, h3r_0, h3r_1, hk_wi_0, hk_wj_0, h3w_0, h3w_1, h3v_0, hk_kI, hk_kJ, hk_kA, hk_kB, A_eq, A_ne, A_row, B_eq, B_ne, B_row, I_eq, I_ne, J_eq, J_ne, Option.bind_some, Option.some.injEq, if_true, if_false, eq_self, true_or, or_true, true_and, and_true, false_or, or_false, not_true_eq_false, not_false_eq_true, Classical.not_not, nar_b0, nar_b1, rz_0, rz_1, rz_i, ite01, Nat.add_zero, Nat.zero_add, Nat.one_mul, mul12, reduceIte, ra_z0, Nat.reduceEqDiff, Nat.reduceLT, Nat.reduceLeDiff, Nat.reduceAdd, Nat.reduceMul, Nat.reduceSub, Nat.reduceDiv, Nat.reduceMod, Bool.false_eq_true, false_and, and_false, reduceCtorEq]
  exact r
theorem r_isCompared {P : List (Nat × Nat)} (h23 : hk_I κ 69 23 = n3 P.length) (hl : P.length ≤ 400) (hp' : pil κ P) (hN : 1000 < N) : fX12_isCompared N 69 (hp κ) = some (if cmpd P = true then n3 1 else n3 0, hp κ) := by
  have l23 : (23 : Int64) = j3 23 := rfl
  have l24 : (24 : Int64) = j3 24 := rfl
  have l26 : (26 : Int64) = j3 26 := rfl
  have loop : ∀ (Q : List (Nat × Nat)) m, Q.length < m → Q.length ≤ 400 → pil κ Q → nX12_isCompared_7 N m 69 (dn Q.length) (hp κ) = some (if cmpd Q = true then n3 1 else n3 0, hp κ) := by
    intro Q
    induction Q with
    | nil =>
      intro m hm _ _
      obtain ⟨m, rfl⟩ : ∃ q, m = q + 1 := ⟨m - 1, by omega⟩
      have c0 : dn 0 < n3 0 := by decide
      rw [nX12_isCompared_7]
      show _ = some (n3 0, hp κ)
      rw [show ([] : List (Nat × Nat)).length = 0 from rfl]
      simp (maxSteps := 400000) (disch := omega) only [n3_l, n3_add, n3_mul, n3_sub, n3_subn, n3_lt, n3_le, n3_eq, n3_eqn, n3_neq, n3_and, n3_or, n3_shl, n3_i, n3_cl, ↓hbd_0, ↓hbd_1, ↓hbd_2, hk_ob_0, hk_rd_0, hk_rd_1, hk_rd_2, hk_al_0, hk_al_1, h3r_0, h3r_1, hk_wi_0, hk_wj_0, h3w_0, h3w_1, h3v_0, hk_kI, hk_kJ, hk_kA, hk_kB, A_eq, A_ne, A_row, B_eq, B_ne, B_row, I_eq, I_ne, J_eq, J_ne, Option.bind_some, Option.some.injEq, if_true, if_false, eq_self, true_or, or_true, true_and, and_true, false_or, or_false, not_true_eq_false, not_false_eq_true, Classical.not_not, nar_b0, nar_b1, rz_0, rz_1, rz_i, ite01, Nat.add_zero, Nat.zero_add, Nat.one_mul, mul12, reduceIte, ra_z0, Nat.reduceEqDiff, Nat.reduceLT, Nat.reduceLeDiff, Nat.reduceAdd, Nat.reduceMul, Nat.reduceSub, Nat.reduceDiv, Nat.reduceMod, Bool.false_eq_true, false_and, and_false, reduceCtorEq, c0, nX12_isCompared_36, nX12_isCompared_63, nX12_isCompared_64]
    | cons q Q ih =>
      obtain ⟨o, a⟩ := q
      rintro m hm h4 ⟨a1, a2, a3, a4, a5, a6⟩
      have e : ((o, a) :: Q).length = Q.length + 1 := rfl
      obtain ⟨m, rfl⟩ : ∃ q, m = q + 1 := ⟨m - 1, by omega⟩
      have i0 : ¬ Q.length < 0 := by omega
      have r1 := ih m (by omega) (by omega) a6
      rw [cmpd, nX12_isCompared_7, e, dn_succ]
      by_cases c23 : o ≤ 23
      · rw [if_pos c23]
        have c1 : 20 ≤ o ∧ o ≤ 23 := ⟨a3, c23⟩
        simp (maxSteps := 400000) (disch := omega) only [n3_l, n3_add, n3_mul, n3_sub, n3_subn, n3_lt, n3_le, n3_eq, n3_eqn, n3_neq, n3_and, n3_or, n3_shl, n3_i, n3_cl, j3_l, j3_add, j3_mul, j3_sub, j3_lt, j3_le, j3_eq, j3_n, lg3_le, lg3_lt, lg3_eq, r_in3, ↓hbd_0, ↓hbd_1, ↓hbd_2, hk_ob_0, hk_rd_0, hk_rd_1, hk_rd_2, hk_al_0, hk_al_1, h3r_0, h3r_1, hk_wi_0, hk_wj_0, h3w_0, h3w_1, h3v_0, hk_kI, hk_kJ, hk_kA, hk_kB, A_eq, A_ne, A_row, B_eq, B_ne, B_row, I_eq, I_ne, J_eq, J_ne, Option.bind_some, Option.some.injEq, if_true, if_false, eq_self, true_or, or_true, true_and, and_true, false_or, or_false, not_true_eq_false, not_false_eq_true, Classical.not_not, nar_b0, nar_b1, rz_0, rz_1, rz_i, ite01, Nat.add_zero, Nat.zero_add, Nat.one_mul, mul12, reduceIte, ra_z0, Nat.reduceEqDiff, Nat.reduceLT, Nat.reduceLeDiff, Nat.reduceAdd, Nat.reduceMul, Nat.reduceSub, Nat.reduceDiv, Nat.reduceMod, Bool.false_eq_true, false_and, and_false, reduceCtorEq, l23, l24, l26, i0, a1, c1, dn_next]
        exact r1
      · rw [if_neg c23]
        have c1 : ¬ (20 ≤ o ∧ o ≤ 23) := by omega
        by_cases c26 : o ≤ 26
        · rw [if_pos c26]
          have c2 : 24 ≤ o ∧ o ≤ 26 := ⟨by omega, c26⟩
          simp (maxSteps := 400000) (disch := omega) only [n3_l, n3_add, n3_mul, n3_sub, n3_subn, n3_lt, n3_le, n3_eq, n3_eqn, n3_neq, n3_and, n3_or, n3_shl, n3_i, n3_cl, j3_l, j3_add, j3_mul, j3_sub, j3_lt, j3_le, j3_eq, j3_n, lg3_le, lg3_lt, lg3_eq, r_in3, ↓hbd_0, ↓hbd_1, ↓hbd_2, hk_ob_0, hk_rd_0, hk_rd_1, hk_rd_2, hk_al_0, hk_al_1, h3r_0, h3r_1, hk_wi_0, hk_wj_0, h3w_0, h3w_1, h3v_0, hk_kI, hk_kJ, hk_kA, hk_kB, A_eq, A_ne, A_row, B_eq, B_ne, B_row, I_eq, I_ne, J_eq, J_ne, Option.bind_some, Option.some.injEq, if_true, if_false, eq_self, true_or, or_true, true_and, and_true, false_or, or_false, not_true_eq_false, not_false_eq_true, Classical.not_not, nar_b0, nar_b1, rz_0, rz_1, rz_i, ite01, Nat.add_zero, Nat.zero_add, Nat.one_mul, mul12, reduceIte, ra_z0, Nat.reduceEqDiff, Nat.reduceLT, Nat.reduceLeDiff, Nat.reduceAdd, Nat.reduceMul, Nat.reduceSub, Nat.reduceDiv, Nat.reduceMod, Bool.false_eq_true, false_and, and_false, reduceCtorEq, l23, l24, l26, i0, a1, c1, c2, nX12_isCompared_36, nX12_isCompared_63, nX12_isCompared_64]
        · rw [if_neg c26]
          have c2 : ¬ (24 ≤ o ∧ o ≤ 26) := by omega
          simp (maxSteps := 400000) (disch := omega) only [n3_l, n3_add, n3_mul, n3_sub, n3_subn, n3_lt, n3_le, n3_eq, n3_eqn, n3_neq, n3_and, n3_or, n3_shl, n3_i, n3_cl, j3_l, j3_add, j3_mul, j3_sub, j3_lt, j3_le, j3_eq, j3_n, lg3_le, lg3_lt, lg3_eq, r_in3, ↓hbd_0, ↓hbd_1, ↓hbd_2, hk_ob_0, hk_rd_0, hk_rd_1, hk_rd_2, hk_al_0, hk_al_1, h3r_0, h3r_1, hk_wi_0, hk_wj_0, h3w_0, h3w_1, h3v_0, hk_kI, hk_kJ, hk_kA, hk_kB, A_eq, A_ne, A_row, B_eq, B_ne, B_row, I_eq, I_ne, J_eq, J_ne, Option.bind_some, Option.some.injEq, if_true, if_false, eq_self, true_or, or_true, true_and, and_true, false_or, or_false, not_true_eq_false, not_false_eq_true, Classical.not_not, nar_b0, nar_b1, rz_0, rz_1, rz_i, ite01, Nat.add_zero, Nat.zero_add, Nat.one_mul, mul12, reduceIte, ra_z0, Nat.reduceEqDiff, Nat.reduceLT, Nat.reduceLeDiff, Nat.reduceAdd, Nat.reduceMul, Nat.reduceSub, Nat.reduceDiv, Nat.reduceMod, Bool.false_eq_true, false_and, and_false, reduceCtorEq, l23, l24, l26, i0, a1, c1, c2, nX12_isCompared_36, nX12_isCompared_63, nX12_isCompared_64]
  have r := loop P N (by omega) hl hp'
  unfold fX12_isCompared nX12_isCompared_0
  simp (maxSteps := 400000) (disch := omega) only [n3_l, n3_add, n3_mul, n3_sub, n3_subn, n3_lt, n3_le, n3_eq, n3_eqn, n3_neq, n3_and, n3_or, n3_shl, n3_i, n3_cl, ↓hbd_0, ↓hbd_1, ↓hbd_2, hk_ob_0, hk_rd_0, hk_rd_1, hk_rd_2, hk_al_0, hk_al_1, h3r_0, h3r_1, hk_wi_0, hk_wj_0, h3w_0, h3w_1, h3v_0, hk_kI, hk_kJ, hk_kA, hk_kB, A_eq, A_ne, A_row, B_eq, B_ne, B_row, I_eq, I_ne, J_eq, J_ne, Option.bind_some, Option.some.injEq, if_true, if_false, eq_self, true_or, or_true, true_and, and_true, false_or, or_false, not_true_eq_false, not_false_eq_true, Classical.not_not, nar_b0, nar_b1, rz_0, rz_1, rz_i, ite01, Nat.add_zero, Nat.zero_add, Nat.one_mul, mul12, reduceIte, ra_z0, Nat.reduceEqDiff, Nat.reduceLT, Nat.reduceLeDiff, Nat.reduceAdd, Nat.reduceMul, Nat.reduceSub, Nat.reduceDiv, Nat.reduceMod, Bool.false_eq_true, false_and, and_false, reduceCtorEq, h23, dn_sub]
  rw [r]
  by_cases c : cmpd P = true
  · rw [if_pos c]
    simp (maxSteps := 400000) (disch := omega) only [n3_l, n3_add, n3_mul, n3_sub, n3_subn, n3_lt, n3_le, n3_eq, n3_eqn, n3_neq, n3_and, n3_or, n3_shl, n3_i, n3_cl, ↓hbd_0, ↓hbd_1, ↓hbd_2, hk_ob_0, hk_rd_0, hk_rd_1, hk_rd_2, hk_al_0, hk_al_1, h3r_0, h3r_1, hk_wi_0, hk_wj_0, h3w_0, h3w_1, h3v_0, hk_kI, hk_kJ, hk_kA, hk_kB, A_eq, A_ne, A_row, B_eq, B_ne, B_row, I_eq, I_ne, J_eq, J_ne, Option.bind_some, Option.some.injEq, if_true, if_false, eq_self, true_or, or_true, true_and, and_true, false_or, or_false, not_true_eq_false, not_false_eq_true, Classical.not_not, nar_b0, nar_b1, rz_0, rz_1, rz_i, ite01, Nat.add_zero, Nat.zero_add, Nat.one_mul, mul12, reduceIte, ra_z0, Nat.reduceEqDiff, Nat.reduceLT, Nat.reduceLeDiff, Nat.reduceAdd, Nat.reduceMul, Nat.reduceSub, Nat.reduceDiv, Nat.reduceMod, Bool.false_eq_true, false_and, and_false, reduceCtorEq]
  · rw [if_neg c]
    simp (maxSteps := 400000) (disch := omega) only [n3_l, n3_add, n3_mul, n3_sub, n3_subn, n3_lt, n3_le, n3_eq, n3_eqn, n3_neq, n3_and, n3_or, n3_shl, n3_i, n3_cl, ↓hbd_0, ↓hbd_1, ↓hbd_2, hk_ob_0, hk_rd_0, hk_rd_1, hk_rd_2, hk_al_0, hk_al_1, h3r_0, h3r_1, hk_wi_0, hk_wj_0, h3w_0, h3w_1, h3v_0, hk_kI, hk_kJ, hk_kA, hk_kB, A_eq, A_ne, A_row, B_eq, B_ne, B_row, I_eq, I_ne, J_eq, J_ne, Option.bind_some, Option.some.injEq, if_true, if_false, eq_self, true_or, or_true, true_and, and_true, false_or, or_false, not_true_eq_false, not_false_eq_true, Classical.not_not, nar_b0, nar_b1, rz_0, rz_1, rz_i, ite01, Nat.add_zero, Nat.zero_add, Nat.one_mul, mul12, reduceIte, ra_z0, Nat.reduceEqDiff, Nat.reduceLT, Nat.reduceLeDiff, Nat.reduceAdd, Nat.reduceMul, Nat.reduceSub, Nat.reduceDiv, Nat.reduceMod, Bool.false_eq_true, false_and, and_false, reduceCtorEq]
end
