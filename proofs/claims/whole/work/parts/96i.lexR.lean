/-! tokens: the reference -/
def encN (B : Nat → Nat) (j e : Nat) : Nat := fo (fun i w => w * 32 + (B i - 96)) j (e - j) 0
def wrR (B : Nat → Nat) (j e : Nat) : Int64 := if e - j ≤ 10 then j3 (encN B j e) else (-1 : Int64)
def numR (B : Nat → Nat) (j e : Nat) : Nat := fo (fun i w => if 1000000 < w then w else w * 10 + (B i - 48)) j (e - j) 0
def tkR (B : Nat → Nat) (n j : Nat) : Int64 := if tkK B n j = 1 then wrR B j (tkE B n j) else if tkK B n j = 2 then j3 (numR B j (tkE B n j)) else if tkK B n j = 3 then j3 (B j) else j3 0
theorem encN_lt {B : Nat → Nat} {n j : Nat} (hB : ∀ i, i < n → B i < 256) : ∀ e, j ≤ e → e ≤ n → e - j ≤ 11 → (∀ i, j ≤ i → i < e → isL (B i)) → encN B j e < 32 ^ (e - j) := by
  intro e
  induction e with
  | zero => intro h1 _ _ _; unfold encN; rw [show 0 - j = 0 by omega]; exact Nat.one_pos
  | succ e ih =>
    intro h1 h2 h3 h4
    by_cases c : j ≤ e
    · have i1 := ih c (by omega) (by omega) (fun i g1 g2 => h4 i g1 (by omega))
      have l := h4 e c (by omega)
      have nn : encN B j (e + 1) = encN B j e * 32 + (B e - 96) := by
        unfold encN
        rw [show e + 1 - j = (e - j) + 1 by omega, fo_last, show j + (e - j) = e by omega]
      rw [nn, show e + 1 - j = (e - j) + 1 by omega, Nat.pow_succ]
      omega
    · unfold encN
      rw [show e + 1 - j = 0 by omega]
      exact Nat.one_pos
theorem numR_le (B : Nat → Nat) (hB : ∀ i, isD (B i) → B i < 58) (j e : Nat) : (∀ i, j ≤ i → i < e → isD (B i)) → numR B j e ≤ 10000010 := by
  unfold numR
  have key : ∀ d, (∀ i, j ≤ i → i < j + d → isD (B i)) → fo (fun i w => if 1000000 < w then w else w * 10 + (B i - 48)) j d 0 ≤ 10000010 := by
    intro d
    induction d with
    | zero => intro _; exact Nat.zero_le _
    | succ d ih =>
      intro h
      have i1 := ih (fun i g1 g2 => h i g1 (by omega))
      have l := h (j + d) (by omega) (by omega)
      rw [fo_last]
      split <;> omega
  intro h
  exact key (e - j) (fun i g1 g2 => h i g1 (by omega))
/-- a number that is read is the same on both sides -/
theorem num_eq (B : Nat → Nat) (j e : Nat) : (numC B j e ≤ 1000 → numR B j e = numC B j e) ∧ (¬ numC B j e ≤ 1000 → 1000 < numR B j e) := by
  unfold numC numR
  generalize e - j = d
  have key : ((fo (fun i v => min (v * 10 + (B i - 48)) 1001) j d 0) ≤ 1000 → fo (fun i w => if 1000000 < w then w else w * 10 + (B i - 48)) j d 0 = fo (fun i v => min (v * 10 + (B i - 48)) 1001) j d 0) ∧ (¬ (fo (fun i v => min (v * 10 + (B i - 48)) 1001) j d 0) ≤ 1000 → 1000 < fo (fun i w => if 1000000 < w then w else w * 10 + (B i - 48)) j d 0) := by
    induction d with
    | zero => exact ⟨fun _ => rfl, fun h => absurd (Nat.zero_le _) h⟩
    | succ d ih =>
      rw [fo_last, fo_last]
      generalize fo (fun i v => min (v * 10 + (B i - 48)) 1001) j d 0 = v at ih ⊢
      generalize fo (fun i w => if 1000000 < w then w else w * 10 + (B i - 48)) j d 0 = w at ih ⊢
      by_cases c : v ≤ 1000
      · have e := ih.1 c
        subst e
        rw [if_neg (by omega)]
        omega
      · have e := ih.2 c
        refine ⟨fun h => by omega, fun _ => ?_⟩
        split <;> omega
  exact key
def rTape (κ : hk_T) (B : Nat → Nat) (n : Nat) : Prop := n ≤ 400 ∧ hk_I κ 69 8 = n3 n ∧ ∀ i, i < n → hk_A κ 74 i = n3 (B i) ∧ B i < 256
def rTok (κ : hk_T) (B : Nat → Nat) (n j : Nat) : Prop := j ≤ n ∧ hk_I κ 69 9 = n3 j ∧ hk_I κ 69 10 = n3 (tkE B n j) ∧ hk_I κ 69 11 = n3 (tkK B n j) ∧ hk_J κ 12 = tkR B n j
theorem rTape.same {κ κ' : hk_T} {B : Nat → Nat} {n : Nat} {ks : List Nat} {fs : List (Nat × Nat)} (h : rTape κ B n) (s : same ks fs κ κ') (h1 : 74 ∉ ks) (h2 : (69, 8) ∉ fs) : rTape κ' B n := by
  obtain ⟨a, b, c⟩ := h
  exact ⟨a, by rw [s.2.2.1 69 8 h2]; exact b, by rw [s.1 74 h1]; exact c⟩
section
variable (N : Nat) (κ : hk_T)
theorem r_isSmall {h : ra_H} {b : Nat} (hb : b < 256) : fX12_isSmall N (n3 b) h = some (if isL b then n3 1 else n3 0, h) := by
  by_cases c1 : b < 97
  · rw [if_neg (show ¬ isL b by omega)]
    simp (maxSteps := 400000) (disch := omega) only [n3_l, n3_add, n3_mul, n3_sub, n3_subn, n3_lt, n3_le, n3_eq, n3_eqn, n3_neq, n3_and, n3_or, n3_shl, n3_i, n3_cl, ↓hbd_0, ↓hbd_1, ↓hbd_2, hk_ob_0, hk_rd_0, hk_rd_1, hk_rd_2, hk_al_0, hk_al_1, h3r_0, h3r_1, hk_wi_0, hk_wj_0, h3w_0, h3w_1, h3v_0, hk_kI, hk_kJ, hk_kA, hk_kB, A_eq, A_ne, A_row, B_eq, B_ne, B_row, I_eq, I_ne, J_eq, J_ne, Option.bind_some, Option.some.injEq, if_true, if_false, eq_self, true_or, or_true, true_and, and_true, false_or, or_false, not_true_eq_false, not_false_eq_true, Classical.not_not, nar_b0, nar_b1, rz_0, rz_1, rz_i, ite01, Nat.add_zero, Nat.zero_add, Nat.one_mul, mul12, reduceIte, ra_z0, Nat.reduceEqDiff, Nat.reduceLT, Nat.reduceLeDiff, Nat.reduceAdd, Nat.reduceMul, Nat.reduceSub, Nat.reduceDiv, Nat.reduceMod, Bool.false_eq_true, false_and, and_false, reduceCtorEq, fX12_isSmall, nX12_isSmall_17, nX12_isSmall_16, nX12_isSmall_0, c1]
  · by_cases c2 : b ≤ 122
    · rw [if_pos (show isL b by omega)]
      simp (maxSteps := 400000) (disch := omega) only [n3_l, n3_add, n3_mul, n3_sub, n3_subn, n3_lt, n3_le, n3_eq, n3_eqn, n3_neq, n3_and, n3_or, n3_shl, n3_i, n3_cl, ↓hbd_0, ↓hbd_1, ↓hbd_2, hk_ob_0, hk_rd_0, hk_rd_1, hk_rd_2, hk_al_0, hk_al_1, h3r_0, h3r_1, hk_wi_0, hk_wj_0, h3w_0, h3w_1, h3v_0, hk_kI, hk_kJ, hk_kA, hk_kB, A_eq, A_ne, A_row, B_eq, B_ne, B_row, I_eq, I_ne, J_eq, J_ne, Option.bind_some, Option.some.injEq, if_true, if_false, eq_self, true_or, or_true, true_and, and_true, false_or, or_false, not_true_eq_false, not_false_eq_true, Classical.not_not, nar_b0, nar_b1, rz_0, rz_1, rz_i, ite01, Nat.add_zero, Nat.zero_add, Nat.one_mul, mul12, reduceIte, ra_z0, Nat.reduceEqDiff, Nat.reduceLT, Nat.reduceLeDiff, Nat.reduceAdd, Nat.reduceMul, Nat.reduceSub, Nat.reduceDiv, Nat.reduceMod, Bool.false_eq_true, false_and, and_false, reduceCtorEq, fX12_isSmall, nX12_isSmall_17, nX12_isSmall_16, nX12_isSmall_0, c1, c2]
    · rw [if_neg (show ¬ isL b by omega)]
      simp (maxSteps := 400000) (disch := omega) only [n3_l, n3_add, n3_mul, n3_sub, n3_subn, n3_lt, n3_le, n3_eq, n3_eqn, n3_neq, n3_and, n3_or, n3_shl, n3_i, n3_cl, ↓hbd_0, ↓hbd_1, ↓hbd_2, hk_ob_0, hk_rd_0, hk_rd_1, hk_rd_2, hk_al_0, hk_al_1, h3r_0, h3r_1, hk_wi_0, hk_wj_0, h3w_0, h3w_1, h3v_0, hk_kI, hk_kJ, hk_kA, hk_kB, A_eq, A_ne, A_row, B_eq, B_ne, B_row, I_eq, I_ne, J_eq, J_ne, Option.bind_some, Option.some.injEq, if_true, if_false, eq_self, true_or, or_true, true_and, and_true, false_or, or_false, not_true_eq_false, not_false_eq_true, Classical.not_not, nar_b0, nar_b1, rz_0, rz_1, rz_i, ite01, Nat.add_zero, Nat.zero_add, Nat.one_mul, mul12, reduceIte, ra_z0, Nat.reduceEqDiff, Nat.reduceLT, Nat.reduceLeDiff, Nat.reduceAdd, Nat.reduceMul, Nat.reduceSub, Nat.reduceDiv, Nat.reduceMod, Bool.false_eq_true, false_and, and_false, reduceCtorEq, fX12_isSmall, nX12_isSmall_17, nX12_isSmall_16, nX12_isSmall_0, c1, c2]
theorem r_isDigit {h : ra_H} {b : Nat} (hb : b < 256) : fX12_isDigit N (n3 b) h = some (if isD b then n3 1 else n3 0, h) := by
  by_cases c1 : b < 48
  · rw [if_neg (show ¬ isD b by omega)]
    simp (maxSteps := 400000) (disch := omega) only [n3_l, n3_add, n3_mul, n3_sub, n3_subn, n3_lt, n3_le, n3_eq, n3_eqn, n3_neq, n3_and, n3_or, n3_shl, n3_i, n3_cl, ↓hbd_0, ↓hbd_1, ↓hbd_2, hk_ob_0, hk_rd_0, hk_rd_1, hk_rd_2, hk_al_0, hk_al_1, h3r_0, h3r_1, hk_wi_0, hk_wj_0, h3w_0, h3w_1, h3v_0, hk_kI, hk_kJ, hk_kA, hk_kB, A_eq, A_ne, A_row, B_eq, B_ne, B_row, I_eq, I_ne, J_eq, J_ne, Option.bind_some, Option.some.injEq, if_true, if_false, eq_self, true_or, or_true, true_and, and_true, false_or, or_false, not_true_eq_false, not_false_eq_true, Classical.not_not, nar_b0, nar_b1, rz_0, rz_1, rz_i, ite01, Nat.add_zero, Nat.zero_add, Nat.one_mul, mul12, reduceIte, ra_z0, Nat.reduceEqDiff, Nat.reduceLT, Nat.reduceLeDiff, Nat.reduceAdd, Nat.reduceMul, Nat.reduceSub, Nat.reduceDiv, Nat.reduceMod, Bool.false_eq_true, false_and, and_false, reduceCtorEq, fX12_isDigit, nX12_isDigit_17, nX12_isDigit_16, nX12_isDigit_0, c1]
  · by_cases c2 : b ≤ 57
    · rw [if_pos (show isD b by omega)]
      simp (maxSteps := 400000) (disch := omega) only [n3_l, n3_add, n3_mul, n3_sub, n3_subn, n3_lt, n3_le, n3_eq, n3_eqn, n3_neq, n3_and, n3_or, n3_shl, n3_i, n3_cl, ↓hbd_0, ↓hbd_1, ↓hbd_2, hk_ob_0, hk_rd_0, hk_rd_1, hk_rd_2, hk_al_0, hk_al_1, h3r_0, h3r_1, hk_wi_0, hk_wj_0, h3w_0, h3w_1, h3v_0, hk_kI, hk_kJ, hk_kA, hk_kB, A_eq, A_ne, A_row, B_eq, B_ne, B_row, I_eq, I_ne, J_eq, J_ne, Option.bind_some, Option.some.injEq, if_true, if_false, eq_self, true_or, or_true, true_and, and_true, false_or, or_false, not_true_eq_false, not_false_eq_true, Classical.not_not, nar_b0, nar_b1, rz_0, rz_1, rz_i, ite01, Nat.add_zero, Nat.zero_add, Nat.one_mul, mul12, reduceIte, ra_z0, Nat.reduceEqDiff, Nat.reduceLT, Nat.reduceLeDiff, Nat.reduceAdd, Nat.reduceMul, Nat.reduceSub, Nat.reduceDiv, Nat.reduceMod, Bool.false_eq_true, false_and, and_false, reduceCtorEq, fX12_isDigit, nX12_isDigit_17, nX12_isDigit_16, nX12_isDigit_0, c1, c2]
    · rw [if_neg (show ¬ isD b by omega)]
      simp (maxSteps := 400000) (disch := omega) only [n3_l, n3_add, n3_mul, n3_sub, n3_subn, n3_lt, n3_le, n3_eq, n3_eqn, n3_neq, n3_and, n3_or, n3_shl, n3_i, n3_cl, ↓hbd_0, ↓hbd_1, ↓hbd_2, hk_ob_0, hk_rd_0, hk_rd_1, hk_rd_2, hk_al_0, hk_al_1, h3r_0, h3r_1, hk_wi_0, hk_wj_0, h3w_0, h3w_1, h3v_0, hk_kI, hk_kJ, hk_kA, hk_kB, A_eq, A_ne, A_row, B_eq, B_ne, B_row, I_eq, I_ne, J_eq, J_ne, Option.bind_some, Option.some.injEq, if_true, if_false, eq_self, true_or, or_true, true_and, and_true, false_or, or_false, not_true_eq_false, not_false_eq_true, Classical.not_not, nar_b0, nar_b1, rz_0, rz_1, rz_i, ite01, Nat.add_zero, Nat.zero_add, Nat.one_mul, mul12, reduceIte, ra_z0, Nat.reduceEqDiff, Nat.reduceLT, Nat.reduceLeDiff, Nat.reduceAdd, Nat.reduceMul, Nat.reduceSub, Nat.reduceDiv, Nat.reduceMod, Bool.false_eq_true, false_and, and_false, reduceCtorEq, fX12_isDigit, nX12_isDigit_17, nX12_isDigit_16, nX12_isDigit_0, c1, c2]
/-- words -/
theorem r_go227 {j' : Nat} {x : Int64} {c149 : Nat → ra_H → Option ra_H} (k2 : hk_I κ 69 10 = n3 j') : nX12_goOn_227 N c149 69 69 x (hp κ) = c149 69 (hp (hk_wI (hk_wJ κ 12 x) 69 10 (n3 (j' + 1)))) := by
  have a1 : ra_fW (hp κ) 12 69 12 (.long x) = some (hp (hk_wJ κ 12 x)) := by simp (maxSteps := 400000) (disch := omega) only [n3_l, n3_add, n3_mul, n3_sub, n3_subn, n3_lt, n3_le, n3_eq, n3_eqn, n3_neq, n3_and, n3_or, n3_shl, n3_i, n3_cl, ↓hbd_0, ↓hbd_1, ↓hbd_2, hk_ob_0, hk_rd_0, hk_rd_1, hk_rd_2, hk_al_0, hk_al_1, h3r_0, h3r_1, hk_wi_0, hk_wj_0, h3w_0, h3w_1, h3v_0, hk_kI, hk_kJ, hk_kA, hk_kB, A_eq, A_ne, A_row, B_eq, B_ne, B_row, I_eq, I_ne, J_eq, J_ne, Option.bind_some, Option.some.injEq, if_true, if_false, eq_self, true_or, or_true, true_and, and_true, false_or, or_false, not_true_eq_false, not_false_eq_true, Classical.not_not, nar_b0, nar_b1, rz_0, rz_1, rz_i, ite01, Nat.add_zero, Nat.zero_add, Nat.one_mul, mul12, reduceIte, ra_z0, Nat.reduceEqDiff, Nat.reduceLT, Nat.reduceLeDiff, Nat.reduceAdd, Nat.reduceMul, Nat.reduceSub, Nat.reduceDiv, Nat.reduceMod, Bool.false_eq_true, false_and, and_false, reduceCtorEq]
  obtain ⟨κa, ha⟩ : ∃ κa, κa = hk_wJ κ 12 x := ⟨_, rfl⟩
  have q : hk_I κa 69 10 = n3 j' := by rw [ha]; exact k2
  rw [← ha] at a1 ⊢
  unfold nX12_goOn_227
  simp only [a1, Option.bind_some]
  simp (maxSteps := 400000) (disch := omega) only [n3_l, n3_add, n3_mul, n3_sub, n3_subn, n3_lt, n3_le, n3_eq, n3_eqn, n3_neq, n3_and, n3_or, n3_shl, n3_i, n3_cl, ↓hbd_0, ↓hbd_1, ↓hbd_2, hk_ob_0, hk_rd_0, hk_rd_1, hk_rd_2, hk_al_0, hk_al_1, h3r_0, h3r_1, hk_wi_0, hk_wj_0, h3w_0, h3w_1, h3v_0, hk_kI, hk_kJ, hk_kA, hk_kB, A_eq, A_ne, A_row, B_eq, B_ne, B_row, I_eq, I_ne, J_eq, J_ne, Option.bind_some, Option.some.injEq, if_true, if_false, eq_self, true_or, or_true, true_and, and_true, false_or, or_false, not_true_eq_false, not_false_eq_true, Classical.not_not, nar_b0, nar_b1, rz_0, rz_1, rz_i, ite01, Nat.add_zero, Nat.zero_add, Nat.one_mul, mul12, reduceIte, ra_z0, Nat.reduceEqDiff, Nat.reduceLT, Nat.reduceLeDiff, Nat.reduceAdd, Nat.reduceMul, Nat.reduceSub, Nat.reduceDiv, Nat.reduceMod, Bool.false_eq_true, false_and, and_false, reduceCtorEq, q]
/-- up to the letter's test -/
theorem r_goW0 {m : Nat} {x y z b u : Int32} {w : Int64} (f11 : ra_fI (hp κ) 12 69 11 = some u) (hu : u = (1 : Int32)) (f10 : ra_fI (hp κ) 12 69 10 = some x) (f8 : ra_fI (hp κ) 12 69 8 = some z) (f9 : ra_fI (hp κ) 12 69 9 = some y) (fJ : ra_fJ (hp κ) 12 69 12 = some w) (fR : ra_fR (hp κ) 12 69 7 = some 74) (fb : ra_aI (hp κ) 0 74 x = some b) (hx : x < z) (il : fX12_isSmall N b (hp κ) = some (u, hp κ)) : nX12_goOn_149 N (m + 1) 69 (hp κ) = if (x - y) < (10 : Int32) then nX12_goOn_227 N (nX12_goOn_149 N m) 69 69 (((w * ((32 : Int64))) + (Int32.toInt64 b)) - ((96 : Int64))) (hp κ) else nX12_goOn_227 N (nX12_goOn_149 N m) 69 69 ((-1 : Int64)) (hp κ) := by
  have hu0 : ¬ u = (0 : Int32) := by rw [hu]; decide
  generalize hp κ = h at *
  rw [nX12_goOn_149]
  simp only [f11, Option.bind_some]
  rw [if_pos hu]
  simp only [f10, f8, Option.bind_some]
  rw [if_pos hx]
  simp only [fR, fb, il, Option.bind_some]
  rw [if_neg hu0]
  simp only [f10, f9, fJ, fR, fb, Option.bind_some]
theorem r_goWx {n j j' m b : Nat} (n4 : n ≤ 400) (hj' : j' < n) (r8 : hk_I κ 69 8 = n3 n) (r9 : hk_I κ 69 9 = n3 j) (r11 : hk_I κ 69 11 = n3 1) (k2 : hk_I κ 69 10 = n3 j') (rb : hk_A κ 74 j' = n3 b) (il : fX12_isSmall N (n3 b) (hp κ) = some (n3 1, hp κ)) : nX12_goOn_149 N (m + 1) 69 (hp κ) = if (n3 j' - n3 j) < (10 : Int32) then nX12_goOn_227 N (nX12_goOn_149 N m) 69 69 (((hk_J κ 12 * ((32 : Int64))) + (Int32.toInt64 (n3 b))) - ((96 : Int64))) (hp κ) else nX12_goOn_227 N (nX12_goOn_149 N m) 69 69 ((-1 : Int64)) (hp κ) := by
  have f11 : ra_fI (hp κ) 12 69 11 = some (n3 1) := by simp (maxSteps := 400000) (disch := omega) only [n3_l, n3_add, n3_mul, n3_sub, n3_subn, n3_lt, n3_le, n3_eq, n3_eqn, n3_neq, n3_and, n3_or, n3_shl, n3_i, n3_cl, ↓hbd_0, ↓hbd_1, ↓hbd_2, hk_ob_0, hk_rd_0, hk_rd_1, hk_rd_2, hk_al_0, hk_al_1, h3r_0, h3r_1, hk_wi_0, hk_wj_0, h3w_0, h3w_1, h3v_0, hk_kI, hk_kJ, hk_kA, hk_kB, A_eq, A_ne, A_row, B_eq, B_ne, B_row, I_eq, I_ne, J_eq, J_ne, Option.bind_some, Option.some.injEq, if_true, if_false, eq_self, true_or, or_true, true_and, and_true, false_or, or_false, not_true_eq_false, not_false_eq_true, Classical.not_not, nar_b0, nar_b1, rz_0, rz_1, rz_i, ite01, Nat.add_zero, Nat.zero_add, Nat.one_mul, mul12, reduceIte, ra_z0, Nat.reduceEqDiff, Nat.reduceLT, Nat.reduceLeDiff, Nat.reduceAdd, Nat.reduceMul, Nat.reduceSub, Nat.reduceDiv, Nat.reduceMod, Bool.false_eq_true, false_and, and_false, reduceCtorEq, r11]
  have f10 : ra_fI (hp κ) 12 69 10 = some (n3 j') := by simp (maxSteps := 400000) (disch := omega) only [n3_l, n3_add, n3_mul, n3_sub, n3_subn, n3_lt, n3_le, n3_eq, n3_eqn, n3_neq, n3_and, n3_or, n3_shl, n3_i, n3_cl, ↓hbd_0, ↓hbd_1, ↓hbd_2, hk_ob_0, hk_rd_0, hk_rd_1, hk_rd_2, hk_al_0, hk_al_1, h3r_0, h3r_1, hk_wi_0, hk_wj_0, h3w_0, h3w_1, h3v_0, hk_kI, hk_kJ, hk_kA, hk_kB, A_eq, A_ne, A_row, B_eq, B_ne, B_row, I_eq, I_ne, J_eq, J_ne, Option.bind_some, Option.some.injEq, if_true, if_false, eq_self, true_or, or_true, true_and, and_true, false_or, or_false, not_true_eq_false, not_false_eq_true, Classical.not_not, nar_b0, nar_b1, rz_0, rz_1, rz_i, ite01, Nat.add_zero, Nat.zero_add, Nat.one_mul, mul12, reduceIte, ra_z0, Nat.reduceEqDiff, Nat.reduceLT, Nat.reduceLeDiff, Nat.reduceAdd, Nat.reduceMul, Nat.reduceSub, Nat.reduceDiv, Nat.reduceMod, Bool.false_eq_true, false_and, and_false, reduceCtorEq, k2]
  have f8 : ra_fI (hp κ) 12 69 8 = some (n3 n) := by simp (maxSteps := 400000) (disch := omega) only [n3_l, n3_add, n3_mul, n3_sub, n3_subn, n3_lt, n3_le, n3_eq, n3_eqn, n3_neq, n3_and, n3_or, n3_shl, n3_i, n3_cl, ↓hbd_0, ↓hbd_1, ↓hbd_2, hk_ob_0, hk_rd_0, hk_rd_1, hk_rd_2, hk_al_0, hk_al_1, h3r_0, h3r_1, hk_wi_0, hk_wj_0, h3w_0, h3w_1, h3v_0, hk_kI, hk_kJ, hk_kA, hk_kB, A_eq, A_ne, A_row, B_eq, B_ne, B_row, I_eq, I_ne, J_eq, J_ne, Option.bind_some, Option.some.injEq, if_true, if_false, eq_self, true_or, or_true, true_and, and_true, false_or, or_false, not_true_eq_false, not_false_eq_true, Classical.not_not, nar_b0, nar_b1, rz_0, rz_1, rz_i, ite01, Nat.add_zero, Nat.zero_add, Nat.one_mul, mul12, reduceIte, ra_z0, Nat.reduceEqDiff, Nat.reduceLT, Nat.reduceLeDiff, Nat.reduceAdd, Nat.reduceMul, Nat.reduceSub, Nat.reduceDiv, Nat.reduceMod, Bool.false_eq_true, false_and, and_false, reduceCtorEq, r8]
  have f9 : ra_fI (hp κ) 12 69 9 = some (n3 j) := by simp (maxSteps := 400000) (disch := omega) only [n3_l, n3_add, n3_mul, n3_sub, n3_subn, n3_lt, n3_le, n3_eq, n3_eqn, n3_neq, n3_and, n3_or, n3_shl, n3_i, n3_cl, ↓hbd_0, ↓hbd_1, ↓hbd_2, hk_ob_0, hk_rd_0, hk_rd_1, hk_rd_2, hk_al_0, hk_al_1, h3r_0, h3r_1, hk_wi_0, hk_wj_0, h3w_0, h3w_1, h3v_0, hk_kI, hk_kJ, hk_kA, hk_kB, A_eq, A_ne, A_row, B_eq, B_ne, B_row, I_eq, I_ne, J_eq, J_ne, Option.bind_some, Option.some.injEq, if_true, if_false, eq_self, true_or, or_true, true_and, and_true, false_or, or_false, not_true_eq_false, not_false_eq_true, Classical.not_not, nar_b0, nar_b1, rz_0, rz_1, rz_i, ite01, Nat.add_zero, Nat.zero_add, Nat.one_mul, mul12, reduceIte, ra_z0, Nat.reduceEqDiff, Nat.reduceLT, Nat.reduceLeDiff, Nat.reduceAdd, Nat.reduceMul, Nat.reduceSub, Nat.reduceDiv, Nat.reduceMod, Bool.false_eq_true, false_and, and_false, reduceCtorEq, r9]
  have fJ : ra_fJ (hp κ) 12 69 12 = some (hk_J κ 12) := by simp (maxSteps := 400000) (disch := omega) only [n3_l, n3_add, n3_mul, n3_sub, n3_subn, n3_lt, n3_le, n3_eq, n3_eqn, n3_neq, n3_and, n3_or, n3_shl, n3_i, n3_cl, ↓hbd_0, ↓hbd_1, ↓hbd_2, hk_ob_0, hk_rd_0, hk_rd_1, hk_rd_2, hk_al_0, hk_al_1, h3r_0, h3r_1, hk_wi_0, hk_wj_0, h3w_0, h3w_1, h3v_0, hk_kI, hk_kJ, hk_kA, hk_kB, A_eq, A_ne, A_row, B_eq, B_ne, B_row, I_eq, I_ne, J_eq, J_ne, Option.bind_some, Option.some.injEq, if_true, if_false, eq_self, true_or, or_true, true_and, and_true, false_or, or_false, not_true_eq_false, not_false_eq_true, Classical.not_not, nar_b0, nar_b1, rz_0, rz_1, rz_i, ite01, Nat.add_zero, Nat.zero_add, Nat.one_mul, mul12, reduceIte, ra_z0, Nat.reduceEqDiff, Nat.reduceLT, Nat.reduceLeDiff, Nat.reduceAdd, Nat.reduceMul, Nat.reduceSub, Nat.reduceDiv, Nat.reduceMod, Bool.false_eq_true, false_and, and_false, reduceCtorEq]
  have fR : ra_fR (hp κ) 12 69 7 = some 74 := by simp (maxSteps := 400000) (disch := omega) only [n3_l, n3_add, n3_mul, n3_sub, n3_subn, n3_lt, n3_le, n3_eq, n3_eqn, n3_neq, n3_and, n3_or, n3_shl, n3_i, n3_cl, ↓hbd_0, ↓hbd_1, ↓hbd_2, hk_ob_0, hk_rd_0, hk_rd_1, hk_rd_2, hk_al_0, hk_al_1, h3r_0, h3r_1, hk_wi_0, hk_wj_0, h3w_0, h3w_1, h3v_0, hk_kI, hk_kJ, hk_kA, hk_kB, A_eq, A_ne, A_row, B_eq, B_ne, B_row, I_eq, I_ne, J_eq, J_ne, Option.bind_some, Option.some.injEq, if_true, if_false, eq_self, true_or, or_true, true_and, and_true, false_or, or_false, not_true_eq_false, not_false_eq_true, Classical.not_not, nar_b0, nar_b1, rz_0, rz_1, rz_i, ite01, Nat.add_zero, Nat.zero_add, Nat.one_mul, mul12, reduceIte, ra_z0, Nat.reduceEqDiff, Nat.reduceLT, Nat.reduceLeDiff, Nat.reduceAdd, Nat.reduceMul, Nat.reduceSub, Nat.reduceDiv, Nat.reduceMod, Bool.false_eq_true, false_and, and_false, reduceCtorEq]
  have fb : ra_aI (hp κ) 0 74 (n3 j') = some (n3 b) := by simp (maxSteps := 400000) (disch := omega) only [n3_l, n3_add, n3_mul, n3_sub, n3_subn, n3_lt, n3_le, n3_eq, n3_eqn, n3_neq, n3_and, n3_or, n3_shl, n3_i, n3_cl, ↓hbd_0, ↓hbd_1, ↓hbd_2, hk_ob_0, hk_rd_0, hk_rd_1, hk_rd_2, hk_al_0, hk_al_1, h3r_0, h3r_1, hk_wi_0, hk_wj_0, h3w_0, h3w_1, h3v_0, hk_kI, hk_kJ, hk_kA, hk_kB, A_eq, A_ne, A_row, B_eq, B_ne, B_row, I_eq, I_ne, J_eq, J_ne, Option.bind_some, Option.some.injEq, if_true, if_false, eq_self, true_or, or_true, true_and, and_true, false_or, or_false, not_true_eq_false, not_false_eq_true, Classical.not_not, nar_b0, nar_b1, rz_0, rz_1, rz_i, ite01, Nat.add_zero, Nat.zero_add, Nat.one_mul, mul12, reduceIte, ra_z0, Nat.reduceEqDiff, Nat.reduceLT, Nat.reduceLeDiff, Nat.reduceAdd, Nat.reduceMul, Nat.reduceSub, Nat.reduceDiv, Nat.reduceMod, Bool.false_eq_true, false_and, and_false, reduceCtorEq, rb]
  exact r_goW0 N κ f11 rfl f10 f8 f9 fJ fR fb ((n3_lt (by omega) (by omega)).mpr hj') il
theorem r_goW1 {B : Nat → Nat} {n j j' m : Nat} (n4 : n ≤ 400) (hj' : j' < n) (k4 : j ≤ j') (r8 : hk_I κ 69 8 = n3 n) (r9 : hk_I κ 69 9 = n3 j) (r11 : hk_I κ 69 11 = n3 1) (k2 : hk_I κ 69 10 = n3 j') (rb : hk_A κ 74 j' = n3 (B j')) (b2 : B j' < 256) (hq : isL (B j')) (c : j' - j < 10) (k3 : hk_J κ 12 = j3 (encN B j j')) : nX12_goOn_149 N (m + 1) 69 (hp κ) = nX12_goOn_149 N m 69 (hp (hk_wI (hk_wJ κ 12 (j3 (encN B j j' * 32 + B j' - 96))) 69 10 (n3 (j' + 1)))) := by
  have il := r_isSmall N (h := hp κ) b2
  rw [if_pos hq] at il
  have e32 : (32 : Int64) = j3 32 := by decide
  have e96 : (96 : Int64) = j3 96 := by decide
  have lb := hq.1
  have cx : n3 j' - n3 j < n3 10 := by rw [n3_sub k4, n3_lt (by omega) (by omega)]; exact c
  have cx' : n3 j' - n3 j < (10 : Int32) := cx
  rw [r_goWx N κ n4 hj' r8 r9 r11 k2 rb il, if_pos cx', r_go227 N κ k2, k3, e32, e96, j3_n (by omega), j3_mul, j3_add, j3_sub (by omega)]
theorem r_goW2 {B : Nat → Nat} {n j j' m : Nat} (n4 : n ≤ 400) (hj' : j' < n) (k4 : j ≤ j') (r8 : hk_I κ 69 8 = n3 n) (r9 : hk_I κ 69 9 = n3 j) (r11 : hk_I κ 69 11 = n3 1) (k2 : hk_I κ 69 10 = n3 j') (rb : hk_A κ 74 j' = n3 (B j')) (b2 : B j' < 256) (hq : isL (B j')) (c : ¬ j' - j < 10) : nX12_goOn_149 N (m + 1) 69 (hp κ) = nX12_goOn_149 N m 69 (hp (hk_wI (hk_wJ κ 12 (-1 : Int64)) 69 10 (n3 (j' + 1)))) := by
  have il := r_isSmall N (h := hp κ) b2
  rw [if_pos hq] at il
  have cx : ¬ n3 j' - n3 j < n3 10 := by rw [n3_sub k4, n3_lt (by omega) (by omega)]; exact c
  have cx' : ¬ n3 j' - n3 j < (10 : Int32) := cx
  rw [r_goWx N κ n4 hj' r8 r9 r11 k2 rb il, if_neg cx', r_go227 N κ k2]
theorem wrR_1 {B : Nat → Nat} {j j' : Nat} (k4 : j ≤ j') (c : j' - j < 10) (hq : isL (B j')) : wrR B j j' = j3 (encN B j j') ∧ wrR B j (j' + 1) = j3 (encN B j j' * 32 + B j' - 96) := by
  refine ⟨if_pos (by omega), ?_⟩
  unfold wrR
  rw [if_pos (by omega)]
  congr 1
  unfold encN
  rw [show j' + 1 - j = (j' - j) + 1 by omega, fo_last, show j + (j' - j) = j' by omega]
  omega
theorem wrR_2 {B : Nat → Nat} {j j' : Nat} (c : ¬ j' - j < 10) : wrR B j (j' + 1) = (-1 : Int64) := by
  unfold wrR
  rw [if_neg (by omega)]
theorem wrR_0 (B : Nat → Nat) (j : Nat) : wrR B j j = j3 0 := by
  unfold wrR encN
  rw [Nat.sub_self, if_pos (by omega), fo_zero]
theorem r_goW {B : Nat → Nat} {n j : Nat} (hT : rTape κ B n) (jn : j ≤ n) (q9 : hk_I κ 69 9 = n3 j) (q10 : hk_I κ 69 10 = n3 j) (q11 : hk_I κ 69 11 = n3 1) (q12 : hk_J κ 12 = j3 0) (hN : 1000 < N) : ∃ κ', nX12_goOn_149 N N 69 (hp κ) = some (hp κ') ∧ same [] [(69, 10)] κ κ' ∧ hk_I κ' 69 10 = n3 (scn (fun i => isL (B i)) n j) ∧ hk_J κ' 12 = wrR B j (scn (fun i => isL (B i)) n j) := by
  obtain ⟨n4, h8, hB⟩ := hT
  have stop : ∀ s, same [] [(69, 10)] κ s → nX12_goOn_243 N N 69 (hp s) = some (hp s) := by
    intro s k1
    obtain ⟨N', hN'⟩ : ∃ N', N = N' + 1 := ⟨N - 1, by omega⟩
    have e : nX12_goOn_243 N N 69 (hp s) = nX12_goOn_243 N (N' + 1) 69 (hp s) := by rw [← hN']
    have r11 : hk_I s 69 11 = n3 1 := by rw [k1.2.2.1 69 11 (by decide)]; exact q11
    rw [e, nX12_goOn_243]
    simp (maxSteps := 400000) (disch := omega) only [n3_l, n3_add, n3_mul, n3_sub, n3_subn, n3_lt, n3_le, n3_eq, n3_eqn, n3_neq, n3_and, n3_or, n3_shl, n3_i, n3_cl, ↓hbd_0, ↓hbd_1, ↓hbd_2, hk_ob_0, hk_rd_0, hk_rd_1, hk_rd_2, hk_al_0, hk_al_1, h3r_0, h3r_1, hk_wi_0, hk_wj_0, h3w_0, h3w_1, h3v_0, hk_kI, hk_kJ, hk_kA, hk_kB, A_eq, A_ne, A_row, B_eq, B_ne, B_row, I_eq, I_ne, J_eq, J_ne, Option.bind_some, Option.some.injEq, if_true, if_false, eq_self, true_or, or_true, true_and, and_true, false_or, or_false, not_true_eq_false, not_false_eq_true, Classical.not_not, nar_b0, nar_b1, rz_0, rz_1, rz_i, ite01, Nat.add_zero, Nat.zero_add, Nat.one_mul, mul12, reduceIte, ra_z0, Nat.reduceEqDiff, Nat.reduceLT, Nat.reduceLeDiff, Nat.reduceAdd, Nat.reduceMul, Nat.reduceSub, Nat.reduceDiv, Nat.reduceMod, Bool.false_eq_true, false_and, and_false, reduceCtorEq, r11, nX12_goOn_335]
  obtain ⟨κ3, e3, j1, j2, j3', j4⟩ := lpw (fun m _ (s : hk_T) => nX12_goOn_149 N m 69 (hp s)) n (fun i => isL (B i)) (fun _ s => some (hp s)) (fun j' s => same [] [(69, 10)] κ s ∧ hk_I s 69 10 = n3 j' ∧ hk_J s 12 = wrR B j j' ∧ j ≤ j') (by
    rintro m j' s hj' hq ⟨k1, k2, k3, k4⟩
    obtain ⟨b1, b2⟩ := hB j' hj'
    have r8 : hk_I s 69 8 = n3 n := by rw [k1.2.2.1 69 8 (by decide)]; exact h8
    have r9 : hk_I s 69 9 = n3 j := by rw [k1.2.2.1 69 9 (by decide)]; exact q9
    have r11 : hk_I s 69 11 = n3 1 := by rw [k1.2.2.1 69 11 (by decide)]; exact q11
    have rb : hk_A s 74 j' = n3 (B j') := by rw [k1.1 74 (by decide)]; exact b1
    by_cases c : j' - j < 10
    · obtain ⟨w1, w2⟩ := wrR_1 k4 c hq
      rw [w1] at k3
      refine ⟨_, r_goW1 N s n4 hj' k4 r8 r9 r11 k2 rb b2 hq c k3, (k1.wJ).wI (by decide), I_eq, ?_, by omega⟩
      rw [w2]
      exact J_eq
    · refine ⟨_, r_goW2 N s n4 hj' k4 r8 r9 r11 k2 rb b2 hq c, (k1.wJ).wI (by decide), I_eq, ?_, by omega⟩
      rw [wrR_2 c]
      exact J_eq) (by
    rintro m j' s hj' hq ⟨k1, k2, k3, k4⟩
    have r8 : hk_I s 69 8 = n3 n := by rw [k1.2.2.1 69 8 (by decide)]; exact h8
    have r11 : hk_I s 69 11 = n3 1 := by rw [k1.2.2.1 69 11 (by decide)]; exact q11
    have sp := stop s k1
    show nX12_goOn_149 N (m + 1) 69 (hp s) = _
    rw [nX12_goOn_149]
    by_cases c : j' < n
    · obtain ⟨b1, b2⟩ := hB j' c
      have rb : hk_A s 74 j' = n3 (B j') := by rw [k1.1 74 (by decide)]; exact b1
      have il := r_isSmall N (h := hp s) b2
      rw [if_neg (fun z => hq ⟨c, z⟩)] at il
      simp (maxSteps := 400000) (disch := omega) only [n3_l, n3_add, n3_mul, n3_sub, n3_subn, n3_lt, n3_le, n3_eq, n3_eqn, n3_neq, n3_and, n3_or, n3_shl, n3_i, n3_cl, ↓hbd_0, ↓hbd_1, ↓hbd_2, hk_ob_0, hk_rd_0, hk_rd_1, hk_rd_2, hk_al_0, hk_al_1, h3r_0, h3r_1, hk_wi_0, hk_wj_0, h3w_0, h3w_1, h3v_0, hk_kI, hk_kJ, hk_kA, hk_kB, A_eq, A_ne, A_row, B_eq, B_ne, B_row, I_eq, I_ne, J_eq, J_ne, Option.bind_some, Option.some.injEq, if_true, if_false, eq_self, true_or, or_true, true_and, and_true, false_or, or_false, not_true_eq_false, not_false_eq_true, Classical.not_not, nar_b0, nar_b1, rz_0, rz_1, rz_i, ite01, Nat.add_zero, Nat.zero_add, Nat.one_mul, mul12, reduceIte, ra_z0, Nat.reduceEqDiff, Nat.reduceLT, Nat.reduceLeDiff, Nat.reduceAdd, Nat.reduceMul, Nat.reduceSub, Nat.reduceDiv, Nat.reduceMod, Bool.false_eq_true, false_and, and_false, reduceCtorEq, r11, k2, r8, c, rb, il, sp]
    · simp (maxSteps := 400000) (disch := omega) only [n3_l, n3_add, n3_mul, n3_sub, n3_subn, n3_lt, n3_le, n3_eq, n3_eqn, n3_neq, n3_and, n3_or, n3_shl, n3_i, n3_cl, ↓hbd_0, ↓hbd_1, ↓hbd_2, hk_ob_0, hk_rd_0, hk_rd_1, hk_rd_2, hk_al_0, hk_al_1, h3r_0, h3r_1, hk_wi_0, hk_wj_0, h3w_0, h3w_1, h3v_0, hk_kI, hk_kJ, hk_kA, hk_kB, A_eq, A_ne, A_row, B_eq, B_ne, B_row, I_eq, I_ne, J_eq, J_ne, Option.bind_some, Option.some.injEq, if_true, if_false, eq_self, true_or, or_true, true_and, and_true, false_or, or_false, not_true_eq_false, not_false_eq_true, Classical.not_not, nar_b0, nar_b1, rz_0, rz_1, rz_i, ite01, Nat.add_zero, Nat.zero_add, Nat.one_mul, mul12, reduceIte, ra_z0, Nat.reduceEqDiff, Nat.reduceLT, Nat.reduceLeDiff, Nat.reduceAdd, Nat.reduceMul, Nat.reduceSub, Nat.reduceDiv, Nat.reduceMod, Bool.false_eq_true, false_and, and_false, reduceCtorEq, r11, k2, r8, c, sp]) (n - j) j N κ (by omega) (by omega) ⟨same.refl _ _ _, q10, by rw [q12, wrR_0], Nat.le_refl _⟩
  exact ⟨κ3, e3, j1, j2, j3'⟩
/-- digits -/
theorem r_goD {B : Nat → Nat} {n j : Nat} (hT : rTape κ B n) (jn : j ≤ n) (q10 : hk_I κ 69 10 = n3 j) (q11 : hk_I κ 69 11 = n3 2) (q12 : hk_J κ 12 = j3 0) (hN : 1000 < N) : ∃ κ', nX12_goOn_149 N N 69 (hp κ) = some (hp κ') ∧ same [] [(69, 10)] κ κ' ∧ hk_I κ' 69 10 = n3 (scn (fun i => isD (B i)) n j) ∧ hk_J κ' 12 = j3 (numR B j (scn (fun i => isD (B i)) n j)) := by
  obtain ⟨n4, h8, hB⟩ := hT
  have st : nX12_goOn_149 N N 69 (hp κ) = nX12_goOn_243 N N 69 (hp κ) := by
    obtain ⟨N', hN'⟩ : ∃ N', N = N' + 1 := ⟨N - 1, by omega⟩
    have e : nX12_goOn_149 N N 69 (hp κ) = nX12_goOn_149 N (N' + 1) 69 (hp κ) := by rw [← hN']
    rw [e, nX12_goOn_149]
    simp (maxSteps := 400000) (disch := omega) only [n3_l, n3_add, n3_mul, n3_sub, n3_subn, n3_lt, n3_le, n3_eq, n3_eqn, n3_neq, n3_and, n3_or, n3_shl, n3_i, n3_cl, ↓hbd_0, ↓hbd_1, ↓hbd_2, hk_ob_0, hk_rd_0, hk_rd_1, hk_rd_2, hk_al_0, hk_al_1, h3r_0, h3r_1, hk_wi_0, hk_wj_0, h3w_0, h3w_1, h3v_0, hk_kI, hk_kJ, hk_kA, hk_kB, A_eq, A_ne, A_row, B_eq, B_ne, B_row, I_eq, I_ne, J_eq, J_ne, Option.bind_some, Option.some.injEq, if_true, if_false, eq_self, true_or, or_true, true_and, and_true, false_or, or_false, not_true_eq_false, not_false_eq_true, Classical.not_not, nar_b0, nar_b1, rz_0, rz_1, rz_i, ite01, Nat.add_zero, Nat.zero_add, Nat.one_mul, mul12, reduceIte, ra_z0, Nat.reduceEqDiff, Nat.reduceLT, Nat.reduceLeDiff, Nat.reduceAdd, Nat.reduceMul, Nat.reduceSub, Nat.reduceDiv, Nat.reduceMod, Bool.false_eq_true, false_and, and_false, reduceCtorEq, q11]
  obtain ⟨κ3, e3, j1, j2, j3', j4, j5⟩ := lpw (fun m _ (s : hk_T) => nX12_goOn_243 N m 69 (hp s)) n (fun i => isD (B i)) (fun _ s => some (hp s)) (fun j' s => same [] [(69, 10)] κ s ∧ hk_I s 69 10 = n3 j' ∧ hk_J s 12 = j3 (numR B j j') ∧ j ≤ j' ∧ ∀ i, j ≤ i → i < j' → isD (B i)) (by
    rintro m j' s hj' hq ⟨k1, k2, k3, k4, k5⟩
    obtain ⟨b1, b2⟩ := hB j' hj'
    have r8 : hk_I s 69 8 = n3 n := by rw [k1.2.2.1 69 8 (by decide)]; exact h8
    have r11 : hk_I s 69 11 = n3 2 := by rw [k1.2.2.1 69 11 (by decide)]; exact q11
    have rb : hk_A s 74 j' = n3 (B j') := by rw [k1.1 74 (by decide)]; exact b1
    have il := r_isDigit N (h := hp s) b2
    rw [if_pos hq] at il
    have nl := numR_le B (fun i h => by omega) j j' k5
    have nn : numR B j (j' + 1) = if 1000000 < numR B j j' then numR B j j' else numR B j j' * 10 + (B j' - 48) := by
      unfold numR
      rw [show j' + 1 - j = (j' - j) + 1 by omega, fo_last, show j + (j' - j) = j' by omega]
    have e6 : (1000000 : Int64) = j3 1000000 := by decide
    have e10 : (10 : Int64) = j3 10 := by decide
    have e48 : (48 : Int64) = j3 48 := by decide
    refine ⟨hk_wI (hk_wJ s 12 (j3 (numR B j (j' + 1)))) 69 10 (n3 (j' + 1)), ?_, (k1.wJ).wI (by decide), I_eq, J_eq, by omega, fun i g1 g2 => ?_⟩
    · show nX12_goOn_243 N (m + 1) 69 (hp s) = _
      rw [nX12_goOn_243, nn]
      by_cases c : 1000000 < numR B j j'
      · have c' : ¬ numR B j j' ≤ 1000000 := by omega
        rw [if_pos c]
        simp (maxSteps := 400000) (disch := omega) only [n3_l, n3_add, n3_mul, n3_sub, n3_subn, n3_lt, n3_le, n3_eq, n3_eqn, n3_neq, n3_and, n3_or, n3_shl, n3_i, n3_cl, j3_l, j3_add, j3_mul, j3_sub, j3_lt, j3_le, j3_eq, j3_n, lg3_le, lg3_lt, lg3_eq, r_in3, ↓hbd_0, ↓hbd_1, ↓hbd_2, hk_ob_0, hk_rd_0, hk_rd_1, hk_rd_2, hk_al_0, hk_al_1, h3r_0, h3r_1, hk_wi_0, hk_wj_0, h3w_0, h3w_1, h3v_0, hk_kI, hk_kJ, hk_kA, hk_kB, A_eq, A_ne, A_row, B_eq, B_ne, B_row, I_eq, I_ne, J_eq, J_ne, Option.bind_some, Option.some.injEq, if_true, if_false, eq_self, true_or, or_true, true_and, and_true, false_or, or_false, not_true_eq_false, not_false_eq_true, Classical.not_not, nar_b0, nar_b1, rz_0, rz_1, rz_i, ite01, Nat.add_zero, Nat.zero_add, Nat.one_mul, mul12, reduceIte, ra_z0, Nat.reduceEqDiff, Nat.reduceLT, Nat.reduceLeDiff, Nat.reduceAdd, Nat.reduceMul, Nat.reduceSub, Nat.reduceDiv, Nat.reduceMod, Bool.false_eq_true, false_and, and_false, reduceCtorEq, r11, k2, r8, hj', rb, il, k3, e6, c', nX12_goOn_319]
      · have c' : numR B j j' ≤ 1000000 := by omega
        rw [if_neg c, show numR B j j' * 10 + (B j' - 48) = numR B j j' * 10 + B j' - 48 by omega]
        simp (maxSteps := 400000) (disch := omega) only [n3_l, n3_add, n3_mul, n3_sub, n3_subn, n3_lt, n3_le, n3_eq, n3_eqn, n3_neq, n3_and, n3_or, n3_shl, n3_i, n3_cl, j3_l, j3_add, j3_mul, j3_sub, j3_lt, j3_le, j3_eq, j3_n, lg3_le, lg3_lt, lg3_eq, r_in3, ↓hbd_0, ↓hbd_1, ↓hbd_2, hk_ob_0, hk_rd_0, hk_rd_1, hk_rd_2, hk_al_0, hk_al_1, h3r_0, h3r_1, hk_wi_0, hk_wj_0, h3w_0, h3w_1, h3v_0, hk_kI, hk_kJ, hk_kA, hk_kB, A_eq, A_ne, A_row, B_eq, B_ne, B_row, I_eq, I_ne, J_eq, J_ne, Option.bind_some, Option.some.injEq, if_true, if_false, eq_self, true_or, or_true, true_and, and_true, false_or, or_false, not_true_eq_false, not_false_eq_true, Classical.not_not, nar_b0, nar_b1, rz_0, rz_1, rz_i, ite01, Nat.add_zero, Nat.zero_add, Nat.one_mul, mul12, reduceIte, ra_z0, Nat.reduceEqDiff, Nat.reduceLT, Nat.reduceLeDiff, Nat.reduceAdd, Nat.reduceMul, Nat.reduceSub, Nat.reduceDiv, Nat.reduceMod, Bool.false_eq_true, false_and, and_false, reduceCtorEq, r11, k2, r8, hj', rb, il, k3, e6, e10, e48, c', nX12_goOn_319]
    · by_cases e : i = j'
      · rw [e]; exact hq
      · exact k5 i g1 (by omega)) (by
    rintro m j' s hj' hq ⟨k1, k2, k3, k4, k5⟩
    have r8 : hk_I s 69 8 = n3 n := by rw [k1.2.2.1 69 8 (by decide)]; exact h8
    have r11 : hk_I s 69 11 = n3 2 := by rw [k1.2.2.1 69 11 (by decide)]; exact q11
    show nX12_goOn_243 N (m + 1) 69 (hp s) = _
    rw [nX12_goOn_243]
    by_cases c : j' < n
    · obtain ⟨b1, b2⟩ := hB j' c
      have rb : hk_A s 74 j' = n3 (B j') := by rw [k1.1 74 (by decide)]; exact b1
      have il := r_isDigit N (h := hp s) b2
      rw [if_neg (fun z => hq ⟨c, z⟩)] at il
      simp (maxSteps := 400000) (disch := omega) only [n3_l, n3_add, n3_mul, n3_sub, n3_subn, n3_lt, n3_le, n3_eq, n3_eqn, n3_neq, n3_and, n3_or, n3_shl, n3_i, n3_cl, ↓hbd_0, ↓hbd_1, ↓hbd_2, hk_ob_0, hk_rd_0, hk_rd_1, hk_rd_2, hk_al_0, hk_al_1, h3r_0, h3r_1, hk_wi_0, hk_wj_0, h3w_0, h3w_1, h3v_0, hk_kI, hk_kJ, hk_kA, hk_kB, A_eq, A_ne, A_row, B_eq, B_ne, B_row, I_eq, I_ne, J_eq, J_ne, Option.bind_some, Option.some.injEq, if_true, if_false, eq_self, true_or, or_true, true_and, and_true, false_or, or_false, not_true_eq_false, not_false_eq_true, Classical.not_not, nar_b0, nar_b1, rz_0, rz_1, rz_i, ite01, Nat.add_zero, Nat.zero_add, Nat.one_mul, mul12, reduceIte, ra_z0, Nat.reduceEqDiff, Nat.reduceLT, Nat.reduceLeDiff, Nat.reduceAdd, Nat.reduceMul, Nat.reduceSub, Nat.reduceDiv, Nat.reduceMod, Bool.false_eq_true, false_and, and_false, reduceCtorEq, r11, k2, r8, c, rb, il, nX12_goOn_335]
    · simp (maxSteps := 400000) (disch := omega) only [n3_l, n3_add, n3_mul, n3_sub, n3_subn, n3_lt, n3_le, n3_eq, n3_eqn, n3_neq, n3_and, n3_or, n3_shl, n3_i, n3_cl, ↓hbd_0, ↓hbd_1, ↓hbd_2, hk_ob_0, hk_rd_0, hk_rd_1, hk_rd_2, hk_al_0, hk_al_1, h3r_0, h3r_1, hk_wi_0, hk_wj_0, h3w_0, h3w_1, h3v_0, hk_kI, hk_kJ, hk_kA, hk_kB, A_eq, A_ne, A_row, B_eq, B_ne, B_row, I_eq, I_ne, J_eq, J_ne, Option.bind_some, Option.some.injEq, if_true, if_false, eq_self, true_or, or_true, true_and, and_true, false_or, or_false, not_true_eq_false, not_false_eq_true, Classical.not_not, nar_b0, nar_b1, rz_0, rz_1, rz_i, ite01, Nat.add_zero, Nat.zero_add, Nat.one_mul, mul12, reduceIte, ra_z0, Nat.reduceEqDiff, Nat.reduceLT, Nat.reduceLeDiff, Nat.reduceAdd, Nat.reduceMul, Nat.reduceSub, Nat.reduceDiv, Nat.reduceMod, Bool.false_eq_true, false_and, and_false, reduceCtorEq, r11, k2, r8, c, nX12_goOn_335]) (n - j) j N κ (by omega) (by omega) ⟨same.refl _ _ _, q10, by rw [q12]; unfold numR; rw [Nat.sub_self]; rfl, Nat.le_refl _, fun i g1 g2 => by omega⟩
  exact ⟨κ3, st.trans e3, j1, j2, j3'⟩
end
