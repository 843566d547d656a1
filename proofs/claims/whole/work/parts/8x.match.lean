/-! match, matched, left on both sides -/
theorem gv_bit {a : Nat → Nat → Int} {L n l : Nat} : ∀ b, (gvS a L n b).testBit l = true ↔ l < L ∧ ∃ b', b' < b ∧ its a L n b' = l := by
  intro b
  induction b with
  | zero =>
    constructor
    · intro h; rw [show gvS a L n 0 = 0 from rfl, Nat.zero_testBit] at h; cases h
    · rintro ⟨-, b', h, -⟩; omega
  | succ b ih =>
    rw [gvS_next]
    by_cases c : its a L n b < L
    · rw [if_pos c, tb_or, Bool.or_eq_true, ih]
      constructor
      · rintro (⟨h1, b', h2, h3⟩ | h)
        · exact ⟨h1, b', by omega, h3⟩
        · have h' := of_decide_eq_true h
          exact ⟨by rw [← h']; exact c, b, by omega, h'⟩
      · rintro ⟨h1, b', h2, h3⟩
        by_cases e : b' = b
        · right; rw [e] at h3; exact decide_eq_true h3
        · left; exact ⟨h1, b', by omega, h3⟩
    · rw [if_neg c, ih]
      constructor
      · rintro ⟨h1, b', h2, h3⟩; exact ⟨h1, b', by omega, h3⟩
      · rintro ⟨h1, b', h2, h3⟩
        refine ⟨h1, b', ?_, h3⟩
        by_cases e : b' = b
        · rw [e] at h3; omega
        · omega
theorem cnt_first (P : Nat → Prop) [DecidablePred P] : ∀ n, cnt P (n + 1) = (if P 0 then 1 else 0) + cnt (fun i => P (i + 1)) n := by
  intro n
  induction n with
  | zero => rw [cnt, cnt, cnt, Nat.zero_add, Nat.add_zero]
  | succ n ih =>
    have h1 : cnt P (n + 2) = cnt P (n + 1) + if P (n + 1) then 1 else 0 := rfl
    have h2 : cnt (fun i => P (i + 1)) (n + 1) = cnt (fun i => P (i + 1)) n + if P (n + 1) then 1 else 0 := rfl
    rw [h1, h2, ih]
    omega
theorem cnt_bits : ∀ w x, cnt (fun l => x.testBit l = true) w = pcw w x := by
  intro w
  induction w with
  | zero => intro x; rfl
  | succ w ih =>
    intro x
    rw [cnt_first, pcw, ← ih (x / 2)]
    have e : (if x.testBit 0 = true then 1 else 0) = x % 2 := by
      rw [Nat.testBit_zero]
      by_cases c : x % 2 = 1
      · rw [if_pos (by rw [decide_eq_true_iff]; exact c)]; omega
      · rw [if_neg (by rw [decide_eq_true_iff]; exact c)]; omega
    rw [e, Nat.add_comm]
    congr 1
    congr 1
    funext l
    rw [Nat.testBit_succ]
section
variable (N : Nat) (κ : hk_T)
theorem r_bookOf {a : Nat → Nat → Int} {nB L l : Nat} (h480 : hk_A κ 71 480 = n3 nB) (h40 : nB ≤ 40) (hL : L ≤ 12) (h95 : ∀ b, b < nB → hk_A κ 95 b = n3 (its a L nB b)) (hl : l < L) (hN : 1000 < N) : ∃ v, fX12_bookOf N 69 (n3 l) (hp κ) = some (v, hp κ) ∧ (v = -n3 1 ↔ ¬ (gvS a L nB nB).testBit l = true) := by
  obtain ⟨m', v, e, i1⟩ := lpx (fun m b (v : Int32) => nX12_bookOf_4 N m 69 (n3 l) v (n3 b) (hp κ)) nB (fun b v => v = -n3 1 ↔ ¬ ∃ b', b' < b ∧ its a L nB b' = l) (by
    rintro m b v hb i1
    have h1 := h95 b hb
    have h2 := (its_is a L nB b).1
    by_cases c : its a L nB b = l
    · refine ⟨n3 b, ?_, ?_⟩
      · rw [nX12_bookOf_4]
        simp (maxSteps := 400000) (disch := omega) only [n3_l, n3_add, n3_mul, n3_sub, n3_subn, n3_lt, n3_le, n3_eq, n3_eqn, n3_neq, n3_and, n3_or, n3_shl, n3_i, n3_cl, ↓hbd_0, ↓hbd_1, ↓hbd_2, hk_ob_0, hk_rd_0, hk_rd_1, hk_rd_2, hk_al_0, hk_al_1, h3r_0, h3r_1, hk_wi_0, hk_wj_0, h3w_0, h3w_1, h3v_0, hk_kI, hk_kJ, hk_kA, hk_kB, A_eq, A_ne, A_row, B_eq, B_ne, B_row, I_eq, I_ne, J_eq, J_ne, Option.bind_some, Option.some.injEq, if_true, if_false, eq_self, true_or, or_true, true_and, and_true, false_or, or_false, not_true_eq_false, not_false_eq_true, Classical.not_not, nar_b0, nar_b1, rz_0, rz_1, rz_i, ite01, Nat.add_zero, Nat.zero_add, Nat.one_mul, mul12, reduceIte, ra_z0, Nat.reduceEqDiff, Nat.reduceLT, Nat.reduceLeDiff, Nat.reduceAdd, Nat.reduceMul, Nat.reduceSub, Nat.reduceDiv, Nat.reduceMod, Bool.false_eq_true, false_and, and_false, reduceCtorEq, h480, hb, h1, c, nX12_bookOf_31]
      · constructor
        · intro z
          have : n3 b = -n3 1 ↔ False := n3_eqn (by omega) (by omega) (by omega)
          exact absurd z (fun z => this.mp z)
        · intro z; exact absurd ⟨b, by omega, c⟩ z
    · refine ⟨v, ?_, ?_⟩
      · rw [nX12_bookOf_4]
        simp (maxSteps := 400000) (disch := omega) only [n3_l, n3_add, n3_mul, n3_sub, n3_subn, n3_lt, n3_le, n3_eq, n3_eqn, n3_neq, n3_and, n3_or, n3_shl, n3_i, n3_cl, ↓hbd_0, ↓hbd_1, ↓hbd_2, hk_ob_0, hk_rd_0, hk_rd_1, hk_rd_2, hk_al_0, hk_al_1, h3r_0, h3r_1, hk_wi_0, hk_wj_0, h3w_0, h3w_1, h3v_0, hk_kI, hk_kJ, hk_kA, hk_kB, A_eq, A_ne, A_row, B_eq, B_ne, B_row, I_eq, I_ne, J_eq, J_ne, Option.bind_some, Option.some.injEq, if_true, if_false, eq_self, true_or, or_true, true_and, and_true, false_or, or_false, not_true_eq_false, not_false_eq_true, Classical.not_not, nar_b0, nar_b1, rz_0, rz_1, rz_i, ite01, Nat.add_zero, Nat.zero_add, Nat.one_mul, mul12, reduceIte, ra_z0, Nat.reduceEqDiff, Nat.reduceLT, Nat.reduceLeDiff, Nat.reduceAdd, Nat.reduceMul, Nat.reduceSub, Nat.reduceDiv, Nat.reduceMod, Bool.false_eq_true, false_and, and_false, reduceCtorEq, h480, hb, h1, c, nX12_bookOf_31]
      · rw [i1]
        constructor
        · rintro z ⟨b', h3, h4⟩
          by_cases e : b' = b
          · rw [e] at h4; exact c h4
          · exact z ⟨b', by omega, h4⟩
        · rintro z ⟨b', h3, h4⟩; exact z ⟨b', by omega, h4⟩) nB 0 N (-n3 1) (by omega) (by omega) ⟨fun _ ⟨b', h, _⟩ => by omega, fun _ => rfl⟩
  refine ⟨v, ?_, ?_⟩
  · have e0 : nX12_bookOf_4 N N 69 (n3 l) (-n3 1) (n3 0) (hp κ) = nX12_bookOf_4 N (m' + 1) 69 (n3 l) v (n3 nB) (hp κ) := e
    unfold fX12_bookOf nX12_bookOf_0
    simp (maxSteps := 400000) (disch := omega) only [n3_l, n3_add, n3_mul, n3_sub, n3_subn, n3_lt, n3_le, n3_eq, n3_eqn, n3_neq, n3_and, n3_or, n3_shl, n3_i, n3_cl, ↓hbd_0, ↓hbd_1, ↓hbd_2, hk_ob_0, hk_rd_0, hk_rd_1, hk_rd_2, hk_al_0, hk_al_1, h3r_0, h3r_1, hk_wi_0, hk_wj_0, h3w_0, h3w_1, h3v_0, hk_kI, hk_kJ, hk_kA, hk_kB, A_eq, A_ne, A_row, B_eq, B_ne, B_row, I_eq, I_ne, J_eq, J_ne, Option.bind_some, Option.some.injEq, if_true, if_false, eq_self, true_or, or_true, true_and, and_true, false_or, or_false, not_true_eq_false, not_false_eq_true, Classical.not_not, nar_b0, nar_b1, rz_0, rz_1, rz_i, ite01, Nat.add_zero, Nat.zero_add, Nat.one_mul, mul12, reduceIte, ra_z0, Nat.reduceEqDiff, Nat.reduceLT, Nat.reduceLeDiff, Nat.reduceAdd, Nat.reduceMul, Nat.reduceSub, Nat.reduceDiv, Nat.reduceMod, Bool.false_eq_true, false_and, and_false, reduceCtorEq]
    rw [e0, nX12_bookOf_4]
    simp (maxSteps := 400000) (disch := omega) only [n3_l, n3_add, n3_mul, n3_sub, n3_subn, n3_lt, n3_le, n3_eq, n3_eqn, n3_neq, n3_and, n3_or, n3_shl, n3_i, n3_cl, ↓hbd_0, ↓hbd_1, ↓hbd_2, hk_ob_0, hk_rd_0, hk_rd_1, hk_rd_2, hk_al_0, hk_al_1, h3r_0, h3r_1, hk_wi_0, hk_wj_0, h3w_0, h3w_1, h3v_0, hk_kI, hk_kJ, hk_kA, hk_kB, A_eq, A_ne, A_row, B_eq, B_ne, B_row, I_eq, I_ne, J_eq, J_ne, Option.bind_some, Option.some.injEq, if_true, if_false, eq_self, true_or, or_true, true_and, and_true, false_or, or_false, not_true_eq_false, not_false_eq_true, Classical.not_not, nar_b0, nar_b1, rz_0, rz_1, rz_i, ite01, Nat.add_zero, Nat.zero_add, Nat.one_mul, mul12, reduceIte, ra_z0, Nat.reduceEqDiff, Nat.reduceLT, Nat.reduceLeDiff, Nat.reduceAdd, Nat.reduceMul, Nat.reduceSub, Nat.reduceDiv, Nat.reduceMod, Bool.false_eq_true, false_and, and_false, reduceCtorEq, h480, Nat.lt_irrefl]
  · rw [i1, gv_bit]
    exact ⟨fun z y => z y.2, fun z y => z ⟨hl, y⟩⟩
theorem r_matchedLines {a : Nat → Nat → Int} {nB L : Nat} (h480 : hk_A κ 71 480 = n3 nB) (h482 : hk_A κ 71 482 = n3 L) (h40 : nB ≤ 40) (hL : L ≤ 12) (h95 : ∀ b, b < nB → hk_A κ 95 b = n3 (its a L nB b)) (hN : 1000 < N) : fX12_matchedLines N 69 (hp κ) = some (n3 (pcw 13 (gvS a L nB nB)), hp κ) := by
  have e : pcw 13 (gvS a L nB nB) = cnt (fun l => (gvS a L nB nB).testBit l = true) L := by
    rw [cnt_bits, show 13 = L + (13 - L) by omega, pcw_more L (13 - L) _ (gv_lt nB)]
  rw [e, ← cnt_n3]
  unfold fX12_matchedLines nX12_matchedLines_0
  simp (maxSteps := 400000) (disch := omega) only [n3_l, n3_add, n3_mul, n3_sub, n3_subn, n3_lt, n3_le, n3_eq, n3_eqn, n3_neq, n3_and, n3_or, n3_shl, n3_i, n3_cl, ↓hbd_0, ↓hbd_1, ↓hbd_2, hk_ob_0, hk_rd_0, hk_rd_1, hk_rd_2, hk_al_0, hk_al_1, h3r_0, h3r_1, hk_wi_0, hk_wj_0, h3w_0, h3w_1, h3v_0, hk_kI, hk_kJ, hk_kA, hk_kB, A_eq, A_ne, A_row, B_eq, B_ne, B_row, I_eq, I_ne, J_eq, J_ne, Option.bind_some, Option.some.injEq, if_true, if_false, eq_self, true_or, or_true, true_and, and_true, false_or, or_false, not_true_eq_false, not_false_eq_true, Classical.not_not, nar_b0, nar_b1, rz_0, rz_1, rz_i, ite01, Nat.add_zero, Nat.zero_add, Nat.one_mul, mul12, reduceIte, ra_z0, Nat.reduceEqDiff, Nat.reduceLT, Nat.reduceLeDiff, Nat.reduceAdd, Nat.reduceMul, Nat.reduceSub, Nat.reduceDiv, Nat.reduceMod, Bool.false_eq_true, false_and, and_false, reduceCtorEq]
  refine lp0 (fun m i s => nX12_matchedLines_4 N m 69 s (n3 i) (hp κ)) L _ (fun s => some (s, hp κ)) ?_ ?_ (by omega) _
  · intro m l s hl
    obtain ⟨v, e1, e2⟩ := r_bookOf N κ h480 h40 hL h95 hl hN
    rw [nX12_matchedLines_4]
    by_cases c : (gvS a L nB nB).testBit l = true
    · have c2 : ¬ v = -n3 1 := fun z => e2.mp z c
      simp (maxSteps := 400000) (disch := omega) only [n3_l, n3_add, n3_mul, n3_sub, n3_subn, n3_lt, n3_le, n3_eq, n3_eqn, n3_neq, n3_and, n3_or, n3_shl, n3_i, n3_cl, ↓hbd_0, ↓hbd_1, ↓hbd_2, hk_ob_0, hk_rd_0, hk_rd_1, hk_rd_2, hk_al_0, hk_al_1, h3r_0, h3r_1, hk_wi_0, hk_wj_0, h3w_0, h3w_1, h3v_0, hk_kI, hk_kJ, hk_kA, hk_kB, A_eq, A_ne, A_row, B_eq, B_ne, B_row, I_eq, I_ne, J_eq, J_ne, Option.bind_some, Option.some.injEq, if_true, if_false, eq_self, true_or, or_true, true_and, and_true, false_or, or_false, not_true_eq_false, not_false_eq_true, Classical.not_not, nar_b0, nar_b1, rz_0, rz_1, rz_i, ite01, Nat.add_zero, Nat.zero_add, Nat.one_mul, mul12, reduceIte, ra_z0, Nat.reduceEqDiff, Nat.reduceLT, Nat.reduceLeDiff, Nat.reduceAdd, Nat.reduceMul, Nat.reduceSub, Nat.reduceDiv, Nat.reduceMod, Bool.false_eq_true, false_and, and_false, reduceCtorEq, h482, hl, e1, c2, c, nX12_matchedLines_31]
    · have c2 : v = -n3 1 := e2.mpr c
      have z0 : s + n3 0 = s := Int32.add_zero s
      simp (maxSteps := 400000) (disch := omega) only [n3_l, n3_add, n3_mul, n3_sub, n3_subn, n3_lt, n3_le, n3_eq, n3_eqn, n3_neq, n3_and, n3_or, n3_shl, n3_i, n3_cl, ↓hbd_0, ↓hbd_1, ↓hbd_2, hk_ob_0, hk_rd_0, hk_rd_1, hk_rd_2, hk_al_0, hk_al_1, h3r_0, h3r_1, hk_wi_0, hk_wj_0, h3w_0, h3w_1, h3v_0, hk_kI, hk_kJ, hk_kA, hk_kB, A_eq, A_ne, A_row, B_eq, B_ne, B_row, I_eq, I_ne, J_eq, J_ne, Option.bind_some, Option.some.injEq, if_true, if_false, eq_self, true_or, or_true, true_and, and_true, false_or, or_false, not_true_eq_false, not_false_eq_true, Classical.not_not, nar_b0, nar_b1, rz_0, rz_1, rz_i, ite01, Nat.add_zero, Nat.zero_add, Nat.one_mul, mul12, reduceIte, ra_z0, Nat.reduceEqDiff, Nat.reduceLT, Nat.reduceLeDiff, Nat.reduceAdd, Nat.reduceMul, Nat.reduceSub, Nat.reduceDiv, Nat.reduceMod, Bool.false_eq_true, false_and, and_false, reduceCtorEq, h482, hl, e1, c2, c, nX12_matchedLines_31, z0]
  · intro m s
    rw [nX12_matchedLines_4]
    simp (maxSteps := 400000) (disch := omega) only [n3_l, n3_add, n3_mul, n3_sub, n3_subn, n3_lt, n3_le, n3_eq, n3_eqn, n3_neq, n3_and, n3_or, n3_shl, n3_i, n3_cl, ↓hbd_0, ↓hbd_1, ↓hbd_2, hk_ob_0, hk_rd_0, hk_rd_1, hk_rd_2, hk_al_0, hk_al_1, h3r_0, h3r_1, hk_wi_0, hk_wj_0, h3w_0, h3w_1, h3v_0, hk_kI, hk_kJ, hk_kA, hk_kB, A_eq, A_ne, A_row, B_eq, B_ne, B_row, I_eq, I_ne, J_eq, J_ne, Option.bind_some, Option.some.injEq, if_true, if_false, eq_self, true_or, or_true, true_and, and_true, false_or, or_false, not_true_eq_false, not_false_eq_true, Classical.not_not, nar_b0, nar_b1, rz_0, rz_1, rz_i, ite01, Nat.add_zero, Nat.zero_add, Nat.one_mul, mul12, reduceIte, ra_z0, Nat.reduceEqDiff, Nat.reduceLT, Nat.reduceLeDiff, Nat.reduceAdd, Nat.reduceMul, Nat.reduceSub, Nat.reduceDiv, Nat.reduceMod, Bool.false_eq_true, false_and, and_false, reduceCtorEq, h482, Nat.lt_irrefl]
end
/-- match's answer -/
def maV (a : Nat → Nat → Int) (nB L w : Nat) : Int32 := if w = 0 then z3 (mS a L nB nB 0) else if w = 1 then n3 (mW a L nB nB 0) else n3 (pcw 13 (gvS a L nB nB))
section
variable (N : Nat) (κ : hk_T)
theorem gv_8192 {a : Nat → Nat → Int} {nB L : Nat} (hL : L ≤ 12) : gvS a L nB nB < 8192 := Nat.lt_of_lt_of_le (gv_lt nB) (Nat.le_trans (q12 hL) (by decide))
theorem c_match {a : Nat → Nat → Int} {nB L w : Nat} {κ1 : hk_T} (hw : fX3_weighAll N 40 (hp κ) = some (hp κ1)) (ho : mOut κ1 a nB L) (hL : L ≤ 12) (h : w ≤ 2) : fX11_match N 0 (n3 w) (hp κ) = some (maV a nB L w, hp κ1) := by
  obtain ⟨o1, o2, o3, o4, o5⟩ := ho
  have bc := f_bitCount N (hp κ1) (gv_8192 (a := a) (nB := nB) hL)
  have c0 : ¬ w < 0 := by omega
  unfold maV
  by_cases c : w = 0
  · rw [if_pos c]
    subst c
    simp (maxSteps := 400000) (disch := omega) only [n3_l, n3_add, n3_mul, n3_sub, n3_subn, n3_lt, n3_le, n3_eq, n3_eqn, n3_neq, n3_and, n3_or, n3_shl, n3_i, n3_cl, ↓hbd_0, ↓hbd_1, ↓hbd_2, hk_ob_0, hk_rd_0, hk_rd_1, hk_rd_2, hk_al_0, hk_al_1, h3r_0, h3r_1, hk_wi_0, hk_wj_0, h3w_0, h3w_1, h3v_0, hk_kI, hk_kJ, hk_kA, hk_kB, A_eq, A_ne, A_row, B_eq, B_ne, B_row, I_eq, I_ne, J_eq, J_ne, Option.bind_some, Option.some.injEq, if_true, if_false, eq_self, true_or, or_true, true_and, and_true, false_or, or_false, not_true_eq_false, not_false_eq_true, Classical.not_not, nar_b0, nar_b1, rz_0, rz_1, rz_i, ite01, Nat.add_zero, Nat.zero_add, Nat.one_mul, mul12, reduceIte, ra_z0, Nat.reduceEqDiff, Nat.reduceLT, Nat.reduceLeDiff, Nat.reduceAdd, Nat.reduceMul, Nat.reduceSub, Nat.reduceDiv, Nat.reduceMod, Bool.false_eq_true, false_and, and_false, reduceCtorEq, fX11_match, nX11_match_9, nX11_match_55, nX11_match_0, hw, o1]
  · rw [if_neg c]
    by_cases c1 : w = 1
    · rw [if_pos c1]
      subst c1
      simp (maxSteps := 400000) (disch := omega) only [n3_l, n3_add, n3_mul, n3_sub, n3_subn, n3_lt, n3_le, n3_eq, n3_eqn, n3_neq, n3_and, n3_or, n3_shl, n3_i, n3_cl, ↓hbd_0, ↓hbd_1, ↓hbd_2, hk_ob_0, hk_rd_0, hk_rd_1, hk_rd_2, hk_al_0, hk_al_1, h3r_0, h3r_1, hk_wi_0, hk_wj_0, h3w_0, h3w_1, h3v_0, hk_kI, hk_kJ, hk_kA, hk_kB, A_eq, A_ne, A_row, B_eq, B_ne, B_row, I_eq, I_ne, J_eq, J_ne, Option.bind_some, Option.some.injEq, if_true, if_false, eq_self, true_or, or_true, true_and, and_true, false_or, or_false, not_true_eq_false, not_false_eq_true, Classical.not_not, nar_b0, nar_b1, rz_0, rz_1, rz_i, ite01, Nat.add_zero, Nat.zero_add, Nat.one_mul, mul12, reduceIte, ra_z0, Nat.reduceEqDiff, Nat.reduceLT, Nat.reduceLeDiff, Nat.reduceAdd, Nat.reduceMul, Nat.reduceSub, Nat.reduceDiv, Nat.reduceMod, Bool.false_eq_true, false_and, and_false, reduceCtorEq, fX11_match, nX11_match_9, nX11_match_55, nX11_match_0, hw, o2]
    · rw [if_neg c1]
      simp (maxSteps := 400000) (disch := omega) only [n3_l, n3_add, n3_mul, n3_sub, n3_subn, n3_lt, n3_le, n3_eq, n3_eqn, n3_neq, n3_and, n3_or, n3_shl, n3_i, n3_cl, ↓hbd_0, ↓hbd_1, ↓hbd_2, hk_ob_0, hk_rd_0, hk_rd_1, hk_rd_2, hk_al_0, hk_al_1, h3r_0, h3r_1, hk_wi_0, hk_wj_0, h3w_0, h3w_1, h3v_0, hk_kI, hk_kJ, hk_kA, hk_kB, A_eq, A_ne, A_row, B_eq, B_ne, B_row, I_eq, I_ne, J_eq, J_ne, Option.bind_some, Option.some.injEq, if_true, if_false, eq_self, true_or, or_true, true_and, and_true, false_or, or_false, not_true_eq_false, not_false_eq_true, Classical.not_not, nar_b0, nar_b1, rz_0, rz_1, rz_i, ite01, Nat.add_zero, Nat.zero_add, Nat.one_mul, mul12, reduceIte, ra_z0, Nat.reduceEqDiff, Nat.reduceLT, Nat.reduceLeDiff, Nat.reduceAdd, Nat.reduceMul, Nat.reduceSub, Nat.reduceDiv, Nat.reduceMod, Bool.false_eq_true, false_and, and_false, reduceCtorEq, fX11_match, nX11_match_9, nX11_match_55, nX11_match_0, hw, o3, bc, c, c1, c0, h]
theorem c_match_x {x : Int32} (h : ¬ vIn 0 2 x = true) : fX11_match N 0 x (hp κ) = some (-n3 1, hp κ) := by
  rw [vIn_iff] at h
  by_cases c : x < n3 0
  · simp (maxSteps := 400000) (disch := omega) only [n3_l, n3_add, n3_mul, n3_sub, n3_subn, n3_lt, n3_le, n3_eq, n3_eqn, n3_neq, n3_and, n3_or, n3_shl, n3_i, n3_cl, ↓hbd_0, ↓hbd_1, ↓hbd_2, hk_ob_0, hk_rd_0, hk_rd_1, hk_rd_2, hk_al_0, hk_al_1, h3r_0, h3r_1, hk_wi_0, hk_wj_0, h3w_0, h3w_1, h3v_0, hk_kI, hk_kJ, hk_kA, hk_kB, A_eq, A_ne, A_row, B_eq, B_ne, B_row, I_eq, I_ne, J_eq, J_ne, Option.bind_some, Option.some.injEq, if_true, if_false, eq_self, true_or, or_true, true_and, and_true, false_or, or_false, not_true_eq_false, not_false_eq_true, Classical.not_not, nar_b0, nar_b1, rz_0, rz_1, rz_i, ite01, Nat.add_zero, Nat.zero_add, Nat.one_mul, mul12, reduceIte, ra_z0, Nat.reduceEqDiff, Nat.reduceLT, Nat.reduceLeDiff, Nat.reduceAdd, Nat.reduceMul, Nat.reduceSub, Nat.reduceDiv, Nat.reduceMod, Bool.false_eq_true, false_and, and_false, reduceCtorEq, fX11_match, nX11_match_9, nX11_match_55, nX11_match_0, c]
  · have c2 : ¬ x ≤ n3 2 := by
      rw [i_lt, n3_toInt (by omega)] at c
      rw [i_le, n3_toInt (by omega)]
      omega
    simp (maxSteps := 400000) (disch := omega) only [n3_l, n3_add, n3_mul, n3_sub, n3_subn, n3_lt, n3_le, n3_eq, n3_eqn, n3_neq, n3_and, n3_or, n3_shl, n3_i, n3_cl, ↓hbd_0, ↓hbd_1, ↓hbd_2, hk_ob_0, hk_rd_0, hk_rd_1, hk_rd_2, hk_al_0, hk_al_1, h3r_0, h3r_1, hk_wi_0, hk_wj_0, h3w_0, h3w_1, h3v_0, hk_kI, hk_kJ, hk_kA, hk_kB, A_eq, A_ne, A_row, B_eq, B_ne, B_row, I_eq, I_ne, J_eq, J_ne, Option.bind_some, Option.some.injEq, if_true, if_false, eq_self, true_or, or_true, true_and, and_true, false_or, or_false, not_true_eq_false, not_false_eq_true, Classical.not_not, nar_b0, nar_b1, rz_0, rz_1, rz_i, ite01, Nat.add_zero, Nat.zero_add, Nat.one_mul, mul12, reduceIte, ra_z0, Nat.reduceEqDiff, Nat.reduceLT, Nat.reduceLeDiff, Nat.reduceAdd, Nat.reduceMul, Nat.reduceSub, Nat.reduceDiv, Nat.reduceMod, Bool.false_eq_true, false_and, and_false, reduceCtorEq, fX11_match, nX11_match_9, nX11_match_55, nX11_match_0, c, c2]
theorem r_match {nB L w : Nat} (ok : raOk (hk_A κ 71) nB L) (h : w ≤ 2) (hN : 10000 < N) : ∃ κ', fX12_match N 69 (n3 w) (hp κ) = some (maV (agR (hk_A κ 71)) nB L w, hp κ') ∧ same [90, 91, 92, 93, 94, 95, 96] [(69, 0)] κ κ' := by
  obtain ⟨κ', e, s, t1, t2, t3⟩ := r_matchAll N (hk_wI κ 69 0 (n3 0)) (nB := nB) (L := L) ok hN
  have e71 : hk_A κ' 71 = hk_A κ 71 := s.1 71 (by decide)
  have ss : same [90, 91, 92, 93, 94, 95, 96] [(69, 0)] κ κ' := ((same.refl _ _ _).wI (by decide)).trans (s.weak (by decide) (by decide))
  obtain ⟨o1, o2, o3, o4, -⟩ := ok
  have ml := r_matchedLines N κ' (by rw [e71]; exact o1) (by rw [e71]; exact o2) o3 o4 (fun b hb => (t3 b hb).2) (by omega)
  have hv : vIn 0 2 (n3 w) = true := vIn_n3 (lo := 0) (hi := 2) (by omega) h (by omega)
  refine ⟨κ', ?_, ss⟩
  unfold maV
  unfold fX12_match nX12_match_0
  by_cases c : w = 0
  · rw [if_pos c]
    subst c
    simp (maxSteps := 400000) (disch := omega) only [n3_l, n3_add, n3_mul, n3_sub, n3_subn, n3_lt, n3_le, n3_eq, n3_eqn, n3_neq, n3_and, n3_or, n3_shl, n3_i, n3_cl, ↓hbd_0, ↓hbd_1, ↓hbd_2, hk_ob_0, hk_rd_0, hk_rd_1, hk_rd_2, hk_al_0, hk_al_1, h3r_0, h3r_1, hk_wi_0, hk_wj_0, h3w_0, h3w_1, h3v_0, hk_kI, hk_kJ, hk_kA, hk_kB, A_eq, A_ne, A_row, B_eq, B_ne, B_row, I_eq, I_ne, J_eq, J_ne, Option.bind_some, Option.some.injEq, if_true, if_false, eq_self, true_or, or_true, true_and, and_true, false_or, or_false, not_true_eq_false, not_false_eq_true, Classical.not_not, nar_b0, nar_b1, rz_0, rz_1, rz_i, ite01, Nat.add_zero, Nat.zero_add, Nat.one_mul, mul12, reduceIte, ra_z0, Nat.reduceEqDiff, Nat.reduceLT, Nat.reduceLeDiff, Nat.reduceAdd, Nat.reduceMul, Nat.reduceSub, Nat.reduceDiv, Nat.reduceMod, Bool.false_eq_true, false_and, and_false, reduceCtorEq, r_in32, j_l, hv, e, t1, nX12_match_53]
  · rw [if_neg c]
    by_cases c1 : w = 1
    · rw [if_pos c1]
      subst c1
      simp (maxSteps := 400000) (disch := omega) only [n3_l, n3_add, n3_mul, n3_sub, n3_subn, n3_lt, n3_le, n3_eq, n3_eqn, n3_neq, n3_and, n3_or, n3_shl, n3_i, n3_cl, ↓hbd_0, ↓hbd_1, ↓hbd_2, hk_ob_0, hk_rd_0, hk_rd_1, hk_rd_2, hk_al_0, hk_al_1, h3r_0, h3r_1, hk_wi_0, hk_wj_0, h3w_0, h3w_1, h3v_0, hk_kI, hk_kJ, hk_kA, hk_kB, A_eq, A_ne, A_row, B_eq, B_ne, B_row, I_eq, I_ne, J_eq, J_ne, Option.bind_some, Option.some.injEq, if_true, if_false, eq_self, true_or, or_true, true_and, and_true, false_or, or_false, not_true_eq_false, not_false_eq_true, Classical.not_not, nar_b0, nar_b1, rz_0, rz_1, rz_i, ite01, Nat.add_zero, Nat.zero_add, Nat.one_mul, mul12, reduceIte, ra_z0, Nat.reduceEqDiff, Nat.reduceLT, Nat.reduceLeDiff, Nat.reduceAdd, Nat.reduceMul, Nat.reduceSub, Nat.reduceDiv, Nat.reduceMod, Bool.false_eq_true, false_and, and_false, reduceCtorEq, r_in32, j_l, hv, e, t2, j3_32, nX12_match_53]
    · rw [if_neg c1]
      simp (maxSteps := 400000) (disch := omega) only [n3_l, n3_add, n3_mul, n3_sub, n3_subn, n3_lt, n3_le, n3_eq, n3_eqn, n3_neq, n3_and, n3_or, n3_shl, n3_i, n3_cl, ↓hbd_0, ↓hbd_1, ↓hbd_2, hk_ob_0, hk_rd_0, hk_rd_1, hk_rd_2, hk_al_0, hk_al_1, h3r_0, h3r_1, hk_wi_0, hk_wj_0, h3w_0, h3w_1, h3v_0, hk_kI, hk_kJ, hk_kA, hk_kB, A_eq, A_ne, A_row, B_eq, B_ne, B_row, I_eq, I_ne, J_eq, J_ne, Option.bind_some, Option.some.injEq, if_true, if_false, eq_self, true_or, or_true, true_and, and_true, false_or, or_false, not_true_eq_false, not_false_eq_true, Classical.not_not, nar_b0, nar_b1, rz_0, rz_1, rz_i, ite01, Nat.add_zero, Nat.zero_add, Nat.one_mul, mul12, reduceIte, ra_z0, Nat.reduceEqDiff, Nat.reduceLT, Nat.reduceLeDiff, Nat.reduceAdd, Nat.reduceMul, Nat.reduceSub, Nat.reduceDiv, Nat.reduceMod, Bool.false_eq_true, false_and, and_false, reduceCtorEq, r_in32, j_l, hv, e, ml, c, c1, nX12_match_53]
theorem r_match_x {x : Int32} (h : ¬ vIn 0 2 x = true) : fX12_match N 69 x (hp κ) = some (-n3 1, hp (hk_wI κ 69 0 (n3 0))) := by
  unfold fX12_match nX12_match_0
  simp (maxSteps := 400000) (disch := omega) only [n3_l, n3_add, n3_mul, n3_sub, n3_subn, n3_lt, n3_le, n3_eq, n3_eqn, n3_neq, n3_and, n3_or, n3_shl, n3_i, n3_cl, ↓hbd_0, ↓hbd_1, ↓hbd_2, hk_ob_0, hk_rd_0, hk_rd_1, hk_rd_2, hk_al_0, hk_al_1, h3r_0, h3r_1, hk_wi_0, hk_wj_0, h3w_0, h3w_1, h3v_0, hk_kI, hk_kJ, hk_kA, hk_kB, A_eq, A_ne, A_row, B_eq, B_ne, B_row, I_eq, I_ne, J_eq, J_ne, Option.bind_some, Option.some.injEq, if_true, if_false, eq_self, true_or, or_true, true_and, and_true, false_or, or_false, not_true_eq_false, not_false_eq_true, Classical.not_not, nar_b0, nar_b1, rz_0, rz_1, rz_i, ite01, Nat.add_zero, Nat.zero_add, Nat.one_mul, mul12, reduceIte, ra_z0, Nat.reduceEqDiff, Nat.reduceLT, Nat.reduceLeDiff, Nat.reduceAdd, Nat.reduceMul, Nat.reduceSub, Nat.reduceDiv, Nat.reduceMod, Bool.false_eq_true, false_and, and_false, reduceCtorEq, r_in32, j_l, h]
end
