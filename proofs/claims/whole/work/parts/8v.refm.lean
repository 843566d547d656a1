/-! the reference's matches: matchAll -/
theorem z3_le {x y : Int} (h : -100000000 ≤ x) (h' : x ≤ 100000000) (g : -100000000 ≤ y) (g' : y ≤ 100000000) : z3 x ≤ z3 y ↔ x ≤ y := by
  rw [i_le, z3_toInt h h', z3_toInt g g']
abbrev canX (L s l : Nat) : Prop := l = L ∨ ¬ s.testBit l = true
def wiX (a : Nat → Nat → Int) (L n b s l : Nat) : Int := if l = L then mS a L n (n - (b + 1)) s else a l b + mS a L n (n - (b + 1)) (s ||| 2 ^ l)
abbrev opX (a : Nat → Nat → Int) (L n b s l : Nat) : Prop := canX L s l ∧ wiX a L n b s l = mS a L n (n - b) s
def aft (L s l : Nat) : Nat := if l = L then s else s ||| 2 ^ l
/-- what the reference needs of its row -/
def raOk (R : Nat → Int32) (nB L : Nat) : Prop := R 480 = n3 nB ∧ R 482 = n3 L ∧ nB ≤ 40 ∧ L ≤ 12 ∧ (∀ l, l < L → ∃ p, p < 1000 ∧ R (650 + 6 * l + 2) = n3 p) ∧ ∀ b, b < nB → ∃ p, p < 1000 ∧ R (12 * b + 3) = n3 p
def agR (R : Nat → Int32) (l b : Nat) : Int := (sp_agree R (rG R) l b).toInt
theorem agR_rg (R : Nat → Int32) (l b : Nat) : -6 ≤ agR R l b ∧ agR R l b ≤ 17 := sp_rg R (rG R) l b
theorem mS_bd (R : Nat → Int32) {L n k : Nat} (s : Nat) (hk : k ≤ 41) : 0 ≤ mS (agR R) L n k s ∧ mS (agR R) L n k s ≤ 90000 := by
  have h1 := mS_nonneg (agR R) L n k s
  have h2 := mS_hi (a := agR R) (L := L) (n := n) (fun l b => by have := agR_rg R l b; omega) k s
  omega
theorem wiX_bd (R : Nat → Int32) {L n : Nat} (b s l : Nat) (hn : n ≤ 40) : -100 ≤ wiX (agR R) L n b s l ∧ wiX (agR R) L n b s l ≤ 100000 := by
  unfold wiX
  have h1 := mS_bd R (L := L) (n := n) (k := n - (b + 1)) s (by omega)
  have h2 := mS_bd R (L := L) (n := n) (k := n - (b + 1)) (s ||| 2 ^ l) (by omega)
  have h3 := agR_rg R l b
  split <;> omega
section
variable (N : Nat) (κ : hk_T)
theorem r_can {nB L s l : Nat} (ok : raOk (hk_A κ 71) nB L) (hs : s < 2 ^ L) (hl : l ≤ L) : fX12_can N 69 (n3 s) (n3 l) (hp κ) = some (if canX L s l then n3 1 else n3 0, hp κ) := by
  obtain ⟨o1, o2, o3, o4, -⟩ := ok
  have q := q12 o4
  have sr : n3 s >>> n3 (l &&& 31) = n3 (s >>> l) := n3_shr (by omega) (by omega)
  have bs : n3 (s >>> l &&& 1) = n3 0 ↔ ¬ s.testBit l = true := bit_shr (by omega)
  by_cases c : l = L
  · rw [if_pos (Or.inl c)]
    simp (maxSteps := 400000) (disch := omega) only [n3_l, n3_add, n3_mul, n3_sub, n3_subn, n3_lt, n3_le, n3_eq, n3_eqn, n3_neq, n3_and, n3_or, n3_shl, n3_i, n3_cl, ↓hbd_0, ↓hbd_1, ↓hbd_2, hk_ob_0, hk_rd_0, hk_rd_1, hk_rd_2, hk_al_0, hk_al_1, h3r_0, h3r_1, hk_wi_0, hk_wj_0, h3w_0, h3w_1, h3v_0, hk_kI, hk_kJ, hk_kA, hk_kB, A_eq, A_ne, A_row, B_eq, B_ne, B_row, I_eq, I_ne, J_eq, J_ne, Option.bind_some, Option.some.injEq, if_true, if_false, eq_self, true_or, or_true, true_and, and_true, false_or, or_false, not_true_eq_false, not_false_eq_true, Classical.not_not, nar_b0, nar_b1, rz_0, rz_1, rz_i, ite01, Nat.add_zero, Nat.zero_add, Nat.one_mul, mul12, reduceIte, ra_z0, Nat.reduceEqDiff, Nat.reduceLT, Nat.reduceLeDiff, Nat.reduceAdd, Nat.reduceMul, Nat.reduceSub, Nat.reduceDiv, Nat.reduceMod, Bool.false_eq_true, false_and, and_false, reduceCtorEq, fX12_can, nX12_can_25, nX12_can_20, nX12_can_0, o2, c]
  · by_cases c2 : s.testBit l = true
    · rw [if_neg (fun z => by rcases z with z | z; exact c z; exact z c2)]
      simp (maxSteps := 400000) (disch := omega) only [n3_l, n3_add, n3_mul, n3_sub, n3_subn, n3_lt, n3_le, n3_eq, n3_eqn, n3_neq, n3_and, n3_or, n3_shl, n3_i, n3_cl, ↓hbd_0, ↓hbd_1, ↓hbd_2, hk_ob_0, hk_rd_0, hk_rd_1, hk_rd_2, hk_al_0, hk_al_1, h3r_0, h3r_1, hk_wi_0, hk_wj_0, h3w_0, h3w_1, h3v_0, hk_kI, hk_kJ, hk_kA, hk_kB, A_eq, A_ne, A_row, B_eq, B_ne, B_row, I_eq, I_ne, J_eq, J_ne, Option.bind_some, Option.some.injEq, if_true, if_false, eq_self, true_or, or_true, true_and, and_true, false_or, or_false, not_true_eq_false, not_false_eq_true, Classical.not_not, nar_b0, nar_b1, rz_0, rz_1, rz_i, ite01, Nat.add_zero, Nat.zero_add, Nat.one_mul, mul12, reduceIte, ra_z0, Nat.reduceEqDiff, Nat.reduceLT, Nat.reduceLeDiff, Nat.reduceAdd, Nat.reduceMul, Nat.reduceSub, Nat.reduceDiv, Nat.reduceMod, Bool.false_eq_true, false_and, and_false, reduceCtorEq, fX12_can, nX12_can_25, nX12_can_20, nX12_can_0, o2, c, sr, bs, c2]
    · rw [if_pos (Or.inr c2)]
      simp (maxSteps := 400000) (disch := omega) only [n3_l, n3_add, n3_mul, n3_sub, n3_subn, n3_lt, n3_le, n3_eq, n3_eqn, n3_neq, n3_and, n3_or, n3_shl, n3_i, n3_cl, ↓hbd_0, ↓hbd_1, ↓hbd_2, hk_ob_0, hk_rd_0, hk_rd_1, hk_rd_2, hk_al_0, hk_al_1, h3r_0, h3r_1, hk_wi_0, hk_wj_0, h3w_0, h3w_1, h3v_0, hk_kI, hk_kJ, hk_kA, hk_kB, A_eq, A_ne, A_row, B_eq, B_ne, B_row, I_eq, I_ne, J_eq, J_ne, Option.bind_some, Option.some.injEq, if_true, if_false, eq_self, true_or, or_true, true_and, and_true, false_or, or_false, not_true_eq_false, not_false_eq_true, Classical.not_not, nar_b0, nar_b1, rz_0, rz_1, rz_i, ite01, Nat.add_zero, Nat.zero_add, Nat.one_mul, mul12, reduceIte, ra_z0, Nat.reduceEqDiff, Nat.reduceLT, Nat.reduceLeDiff, Nat.reduceAdd, Nat.reduceMul, Nat.reduceSub, Nat.reduceDiv, Nat.reduceMod, Bool.false_eq_true, false_and, and_false, reduceCtorEq, fX12_can, nX12_can_25, nX12_can_20, nX12_can_0, o2, c, sr, bs, c2]
theorem r_after {nB L s l : Nat} (ok : raOk (hk_A κ 71) nB L) (hl : l ≤ L) : fX12_after N 69 (n3 s) (n3 l) (hp κ) = some (n3 (aft L s l), hp κ) := by
  obtain ⟨o1, o2, o3, o4, -⟩ := ok
  unfold aft
  by_cases c : l = L
  · rw [if_pos c]
    simp (maxSteps := 400000) (disch := omega) only [n3_l, n3_add, n3_mul, n3_sub, n3_subn, n3_lt, n3_le, n3_eq, n3_eqn, n3_neq, n3_and, n3_or, n3_shl, n3_i, n3_cl, ↓hbd_0, ↓hbd_1, ↓hbd_2, hk_ob_0, hk_rd_0, hk_rd_1, hk_rd_2, hk_al_0, hk_al_1, h3r_0, h3r_1, hk_wi_0, hk_wj_0, h3w_0, h3w_1, h3v_0, hk_kI, hk_kJ, hk_kA, hk_kB, A_eq, A_ne, A_row, B_eq, B_ne, B_row, I_eq, I_ne, J_eq, J_ne, Option.bind_some, Option.some.injEq, if_true, if_false, eq_self, true_or, or_true, true_and, and_true, false_or, or_false, not_true_eq_false, not_false_eq_true, Classical.not_not, nar_b0, nar_b1, rz_0, rz_1, rz_i, ite01, Nat.add_zero, Nat.zero_add, Nat.one_mul, mul12, reduceIte, ra_z0, Nat.reduceEqDiff, Nat.reduceLT, Nat.reduceLeDiff, Nat.reduceAdd, Nat.reduceMul, Nat.reduceSub, Nat.reduceDiv, Nat.reduceMod, Bool.false_eq_true, false_and, and_false, reduceCtorEq, fX12_after, nX12_after_21, nX12_after_0, o2, c]
  · rw [if_neg c]
    simp (maxSteps := 400000) (disch := omega) only [n3_l, n3_add, n3_mul, n3_sub, n3_subn, n3_lt, n3_le, n3_eq, n3_eqn, n3_neq, n3_and, n3_or, n3_shl, n3_i, n3_cl, ↓hbd_0, ↓hbd_1, ↓hbd_2, hk_ob_0, hk_rd_0, hk_rd_1, hk_rd_2, hk_al_0, hk_al_1, h3r_0, h3r_1, hk_wi_0, hk_wj_0, h3w_0, h3w_1, h3v_0, hk_kI, hk_kJ, hk_kA, hk_kB, A_eq, A_ne, A_row, B_eq, B_ne, B_row, I_eq, I_ne, J_eq, J_ne, Option.bind_some, Option.some.injEq, if_true, if_false, eq_self, true_or, or_true, true_and, and_true, false_or, or_false, not_true_eq_false, not_false_eq_true, Classical.not_not, nar_b0, nar_b1, rz_0, rz_1, rz_i, ite01, Nat.add_zero, Nat.zero_add, Nat.one_mul, mul12, reduceIte, ra_z0, Nat.reduceEqDiff, Nat.reduceLT, Nat.reduceLeDiff, Nat.reduceAdd, Nat.reduceMul, Nat.reduceSub, Nat.reduceDiv, Nat.reduceMod, Bool.false_eq_true, false_and, and_false, reduceCtorEq, fX12_after, nX12_after_21, nX12_after_0, o2, c, n3_shl]
theorem r_with {nB L b s l : Nat} (ok : raOk (hk_A κ 71) nB L) (hb : b < nB) (hs : s < 2 ^ L) (hl : l ≤ L) (hT : ∀ x, x < 2 ^ L → hk_A κ 90 (4096 * (b + 1) + x) = z3 (mS (agR (hk_A κ 71)) L nB (nB - (b + 1)) x)) : fX12_with N 69 (n3 b) (n3 s) (n3 l) (hp κ) = some (z3 (wiX (agR (hk_A κ 71)) L nB b s l), hp κ) := by
  have ok' := ok
  obtain ⟨o1, o2, o3, o4, o5, o6⟩ := ok
  have q := q12 o4
  unfold wiX
  by_cases c : l = L
  · rw [if_pos c]
    have t := hT s hs
    simp (maxSteps := 400000) (disch := omega) only [n3_l, n3_add, n3_mul, n3_sub, n3_subn, n3_lt, n3_le, n3_eq, n3_eqn, n3_neq, n3_and, n3_or, n3_shl, n3_i, n3_cl, ↓hbd_0, ↓hbd_1, ↓hbd_2, hk_ob_0, hk_rd_0, hk_rd_1, hk_rd_2, hk_al_0, hk_al_1, h3r_0, h3r_1, hk_wi_0, hk_wj_0, h3w_0, h3w_1, h3v_0, hk_kI, hk_kJ, hk_kA, hk_kB, A_eq, A_ne, A_row, B_eq, B_ne, B_row, I_eq, I_ne, J_eq, J_ne, Option.bind_some, Option.some.injEq, if_true, if_false, eq_self, true_or, or_true, true_and, and_true, false_or, or_false, not_true_eq_false, not_false_eq_true, Classical.not_not, nar_b0, nar_b1, rz_0, rz_1, rz_i, ite01, Nat.add_zero, Nat.zero_add, Nat.one_mul, mul12, reduceIte, ra_z0, Nat.reduceEqDiff, Nat.reduceLT, Nat.reduceLeDiff, Nat.reduceAdd, Nat.reduceMul, Nat.reduceSub, Nat.reduceDiv, Nat.reduceMod, Bool.false_eq_true, false_and, and_false, reduceCtorEq, fX12_with, nX12_with_54, nX12_with_0, o2, c, t]
  · rw [if_neg c]
    have hl' : l < L := by omega
    have lt := or_lt hs hl'
    have t := hT _ lt
    obtain ⟨p, p1, p2⟩ := o5 l hl'
    obtain ⟨p', p3, p4⟩ := o6 b hb
    have ag := r_agreeOf N κ (l := l) (b := b) (by omega) (by omega) p2 p4 p1 p3
    rw [z3_of (sp_agree (hk_A κ 71) (rG (hk_A κ 71)) l b)] at ag
    simp (maxSteps := 400000) (disch := omega) only [n3_l, n3_add, n3_mul, n3_sub, n3_subn, n3_lt, n3_le, n3_eq, n3_eqn, n3_neq, n3_and, n3_or, n3_shl, n3_i, n3_cl, ↓hbd_0, ↓hbd_1, ↓hbd_2, hk_ob_0, hk_rd_0, hk_rd_1, hk_rd_2, hk_al_0, hk_al_1, h3r_0, h3r_1, hk_wi_0, hk_wj_0, h3w_0, h3w_1, h3v_0, hk_kI, hk_kJ, hk_kA, hk_kB, A_eq, A_ne, A_row, B_eq, B_ne, B_row, I_eq, I_ne, J_eq, J_ne, Option.bind_some, Option.some.injEq, if_true, if_false, eq_self, true_or, or_true, true_and, and_true, false_or, or_false, not_true_eq_false, not_false_eq_true, Classical.not_not, nar_b0, nar_b1, rz_0, rz_1, rz_i, ite01, Nat.add_zero, Nat.zero_add, Nat.one_mul, mul12, reduceIte, ra_z0, Nat.reduceEqDiff, Nat.reduceLT, Nat.reduceLeDiff, Nat.reduceAdd, Nat.reduceMul, Nat.reduceSub, Nat.reduceDiv, Nat.reduceMod, Bool.false_eq_true, false_and, and_false, reduceCtorEq, fX12_with, nX12_with_54, nX12_with_0, o2, c, ag, n3_shl, t, z3_add]
    rfl
end
/-- what the reference's two folds come to -/
theorem st2_mW (a : Nat → Nat → Int) (L n k s : Nat) :
    (fo (st2 (fun l => s.testBit l = true) (fun l => a l (n - (k + 1)) + mS a L n k (s ||| 2 ^ l)) (fun l => mW a L n k (s ||| 2 ^ l))) 0 L (mS a L n k s, mW a L n k s)).1 = mS a L n (k + 1) s ∧
    min (fo (st2 (fun l => s.testBit l = true) (fun l => a l (n - (k + 1)) + mS a L n k (s ||| 2 ^ l)) (fun l => mW a L n k (s ||| 2 ^ l))) 0 L (mS a L n k s, mW a L n k s)).2 1000000000 = mW a L n (k + 1) s := by
  obtain ⟨h1, h2⟩ := arg2 (fun l => s.testBit l = true) (fun l => a l (n - (k + 1)) + mS a L n k (s ||| 2 ^ l)) (fun l => mW a L n k (s ||| 2 ^ l)) (mS a L n k s) (mW a L n k s) L
  have e : (fo (st2 (fun l => s.testBit l = true) (fun l => a l (n - (k + 1)) + mS a L n k (s ||| 2 ^ l)) (fun l => mW a L n k (s ||| 2 ^ l))) 0 L (mS a L n k s, mW a L n k s)).1 = mS a L n (k + 1) s := h1
  refine ⟨e, ?_⟩
  rw [h2, e, mW]
theorem st2_at {c : Nat → Prop} [DecidablePred c] {val : Nat → Int} {wt : Nat → Nat} {l : Nat} {x : Int} {y : Nat} {w : Int} {t : Nat} (hw : val l = w) (ht : wt l = t) : st2 c val wt l (x, y) = if c l then (x, y) else (if x < w then w else x, (if x < w then 0 else y) + if x ≤ w then t else 0) := by
  subst hw ht
  rfl
section
variable (N : Nat) (κ : hk_T)
theorem r_matchSet {nB L b s m : Nat} {c64 : Nat → Int32 → Int32 → Int32 → ra_H → Option ra_H} {c72 : Nat → Int32 → Int32 → Int32 → Int32 → ra_H → Option ra_H} (ok : raOk (hk_A κ 71) nB L) (hb : b < nB) (hs : s < 2 ^ L) (hT : ∀ x, x < 2 ^ L → hk_A κ 90 (4096 * (b + 1) + x) = z3 (mS (agR (hk_A κ 71)) L nB (nB - (b + 1)) x)) (hW : ∀ x, x < 2 ^ L → hk_B κ 91 x = j3 (mW (agR (hk_A κ 71)) L nB (nB - (b + 1)) x)) (hm : 1000 < m) :
    nX12_matchAll_101 N c64 c72 m 69 (n3 L) (n3 (2 ^ L)) (n3 b) (n3 s) (z3 (mS (agR (hk_A κ 71)) L nB (nB - (b + 1)) s)) (j3 (mW (agR (hk_A κ 71)) L nB (nB - (b + 1)) s)) (n3 0) (hp κ) =
      c72 69 (n3 L) (n3 (2 ^ L)) (n3 b) (n3 (s + 1)) (hp (hk_wB (hk_wA κ 90 (4096 * b + s) (z3 (mS (agR (hk_A κ 71)) L nB (nB - b) s))) 92 s (j3 (mW (agR (hk_A κ 71)) L nB (nB - b) s)))) := by
  have ok' := ok
  obtain ⟨o1, o2, o3, o4, o5, o6⟩ := ok
  have q := q12 o4
  have ek : nB - b = nB - (b + 1) + 1 := by omega
  have eb : nB - (nB - (b + 1) + 1) = b := by omega
  obtain ⟨f1, f2⟩ := st2_mW (agR (hk_A κ 71)) L nB (nB - (b + 1)) s
  rw [eb] at f1 f2
  have bS := mS_bd (hk_A κ 71) (L := L) (n := nB) (k := nB - (b + 1)) s (by omega)
  have bW := mW_le (agR (hk_A κ 71)) L nB (nB - (b + 1)) s
  have key := (lp (fun m l (r : Int × Nat) => nX12_matchAll_101 N c64 c72 m 69 (n3 L) (n3 (2 ^ L)) (n3 b) (n3 s) (z3 r.1) (j3 r.2) (n3 l) (hp κ)) L (st2 (fun l => s.testBit l = true) (fun l => agR (hk_A κ 71) l b + mS (agR (hk_A κ 71)) L nB (nB - (b + 1)) (s ||| 2 ^ l)) (fun l => mW (agR (hk_A κ 71)) L nB (nB - (b + 1)) (s ||| 2 ^ l)))
    (fun r => c72 69 (n3 L) (n3 (2 ^ L)) (n3 b) (n3 (s + 1)) (hp (hk_wB (hk_wA κ 90 (4096 * b + s) (z3 r.1)) 92 s (j3 (min r.2 1000000000))))) (fun l r => -1000 ≤ r.1 ∧ r.1 ≤ 1000000 ∧ r.2 ≤ l * 1000000000 + 1000000000) ?_ ?_ L 0 m (mS (agR (hk_A κ 71)) L nB (nB - (b + 1)) s, mW (agR (hk_A κ 71)) L nB (nB - (b + 1)) s) (by omega) (by omega) ⟨by dsimp only; omega, by dsimp only; omega, by dsimp only; omega⟩).1
  · try dsimp only at key
    rw [f1, f2, ← ek] at key
    exact key
  · rintro m l ⟨x, y⟩ hl ⟨b1, b2, b3⟩
    try dsimp only at b1 b2 b3 ⊢
    have ca := r_can N κ ok' hs (l := l) (by omega)
    have wi := r_with N κ ok' hb hs (l := l) (by omega) hT
    have wb := wiX_bd (hk_A κ 71) (L := L) (n := nB) b s l o3
    have lt := or_lt hs hl
    have hW' := hW _ lt
    have bW2 := mW_le (agR (hk_A κ 71)) L nB (nB - (b + 1)) (s ||| 2 ^ l)
    have cl : ¬ l = L := by omega
    unfold wiX at wi wb
    rw [if_neg cl] at wi wb
    have zl1 : z3 (agR (hk_A κ 71) l b + mS (agR (hk_A κ 71)) L nB (nB - (b + 1)) (s ||| 2 ^ l)) ≤ z3 x ↔ agR (hk_A κ 71) l b + mS (agR (hk_A κ 71)) L nB (nB - (b + 1)) (s ||| 2 ^ l) ≤ x := z3_le (by omega) (by omega) (by omega) (by omega)
    have zl2 : z3 (agR (hk_A κ 71) l b + mS (agR (hk_A κ 71)) L nB (nB - (b + 1)) (s ||| 2 ^ l)) < z3 x ↔ agR (hk_A κ 71) l b + mS (agR (hk_A κ 71)) L nB (nB - (b + 1)) (s ||| 2 ^ l) < x := z3_lt (by omega) (by omega) (by omega) (by omega)
    obtain ⟨w, hw⟩ : ∃ w, agR (hk_A κ 71) l b + mS (agR (hk_A κ 71)) L nB (nB - (b + 1)) (s ||| 2 ^ l) = w := ⟨_, rfl⟩
    obtain ⟨t, ht⟩ : ∃ t, mW (agR (hk_A κ 71)) L nB (nB - (b + 1)) (s ||| 2 ^ l) = t := ⟨_, rfl⟩
    have sv := st2_at (c := fun l => s.testBit l = true) (val := fun l => agR (hk_A κ 71) l b + mS (agR (hk_A κ 71)) L nB (nB - (b + 1)) (s ||| 2 ^ l)) (wt := fun l => mW (agR (hk_A κ 71)) L nB (nB - (b + 1)) (s ||| 2 ^ l)) (l := l) (x := x) (y := y) hw ht
    rw [sv]
    rw [hw] at wi wb zl1 zl2
    rw [ht] at hW' bW2
    by_cases c : s.testBit l = true
    · rw [if_neg (fun z => by rcases z with z | z; exact cl z; exact z c)] at ca
      rw [if_pos c]
      refine ⟨?_, b1, b2, Nat.le_trans b3 (Nat.add_le_add_right (Nat.mul_le_mul_right _ (Nat.le_succ l)) _)⟩
      rw [nX12_matchAll_101]
      simp (maxSteps := 400000) (disch := omega) only [n3_l, n3_add, n3_mul, n3_sub, n3_subn, n3_lt, n3_le, n3_eq, n3_eqn, n3_neq, n3_and, n3_or, n3_shl, n3_i, n3_cl, ↓hbd_0, ↓hbd_1, ↓hbd_2, hk_ob_0, hk_rd_0, hk_rd_1, hk_rd_2, hk_al_0, hk_al_1, h3r_0, h3r_1, hk_wi_0, hk_wj_0, h3w_0, h3w_1, h3v_0, hk_kI, hk_kJ, hk_kA, hk_kB, A_eq, A_ne, A_row, B_eq, B_ne, B_row, I_eq, I_ne, J_eq, J_ne, Option.bind_some, Option.some.injEq, if_true, if_false, eq_self, true_or, or_true, true_and, and_true, false_or, or_false, not_true_eq_false, not_false_eq_true, Classical.not_not, nar_b0, nar_b1, rz_0, rz_1, rz_i, ite01, Nat.add_zero, Nat.zero_add, Nat.one_mul, mul12, reduceIte, ra_z0, Nat.reduceEqDiff, Nat.reduceLT, Nat.reduceLeDiff, Nat.reduceAdd, Nat.reduceMul, Nat.reduceSub, Nat.reduceDiv, Nat.reduceMod, Bool.false_eq_true, false_and, and_false, reduceCtorEq, hl, ca, nX12_matchAll_189]
    · rw [if_pos (Or.inr c)] at ca
      rw [if_neg c]
      by_cases c1 : x < w
      · have d1 : ¬ w ≤ x := by omega
        have d2 : ¬ w < x := by omega
        have d3 : x ≤ w := by omega
        rw [if_pos c1, if_pos c1, if_pos d3]
        refine ⟨?_, by dsimp only; omega, by dsimp only; omega, by dsimp only; omega⟩
        rw [nX12_matchAll_101]
        simp (maxSteps := 400000) (disch := omega) only [n3_l, n3_add, n3_mul, n3_sub, n3_subn, n3_lt, n3_le, n3_eq, n3_eqn, n3_neq, n3_and, n3_or, n3_shl, n3_i, n3_cl, j3_l, j3_add, j3_mul, j3_sub, j3_lt, j3_le, j3_eq, j3_n, lg3_le, lg3_lt, lg3_eq, r_in3, ↓hbd_0, ↓hbd_1, ↓hbd_2, hk_ob_0, hk_rd_0, hk_rd_1, hk_rd_2, hk_al_0, hk_al_1, h3r_0, h3r_1, hk_wi_0, hk_wj_0, h3w_0, h3w_1, h3v_0, hk_kI, hk_kJ, hk_kA, hk_kB, A_eq, A_ne, A_row, B_eq, B_ne, B_row, I_eq, I_ne, J_eq, J_ne, Option.bind_some, Option.some.injEq, if_true, if_false, eq_self, true_or, or_true, true_and, and_true, false_or, or_false, not_true_eq_false, not_false_eq_true, Classical.not_not, nar_b0, nar_b1, rz_0, rz_1, rz_i, ite01, Nat.add_zero, Nat.zero_add, Nat.one_mul, mul12, reduceIte, ra_z0, Nat.reduceEqDiff, Nat.reduceLT, Nat.reduceLeDiff, Nat.reduceAdd, Nat.reduceMul, Nat.reduceSub, Nat.reduceDiv, Nat.reduceMod, Bool.false_eq_true, false_and, and_false, reduceCtorEq, hl, ca, wi, zl1, zl2, d1, d2, n3_shl, hW', nX12_matchAll_143, nX12_matchAll_170, nX12_matchAll_187, nX12_matchAll_189]
      · have d1 : w ≤ x := by omega
        rw [if_neg c1, if_neg c1]
        by_cases d3 : x ≤ w
        · have d2 : ¬ w < x := by omega
          rw [if_pos d3]
          refine ⟨?_, by dsimp only; omega, by dsimp only; omega, by dsimp only; omega⟩
          rw [nX12_matchAll_101]
          simp (maxSteps := 400000) (disch := omega) only [n3_l, n3_add, n3_mul, n3_sub, n3_subn, n3_lt, n3_le, n3_eq, n3_eqn, n3_neq, n3_and, n3_or, n3_shl, n3_i, n3_cl, j3_l, j3_add, j3_mul, j3_sub, j3_lt, j3_le, j3_eq, j3_n, lg3_le, lg3_lt, lg3_eq, r_in3, ↓hbd_0, ↓hbd_1, ↓hbd_2, hk_ob_0, hk_rd_0, hk_rd_1, hk_rd_2, hk_al_0, hk_al_1, h3r_0, h3r_1, hk_wi_0, hk_wj_0, h3w_0, h3w_1, h3v_0, hk_kI, hk_kJ, hk_kA, hk_kB, A_eq, A_ne, A_row, B_eq, B_ne, B_row, I_eq, I_ne, J_eq, J_ne, Option.bind_some, Option.some.injEq, if_true, if_false, eq_self, true_or, or_true, true_and, and_true, false_or, or_false, not_true_eq_false, not_false_eq_true, Classical.not_not, nar_b0, nar_b1, rz_0, rz_1, rz_i, ite01, Nat.add_zero, Nat.zero_add, Nat.one_mul, mul12, reduceIte, ra_z0, Nat.reduceEqDiff, Nat.reduceLT, Nat.reduceLeDiff, Nat.reduceAdd, Nat.reduceMul, Nat.reduceSub, Nat.reduceDiv, Nat.reduceMod, Bool.false_eq_true, false_and, and_false, reduceCtorEq, hl, ca, wi, zl1, zl2, d1, d2, n3_shl, hW', nX12_matchAll_143, nX12_matchAll_170, nX12_matchAll_187, nX12_matchAll_189]
        · have d2 : w < x := by omega
          rw [if_neg d3]
          refine ⟨?_, by dsimp only; omega, by dsimp only; omega, Nat.le_trans b3 (Nat.add_le_add_right (Nat.mul_le_mul_right _ (Nat.le_succ l)) _)⟩
          rw [nX12_matchAll_101]
          simp (maxSteps := 400000) (disch := omega) only [n3_l, n3_add, n3_mul, n3_sub, n3_subn, n3_lt, n3_le, n3_eq, n3_eqn, n3_neq, n3_and, n3_or, n3_shl, n3_i, n3_cl, j3_l, j3_add, j3_mul, j3_sub, j3_lt, j3_le, j3_eq, j3_n, lg3_le, lg3_lt, lg3_eq, r_in3, ↓hbd_0, ↓hbd_1, ↓hbd_2, hk_ob_0, hk_rd_0, hk_rd_1, hk_rd_2, hk_al_0, hk_al_1, h3r_0, h3r_1, hk_wi_0, hk_wj_0, h3w_0, h3w_1, h3v_0, hk_kI, hk_kJ, hk_kA, hk_kB, A_eq, A_ne, A_row, B_eq, B_ne, B_row, I_eq, I_ne, J_eq, J_ne, Option.bind_some, Option.some.injEq, if_true, if_false, eq_self, true_or, or_true, true_and, and_true, false_or, or_false, not_true_eq_false, not_false_eq_true, Classical.not_not, nar_b0, nar_b1, rz_0, rz_1, rz_i, ite01, Nat.add_zero, Nat.zero_add, Nat.one_mul, mul12, reduceIte, ra_z0, Nat.reduceEqDiff, Nat.reduceLT, Nat.reduceLeDiff, Nat.reduceAdd, Nat.reduceMul, Nat.reduceSub, Nat.reduceDiv, Nat.reduceMod, Bool.false_eq_true, false_and, and_false, reduceCtorEq, hl, ca, wi, zl1, zl2, d1, d2, nX12_matchAll_143, nX12_matchAll_170, nX12_matchAll_187, nX12_matchAll_189]
  · rintro m ⟨x, y⟩ ⟨b1, b2, b3⟩
    try dsimp only at b1 b2 b3 ⊢
    rw [nX12_matchAll_101]
    by_cases c : y < 1000000000
    · rw [Nat.min_eq_left (by omega)]
      simp (maxSteps := 400000) (disch := omega) only [n3_l, n3_add, n3_mul, n3_sub, n3_subn, n3_lt, n3_le, n3_eq, n3_eqn, n3_neq, n3_and, n3_or, n3_shl, n3_i, n3_cl, j3_l, j3_add, j3_mul, j3_sub, j3_lt, j3_le, j3_eq, j3_n, lg3_le, lg3_lt, lg3_eq, r_in3, ↓hbd_0, ↓hbd_1, ↓hbd_2, hk_ob_0, hk_rd_0, hk_rd_1, hk_rd_2, hk_al_0, hk_al_1, h3r_0, h3r_1, hk_wi_0, hk_wj_0, h3w_0, h3w_1, h3v_0, hk_kI, hk_kJ, hk_kA, hk_kB, A_eq, A_ne, A_row, B_eq, B_ne, B_row, I_eq, I_ne, J_eq, J_ne, Option.bind_some, Option.some.injEq, if_true, if_false, eq_self, true_or, or_true, true_and, and_true, false_or, or_false, not_true_eq_false, not_false_eq_true, Classical.not_not, nar_b0, nar_b1, rz_0, rz_1, rz_i, ite01, Nat.add_zero, Nat.zero_add, Nat.one_mul, mul12, reduceIte, ra_z0, Nat.reduceEqDiff, Nat.reduceLT, Nat.reduceLeDiff, Nat.reduceAdd, Nat.reduceMul, Nat.reduceSub, Nat.reduceDiv, Nat.reduceMod, Bool.false_eq_true, false_and, and_false, reduceCtorEq, Nat.lt_irrefl, c, nX12_matchAll_234]
    · rw [Nat.min_eq_right (by omega)]
      simp (maxSteps := 400000) (disch := omega) only [n3_l, n3_add, n3_mul, n3_sub, n3_subn, n3_lt, n3_le, n3_eq, n3_eqn, n3_neq, n3_and, n3_or, n3_shl, n3_i, n3_cl, j3_l, j3_add, j3_mul, j3_sub, j3_lt, j3_le, j3_eq, j3_n, lg3_le, lg3_lt, lg3_eq, r_in3, ↓hbd_0, ↓hbd_1, ↓hbd_2, hk_ob_0, hk_rd_0, hk_rd_1, hk_rd_2, hk_al_0, hk_al_1, h3r_0, h3r_1, hk_wi_0, hk_wj_0, h3w_0, h3w_1, h3v_0, hk_kI, hk_kJ, hk_kA, hk_kB, A_eq, A_ne, A_row, B_eq, B_ne, B_row, I_eq, I_ne, J_eq, J_ne, Option.bind_some, Option.some.injEq, if_true, if_false, eq_self, true_or, or_true, true_and, and_true, false_or, or_false, not_true_eq_false, not_false_eq_true, Classical.not_not, nar_b0, nar_b1, rz_0, rz_1, rz_i, ite01, Nat.add_zero, Nat.zero_add, Nat.one_mul, mul12, reduceIte, ra_z0, Nat.reduceEqDiff, Nat.reduceLT, Nat.reduceLeDiff, Nat.reduceAdd, Nat.reduceMul, Nat.reduceSub, Nat.reduceDiv, Nat.reduceMod, Bool.false_eq_true, false_and, and_false, reduceCtorEq, Nat.lt_irrefl, c, nX12_matchAll_234]
/-- a book's row of sets -/
theorem r_matchRow {nB L b m : Nat} {c64 : Nat → Int32 → Int32 → Int32 → ra_H → Option ra_H} (ok : raOk (hk_A κ 71) nB L) (hb : b < nB) (hT : ∀ x, x < 2 ^ L → hk_A κ 90 (4096 * (b + 1) + x) = z3 (mS (agR (hk_A κ 71)) L nB (nB - (b + 1)) x)) (hW : ∀ x, x < 2 ^ L → hk_B κ 91 x = j3 (mW (agR (hk_A κ 71)) L nB (nB - (b + 1)) x)) (hm : 10000 < m) (hN : 10000 < N) :
    ∃ κ', nX12_matchAll_72 N c64 m 69 (n3 L) (n3 (2 ^ L)) (n3 b) (n3 0) (hp κ) = c64 69 (n3 L) (n3 (2 ^ L)) (dn b) (hp κ') ∧ same [90, 91, 92] [] κ κ' ∧ (∀ i, (i < 4096 * b ∨ 4096 * (b + 1) ≤ i) → hk_A κ' 90 i = hk_A κ 90 i) ∧ (∀ x, x < 2 ^ L → hk_A κ' 90 (4096 * b + x) = z3 (mS (agR (hk_A κ 71)) L nB (nB - b) x)) ∧ ∀ x, x < 2 ^ L → hk_B κ' 91 x = j3 (mW (agR (hk_A κ 71)) L nB (nB - b) x) := by
  have ok' := ok
  obtain ⟨o1, o2, o3, o4, o5, o6⟩ := ok
  have q := q12 o4
  obtain ⟨m', s', e, i1, i2, i3, i4⟩ := lpx (fun m s (r : hk_T) => nX12_matchAll_72 N c64 m 69 (n3 L) (n3 (2 ^ L)) (n3 b) (n3 s) (hp r)) (2 ^ L) (fun s r => same [90, 92] [] κ r ∧ (∀ i, (i < 4096 * b ∨ 4096 * b + s ≤ i) → hk_A r 90 i = hk_A κ 90 i) ∧ (∀ x, x < s → hk_A r 90 (4096 * b + x) = z3 (mS (agR (hk_A κ 71)) L nB (nB - b) x)) ∧ ∀ x, x < s → hk_B r 92 x = j3 (mW (agR (hk_A κ 71)) L nB (nB - b) x)) (by
    rintro m s r hs ⟨i1, i2, i3, i4⟩
    have r71 : hk_A r 71 = hk_A κ 71 := i1.1 71 (by decide)
    have T' : ∀ x, x < 2 ^ L → hk_A r 90 (4096 * (b + 1) + x) = z3 (mS (agR (hk_A r 71)) L nB (nB - (b + 1)) x) := by
      intro x hx; rw [i2 _ (Or.inr (by omega)), r71]; exact hT x hx
    have W' : ∀ x, x < 2 ^ L → hk_B r 91 x = j3 (mW (agR (hk_A r 71)) L nB (nB - (b + 1)) x) := by
      intro x hx; rw [i1.2.1 91 (by decide), r71]; exact hW x hx
    have okr : raOk (hk_A r 71) nB L := by rw [r71]; exact ok'
    have wi := r_with N r okr hb hs (Nat.le_refl L) T'
    unfold wiX at wi
    rw [if_pos rfl] at wi
    have ms := r_matchSet N r (m := N) (c64 := c64) (c72 := nX12_matchAll_72 N c64 m) okr hb hs T' W' (by omega)
    have w91 := W' s hs
    rw [r71] at ms wi w91
    refine ⟨hk_wB (hk_wA r 90 (4096 * b + s) (z3 (mS (agR (hk_A κ 71)) L nB (nB - b) s))) 92 s (j3 (mW (agR (hk_A κ 71)) L nB (nB - b) s)), ?_, (i1.wA (by decide)).wB (by decide), ?_, ?_, ?_⟩
    · rw [nX12_matchAll_72]
      simp (maxSteps := 400000) (disch := omega) only [n3_l, n3_add, n3_mul, n3_sub, n3_subn, n3_lt, n3_le, n3_eq, n3_eqn, n3_neq, n3_and, n3_or, n3_shl, n3_i, n3_cl, ↓hbd_0, ↓hbd_1, ↓hbd_2, hk_ob_0, hk_rd_0, hk_rd_1, hk_rd_2, hk_al_0, hk_al_1, h3r_0, h3r_1, hk_wi_0, hk_wj_0, h3w_0, h3w_1, h3v_0, hk_kI, hk_kJ, hk_kA, hk_kB, A_eq, A_ne, A_row, B_eq, B_ne, B_row, I_eq, I_ne, J_eq, J_ne, Option.bind_some, Option.some.injEq, if_true, if_false, eq_self, true_or, or_true, true_and, and_true, false_or, or_false, not_true_eq_false, not_false_eq_true, Classical.not_not, nar_b0, nar_b1, rz_0, rz_1, rz_i, ite01, Nat.add_zero, Nat.zero_add, Nat.one_mul, mul12, reduceIte, ra_z0, Nat.reduceEqDiff, Nat.reduceLT, Nat.reduceLeDiff, Nat.reduceAdd, Nat.reduceMul, Nat.reduceSub, Nat.reduceDiv, Nat.reduceMod, Bool.false_eq_true, false_and, and_false, reduceCtorEq, hs, wi, w91]
      exact ms
    · intro i hi
      show hk_A (hk_wA r 90 (4096 * b + s) _) 90 i = _
      rw [A_ne (Or.inr (by omega))]
      exact i2 i (by omega)
    · intro x hx
      show hk_A (hk_wA r 90 (4096 * b + s) _) 90 _ = _
      by_cases ex : x = s
      · rw [ex, A_eq rfl]
      · rw [A_ne (Or.inr (by omega))]; exact i3 x (by omega)
    · intro x hx
      by_cases ex : x = s
      · rw [ex, B_eq rfl]
      · rw [B_ne (Or.inr ex)]; exact i4 x (by omega)) (2 ^ L) 0 m κ (by omega) (by omega) ⟨same.refl _ _ _, fun _ _ => rfl, fun x h => by omega, fun x h => by omega⟩
  have e0 : nX12_matchAll_72 N c64 m 69 (n3 L) (n3 (2 ^ L)) (n3 b) (n3 0) (hp κ) = nX12_matchAll_72 N c64 (m' + 1) 69 (n3 L) (n3 (2 ^ L)) (n3 b) (n3 (2 ^ L)) (hp s') := e
  obtain ⟨m'', s'', e', j1, j2⟩ := lpx (fun m s (r : hk_T) => nX12_matchAll_244 N c64 m 69 (n3 L) (n3 (2 ^ L)) (n3 b) (n3 s) (hp r)) (2 ^ L) (fun s r => same [91] [] s' r ∧ ∀ x, x < s → hk_B r 91 x = j3 (mW (agR (hk_A κ 71)) L nB (nB - b) x)) (by
    rintro m s r hs ⟨j1, j2⟩
    have r92 : hk_B r 92 s = j3 (mW (agR (hk_A κ 71)) L nB (nB - b) s) := by rw [j1.2.1 92 (by decide)]; exact i4 s hs
    refine ⟨hk_wB r 91 s (j3 (mW (agR (hk_A κ 71)) L nB (nB - b) s)), ?_, j1.wB (by decide), ?_⟩
    · rw [nX12_matchAll_244]
      simp (maxSteps := 400000) (disch := omega) only [n3_l, n3_add, n3_mul, n3_sub, n3_subn, n3_lt, n3_le, n3_eq, n3_eqn, n3_neq, n3_and, n3_or, n3_shl, n3_i, n3_cl, ↓hbd_0, ↓hbd_1, ↓hbd_2, hk_ob_0, hk_rd_0, hk_rd_1, hk_rd_2, hk_al_0, hk_al_1, h3r_0, h3r_1, hk_wi_0, hk_wj_0, h3w_0, h3w_1, h3v_0, hk_kI, hk_kJ, hk_kA, hk_kB, A_eq, A_ne, A_row, B_eq, B_ne, B_row, I_eq, I_ne, J_eq, J_ne, Option.bind_some, Option.some.injEq, if_true, if_false, eq_self, true_or, or_true, true_and, and_true, false_or, or_false, not_true_eq_false, not_false_eq_true, Classical.not_not, nar_b0, nar_b1, rz_0, rz_1, rz_i, ite01, Nat.add_zero, Nat.zero_add, Nat.one_mul, mul12, reduceIte, ra_z0, Nat.reduceEqDiff, Nat.reduceLT, Nat.reduceLeDiff, Nat.reduceAdd, Nat.reduceMul, Nat.reduceSub, Nat.reduceDiv, Nat.reduceMod, Bool.false_eq_true, false_and, and_false, reduceCtorEq, hs, r92]
    · intro x hx
      by_cases ex : x = s
      · rw [ex, B_eq rfl]
      · rw [B_ne (Or.inr ex)]; exact j2 x (by omega)) (2 ^ L) 0 N s' (by omega) (by omega) ⟨same.refl _ _ _, fun x h => by omega⟩
  have e1 : nX12_matchAll_244 N c64 N 69 (n3 L) (n3 (2 ^ L)) (n3 b) (n3 0) (hp s') = nX12_matchAll_244 N c64 (m'' + 1) 69 (n3 L) (n3 (2 ^ L)) (n3 b) (n3 (2 ^ L)) (hp s'') := e'
  refine ⟨s'', ?_, (i1.weak (by decide) (by decide)).trans (j1.weak (by decide) (by decide)), ?_, ?_, j2⟩
  · rw [e0, nX12_matchAll_72]
    simp (maxSteps := 400000) (disch := omega) only [n3_l, n3_add, n3_mul, n3_sub, n3_subn, n3_lt, n3_le, n3_eq, n3_eqn, n3_neq, n3_and, n3_or, n3_shl, n3_i, n3_cl, ↓hbd_0, ↓hbd_1, ↓hbd_2, hk_ob_0, hk_rd_0, hk_rd_1, hk_rd_2, hk_al_0, hk_al_1, h3r_0, h3r_1, hk_wi_0, hk_wj_0, h3w_0, h3w_1, h3v_0, hk_kI, hk_kJ, hk_kA, hk_kB, A_eq, A_ne, A_row, B_eq, B_ne, B_row, I_eq, I_ne, J_eq, J_ne, Option.bind_some, Option.some.injEq, if_true, if_false, eq_self, true_or, or_true, true_and, and_true, false_or, or_false, not_true_eq_false, not_false_eq_true, Classical.not_not, nar_b0, nar_b1, rz_0, rz_1, rz_i, ite01, Nat.add_zero, Nat.zero_add, Nat.one_mul, mul12, reduceIte, ra_z0, Nat.reduceEqDiff, Nat.reduceLT, Nat.reduceLeDiff, Nat.reduceAdd, Nat.reduceMul, Nat.reduceSub, Nat.reduceDiv, Nat.reduceMod, Bool.false_eq_true, false_and, and_false, reduceCtorEq, Nat.lt_irrefl]
    rw [e1, nX12_matchAll_244]
    simp (maxSteps := 400000) (disch := omega) only [n3_l, n3_add, n3_mul, n3_sub, n3_subn, n3_lt, n3_le, n3_eq, n3_eqn, n3_neq, n3_and, n3_or, n3_shl, n3_i, n3_cl, ↓hbd_0, ↓hbd_1, ↓hbd_2, hk_ob_0, hk_rd_0, hk_rd_1, hk_rd_2, hk_al_0, hk_al_1, h3r_0, h3r_1, hk_wi_0, hk_wj_0, h3w_0, h3w_1, h3v_0, hk_kI, hk_kJ, hk_kA, hk_kB, A_eq, A_ne, A_row, B_eq, B_ne, B_row, I_eq, I_ne, J_eq, J_ne, Option.bind_some, Option.some.injEq, if_true, if_false, eq_self, true_or, or_true, true_and, and_true, false_or, or_false, not_true_eq_false, not_false_eq_true, Classical.not_not, nar_b0, nar_b1, rz_0, rz_1, rz_i, ite01, Nat.add_zero, Nat.zero_add, Nat.one_mul, mul12, reduceIte, ra_z0, Nat.reduceEqDiff, Nat.reduceLT, Nat.reduceLeDiff, Nat.reduceAdd, Nat.reduceMul, Nat.reduceSub, Nat.reduceDiv, Nat.reduceMod, Bool.false_eq_true, false_and, and_false, reduceCtorEq, Nat.lt_irrefl, dn_next]
  · intro i hi
    rw [j1.1 90 (by decide)]
    exact i2 i (by omega)
  · intro x hx
    rw [j1.1 90 (by decide)]
    exact i3 x hx
/-- the tables, whole -/
theorem r_tables {nB L : Nat} (ok : raOk (hk_A κ 71) nB L) (hN : 10000 < N) :
    ∃ m' κ', nX12_matchAll_25 N N 69 (n3 L) (n3 (2 ^ L)) (n3 nB) (n3 0) (hp κ) = nX12_matchAll_64 N (m' + 1) 69 (n3 L) (n3 (2 ^ L)) (dn 0) (hp κ') ∧ same [90, 91, 92] [] κ κ' ∧ (∀ b, b ≤ nB → ∀ x, x < 2 ^ L → hk_A κ' 90 (4096 * b + x) = z3 (mS (agR (hk_A κ 71)) L nB (nB - b) x)) ∧ ∀ x, x < 2 ^ L → hk_B κ' 91 x = j3 (mW (agR (hk_A κ 71)) L nB nB x) := by
  have ok' := ok
  obtain ⟨o1, o2, o3, o4, o5, o6⟩ := ok
  have q := q12 o4
  obtain ⟨m0, s0, e0, i1, i2, i3⟩ := lpx (fun m s (r : hk_T) => nX12_matchAll_25 N m 69 (n3 L) (n3 (2 ^ L)) (n3 nB) (n3 s) (hp r)) (2 ^ L) (fun s r => same [90, 91] [] κ r ∧ (∀ x, x < s → hk_A r 90 (4096 * nB + x) = n3 0) ∧ ∀ x, x < s → hk_B r 91 x = j3 1) (by
    rintro m s r hs ⟨i1, i2, i3⟩
    refine ⟨hk_wB (hk_wA r 90 (4096 * nB + s) (n3 0)) 91 s (j3 1), ?_, (i1.wA (by decide)).wB (by decide), ?_, ?_⟩
    · rw [nX12_matchAll_25]
      simp (maxSteps := 400000) (disch := omega) only [n3_l, n3_add, n3_mul, n3_sub, n3_subn, n3_lt, n3_le, n3_eq, n3_eqn, n3_neq, n3_and, n3_or, n3_shl, n3_i, n3_cl, j3_l, j3_add, j3_mul, j3_sub, j3_lt, j3_le, j3_eq, j3_n, lg3_le, lg3_lt, lg3_eq, r_in3, ↓hbd_0, ↓hbd_1, ↓hbd_2, hk_ob_0, hk_rd_0, hk_rd_1, hk_rd_2, hk_al_0, hk_al_1, h3r_0, h3r_1, hk_wi_0, hk_wj_0, h3w_0, h3w_1, h3v_0, hk_kI, hk_kJ, hk_kA, hk_kB, A_eq, A_ne, A_row, B_eq, B_ne, B_row, I_eq, I_ne, J_eq, J_ne, Option.bind_some, Option.some.injEq, if_true, if_false, eq_self, true_or, or_true, true_and, and_true, false_or, or_false, not_true_eq_false, not_false_eq_true, Classical.not_not, nar_b0, nar_b1, rz_0, rz_1, rz_i, ite01, Nat.add_zero, Nat.zero_add, Nat.one_mul, mul12, reduceIte, ra_z0, Nat.reduceEqDiff, Nat.reduceLT, Nat.reduceLeDiff, Nat.reduceAdd, Nat.reduceMul, Nat.reduceSub, Nat.reduceDiv, Nat.reduceMod, Bool.false_eq_true, false_and, and_false, reduceCtorEq, hs]
    · intro x hx
      show hk_A (hk_wA r 90 (4096 * nB + s) _) 90 _ = _
      by_cases ex : x = s
      · rw [ex, A_eq rfl]
      · rw [A_ne (Or.inr (by omega))]; exact i2 x (by omega)
    · intro x hx
      by_cases ex : x = s
      · rw [ex, B_eq rfl]
      · rw [B_ne (Or.inr ex)]; exact i3 x (by omega)) (2 ^ L) 0 N κ (by omega) (by omega) ⟨same.refl _ _ _, fun x h => by omega, fun x h => by omega⟩
  obtain ⟨m', s', e, j1, j2, j3'⟩ := lpx (fun m i (r : hk_T) => nX12_matchAll_64 N m 69 (n3 L) (n3 (2 ^ L)) (dn (nB - i)) (hp r)) nB (fun i r => same [90, 91, 92] [] κ r ∧ (∀ b, nB - i ≤ b → b ≤ nB → ∀ x, x < 2 ^ L → hk_A r 90 (4096 * b + x) = z3 (mS (agR (hk_A κ 71)) L nB (nB - b) x)) ∧ ∀ x, x < 2 ^ L → hk_B r 91 x = j3 (mW (agR (hk_A κ 71)) L nB i x)) (by
    rintro m i r hi ⟨j1, j2, j3'⟩
    obtain ⟨b, hb⟩ : ∃ b, b + 1 + i = nB := ⟨nB - (i + 1), by omega⟩
    have eb : nB - i = b + 1 := by omega
    have eb2 : nB - (i + 1) = b := by omega
    have eb3 : nB - b = i + 1 := by omega
    have eb4 : nB - (b + 1) = i := by omega
    rw [eb] at j2 ⊢
    rw [eb2]
    have r71 : hk_A r 71 = hk_A κ 71 := j1.1 71 (by decide)
    obtain ⟨r1, e1, k1, k2, k3, k4⟩ := r_matchRow N r (b := b) (m := N) (c64 := nX12_matchAll_64 N m) (by rw [r71]; exact ok') (by omega) (by rw [r71]; exact j2 (b + 1) (Nat.le_refl _) (by omega)) (by rw [r71, eb4]; exact j3') hN hN
    rw [r71] at k3 k4
    rw [eb3] at k4
    refine ⟨r1, ?_, j1.trans k1, ?_, k4⟩
    · have c0 : ¬ b < 0 := by omega
      rw [nX12_matchAll_64, dn_succ]
      simp (maxSteps := 400000) (disch := omega) only [n3_l, n3_add, n3_mul, n3_sub, n3_subn, n3_lt, n3_le, n3_eq, n3_eqn, n3_neq, n3_and, n3_or, n3_shl, n3_i, n3_cl, ↓hbd_0, ↓hbd_1, ↓hbd_2, hk_ob_0, hk_rd_0, hk_rd_1, hk_rd_2, hk_al_0, hk_al_1, h3r_0, h3r_1, hk_wi_0, hk_wj_0, h3w_0, h3w_1, h3v_0, hk_kI, hk_kJ, hk_kA, hk_kB, A_eq, A_ne, A_row, B_eq, B_ne, B_row, I_eq, I_ne, J_eq, J_ne, Option.bind_some, Option.some.injEq, if_true, if_false, eq_self, true_or, or_true, true_and, and_true, false_or, or_false, not_true_eq_false, not_false_eq_true, Classical.not_not, nar_b0, nar_b1, rz_0, rz_1, rz_i, ite01, Nat.add_zero, Nat.zero_add, Nat.one_mul, mul12, reduceIte, ra_z0, Nat.reduceEqDiff, Nat.reduceLT, Nat.reduceLeDiff, Nat.reduceAdd, Nat.reduceMul, Nat.reduceSub, Nat.reduceDiv, Nat.reduceMod, Bool.false_eq_true, false_and, and_false, reduceCtorEq, c0]
      exact e1
    · intro b' h1 h2 x hx
      by_cases ex : b' = b
      · rw [ex]; exact k3 x hx
      · rw [k2 _ (Or.inr (by omega))]
        exact j2 b' (by omega) h2 x hx) nB 0 N s0 (by omega) (by omega) ⟨i1.weak (by decide) (by decide), fun b h1 h2 x hx => by
      have eb : b = nB := by omega
      rw [eb, Nat.sub_self, i2 x hx]; rfl, fun x hx => by rw [i3 x hx]; rfl⟩
  rw [Nat.sub_self] at j2 e
  refine ⟨m', s', ?_, j1, fun b hb => j2 b (by omega) hb, j3'⟩
  have e2 : nX12_matchAll_25 N N 69 (n3 L) (n3 (2 ^ L)) (n3 nB) (n3 0) (hp κ) = nX12_matchAll_25 N (m0 + 1) 69 (n3 L) (n3 (2 ^ L)) (n3 nB) (n3 (2 ^ L)) (hp s0) := e0
  rw [e2, nX12_matchAll_25]
  simp (maxSteps := 400000) (disch := omega) only [n3_l, n3_add, n3_mul, n3_sub, n3_subn, n3_lt, n3_le, n3_eq, n3_eqn, n3_neq, n3_and, n3_or, n3_shl, n3_i, n3_cl, ↓hbd_0, ↓hbd_1, ↓hbd_2, hk_ob_0, hk_rd_0, hk_rd_1, hk_rd_2, hk_al_0, hk_al_1, h3r_0, h3r_1, hk_wi_0, hk_wj_0, h3w_0, h3w_1, h3v_0, hk_kI, hk_kJ, hk_kA, hk_kB, A_eq, A_ne, A_row, B_eq, B_ne, B_row, I_eq, I_ne, J_eq, J_ne, Option.bind_some, Option.some.injEq, if_true, if_false, eq_self, true_or, or_true, true_and, and_true, false_or, or_false, not_true_eq_false, not_false_eq_true, Classical.not_not, nar_b0, nar_b1, rz_0, rz_1, rz_i, ite01, Nat.add_zero, Nat.zero_add, Nat.one_mul, mul12, reduceIte, ra_z0, Nat.reduceEqDiff, Nat.reduceLT, Nat.reduceLeDiff, Nat.reduceAdd, Nat.reduceMul, Nat.reduceSub, Nat.reduceDiv, Nat.reduceMod, Bool.false_eq_true, false_and, and_false, reduceCtorEq, Nat.lt_irrefl, dn_sub]
  exact e
end
