/-! could: sets of missing lines that fill a gap -/
theorem fo_add {σ : Type} (st : Nat → σ → σ) : ∀ (n m i : Nat) (s : σ), fo st i (n + m) s = fo st (i + n) m (fo st i n s) := by
  intro n
  induction n with
  | zero => intro m i s; rw [Nat.zero_add]; rfl
  | succ n ih =>
    intro m i s
    rw [show n + 1 + m = (n + m) + 1 by omega, fo, fo, ih m (i + 1) (st i s), show i + 1 + n = i + (n + 1) by omega]
theorem fo_no {σ : Type} {st : Nat → σ → σ} : ∀ (n i : Nat) (s : σ), (∀ k s, i ≤ k → k < i + n → st k s = s) → fo st i n s = s := by
  intro n
  induction n with
  | zero => intro i s _; rfl
  | succ n ih =>
    intro i s h
    rw [fo, h i s (by omega) (by omega)]
    exact ih (i + 1) s (fun k s h1 h2 => h k s (by omega) (by omega))
theorem fo_win {σ : Type} (st : Nat → σ → σ) (P : Nat → Prop) [DecidablePred P] {lo d n : Nat} (h1 : ∀ k, k < lo → ¬ P k) (h2 : ∀ k, lo ≤ k → k < lo + d → P k) (h3 : ∀ k, lo + d ≤ k → k < n → ¬ P k) (hn : lo + d ≤ n) (s : σ) : fo (fun k s => if P k then st k s else s) 0 n s = fo st lo d s := by
  rw [show n = lo + (d + (n - (lo + d))) by omega, fo_add, fo_add, fo_no lo 0 s (fun k s _ h => if_neg (h1 k (by omega))), fo_no (n - (lo + d)) _ _ (fun k s h h' => if_neg (h3 k (by omega) (by omega))), Nat.zero_add]
  exact fo_congr d lo s (fun k s h h' => if_pos (h2 k h h'))
/-- with one more line, so thick -/
def kn (t : Nat) (f : Nat → Int32) (k : Nat) : Int32 := if t ≤ k then f k + f (k - t) else f k
theorem kn_cg {t : Nat} {f f' : Nat → Int32} (h : ∀ k, k < 361 → f k = f' k) : ∀ k, k < 361 → kn t f k = kn t f' k := by
  intro k hk
  unfold kn
  rw [h k hk, h (k - t) (by omega)]
def coF (T : Nat → Nat) (ln : Int32) (G L : Nat) (ls : Nat) : Nat → Int32 := fo (fun l f => if n3 l = ln ∨ G.testBit l = true then f else kn (T l) f) 0 L (fun k => if k = ls then n3 1 else n3 0)
def coS (f : Nat → Int32) (fr : Int) (sl : Nat) : Int32 := fo (fun k s => if (k : Int) ≤ fr ∧ fr - sl ≤ k then s + f k else s) 0 361 (n3 0)
section
variable (N : Nat) (κ : hk_T)
theorem c_addToSets {t : Nat} (h1 : 1 ≤ t) (h2 : t ≤ 360) (hN : 1000 < N) : ∃ κ', fX3_addToSets N 40 (n3 t) (hp κ) = some (hp κ') ∧ same [54] [] κ κ' ∧ ∀ k, k < 361 → hk_A κ' 54 k = kn t (hk_A κ 54) k := by
  obtain ⟨m', s', e, i1, i2⟩ := lpx (fun m i (r : hk_T) => nX3_addToSets_4 N m 40 (n3 t) (n3 (360 - i)) (hp r)) (361 - t) (fun i r => same [54] [] κ r ∧ ∀ k, k < 361 → hk_A r 54 k = if 360 < k + i then kn t (hk_A κ 54) k else hk_A κ 54 k) (by
    rintro m i r hi ⟨i1, i2⟩
    have c : ¬ 360 - i < t := by omega
    have v1 := i2 (360 - i) (by omega)
    rw [if_neg (by omega)] at v1
    have v2 := i2 (360 - i - t) (by omega)
    rw [if_neg (by omega)] at v2
    refine ⟨hk_wA r 54 (360 - i) (hk_A κ 54 (360 - i) + hk_A κ 54 (360 - i - t)), ?_, i1.wA (by decide), ?_⟩
    · rw [nX3_addToSets_4, show 360 - (i + 1) = 360 - i - 1 by omega]
      simp (maxSteps := 400000) (disch := omega) only [n3_l, n3_add, n3_mul, n3_sub, n3_subn, n3_lt, n3_le, n3_eq, n3_eqn, n3_neq, n3_and, n3_or, n3_shl, n3_i, n3_cl, ↓hbd_0, ↓hbd_1, ↓hbd_2, hk_ob_0, hk_rd_0, hk_rd_1, hk_rd_2, hk_al_0, hk_al_1, h3r_0, h3r_1, hk_wi_0, hk_wj_0, h3w_0, h3w_1, h3v_0, hk_kI, hk_kJ, hk_kA, hk_kB, A_eq, A_ne, A_row, B_eq, B_ne, B_row, I_eq, I_ne, J_eq, J_ne, Option.bind_some, Option.some.injEq, if_true, if_false, eq_self, true_or, or_true, true_and, and_true, false_or, or_false, not_true_eq_false, not_false_eq_true, Classical.not_not, nar_b0, nar_b1, rz_0, rz_1, rz_i, ite01, Nat.add_zero, Nat.zero_add, Nat.one_mul, mul12, reduceIte, ra_z0, Nat.reduceEqDiff, Nat.reduceLT, Nat.reduceLeDiff, Nat.reduceAdd, Nat.reduceMul, Nat.reduceSub, Nat.reduceDiv, Nat.reduceMod, Bool.false_eq_true, false_and, and_false, reduceCtorEq, c, v1, v2]
    · intro k hk
      by_cases ek : k = 360 - i
      · rw [ek, A_eq rfl, if_pos (by omega)]
        unfold kn
        rw [if_pos (by omega)]
      · rw [A_ne (Or.inr ek), i2 k hk]
        by_cases c2 : 360 < k + i
        · rw [if_pos c2, if_pos (by omega)]
        · rw [if_neg c2, if_neg (by omega)]) (361 - t) 0 N κ (by omega) (by omega) ⟨same.refl _ _ _, fun k hk => by rw [if_neg (by omega)]⟩
  refine ⟨s', ?_, i1, ?_⟩
  · have e0 : nX3_addToSets_4 N N 40 (n3 t) (n3 360) (hp κ) = nX3_addToSets_4 N (m' + 1) 40 (n3 t) (n3 (360 - (361 - t))) (hp s') := e
    have c : 360 - (361 - t) < t := by omega
    unfold fX3_addToSets nX3_addToSets_0
    simp (maxSteps := 400000) (disch := omega) only [n3_l, n3_add, n3_mul, n3_sub, n3_subn, n3_lt, n3_le, n3_eq, n3_eqn, n3_neq, n3_and, n3_or, n3_shl, n3_i, n3_cl, ↓hbd_0, ↓hbd_1, ↓hbd_2, hk_ob_0, hk_rd_0, hk_rd_1, hk_rd_2, hk_al_0, hk_al_1, h3r_0, h3r_1, hk_wi_0, hk_wj_0, h3w_0, h3w_1, h3v_0, hk_kI, hk_kJ, hk_kA, hk_kB, A_eq, A_ne, A_row, B_eq, B_ne, B_row, I_eq, I_ne, J_eq, J_ne, Option.bind_some, Option.some.injEq, if_true, if_false, eq_self, true_or, or_true, true_and, and_true, false_or, or_false, not_true_eq_false, not_false_eq_true, Classical.not_not, nar_b0, nar_b1, rz_0, rz_1, rz_i, ite01, Nat.add_zero, Nat.zero_add, Nat.one_mul, mul12, reduceIte, ra_z0, Nat.reduceEqDiff, Nat.reduceLT, Nat.reduceLeDiff, Nat.reduceAdd, Nat.reduceMul, Nat.reduceSub, Nat.reduceDiv, Nat.reduceMod, Bool.false_eq_true, false_and, and_false, reduceCtorEq]
    rw [e0, nX3_addToSets_4]
    simp (maxSteps := 400000) (disch := omega) only [n3_l, n3_add, n3_mul, n3_sub, n3_subn, n3_lt, n3_le, n3_eq, n3_eqn, n3_neq, n3_and, n3_or, n3_shl, n3_i, n3_cl, ↓hbd_0, ↓hbd_1, ↓hbd_2, hk_ob_0, hk_rd_0, hk_rd_1, hk_rd_2, hk_al_0, hk_al_1, h3r_0, h3r_1, hk_wi_0, hk_wj_0, h3w_0, h3w_1, h3v_0, hk_kI, hk_kJ, hk_kA, hk_kB, A_eq, A_ne, A_row, B_eq, B_ne, B_row, I_eq, I_ne, J_eq, J_ne, Option.bind_some, Option.some.injEq, if_true, if_false, eq_self, true_or, or_true, true_and, and_true, false_or, or_false, not_true_eq_false, not_false_eq_true, Classical.not_not, nar_b0, nar_b1, rz_0, rz_1, rz_i, ite01, Nat.add_zero, Nat.zero_add, Nat.one_mul, mul12, reduceIte, ra_z0, Nat.reduceEqDiff, Nat.reduceLT, Nat.reduceLeDiff, Nat.reduceAdd, Nat.reduceMul, Nat.reduceSub, Nat.reduceDiv, Nat.reduceMod, Bool.false_eq_true, false_and, and_false, reduceCtorEq, c]
  · intro k hk
    rw [i2 k hk]
    by_cases c : 360 < k + (361 - t)
    · rw [if_pos c]
    · rw [if_neg c]; unfold kn; rw [if_neg (by omega)]
theorem c_sumSets {f : Nat → Int32} {fr : Int} {sl : Nat} (hf : ∀ k, k < 361 → hk_A κ 54 k = f k) (h1 : -100000 ≤ fr) (h2 : fr ≤ 100000) (h3 : sl ≤ 400) (hN : 1000 < N) :
    nX3_countMissingSets_115 N N 40 (z3 fr) (n3 0) (if n3 0 < z3 fr - n3 sl then z3 fr - n3 sl else n3 0) (hp κ) = some (coS f fr sl, hp κ) := by
  have e1 : z3 fr - n3 sl = z3 (fr - sl) := by rw [z3_n, z3_sub]
  have e2 : (if n3 0 < z3 fr - n3 sl then z3 fr - n3 sl else n3 0) = n3 (fr - sl).toNat := by
    rw [e1, z3_n 0, z3_n (fr - sl).toNat]
    have hz : z3 ((0 : Nat) : Int) < z3 (fr - sl) ↔ ((0 : Nat) : Int) < fr - sl := z3_lt (by omega) (by omega) (by omega) (by omega)
    by_cases c : (0 : Int) < fr - sl
    · rw [if_pos (hz.mpr c)]
      congr 1
      omega
    · rw [if_neg (fun z => c (hz.mp z))]
      congr 1
      omega
  have top : ∀ k : Nat, k < 200000 → (n3 k ≤ (if n3 360 < z3 fr then n3 360 else z3 fr) ↔ (k : Int) ≤ fr ∧ k ≤ 360) := by
    intro k hk
    have hz : n3 360 < z3 fr ↔ (360 : Int) < fr := by rw [z3_n]; exact z3_lt (by omega) (by omega) (by omega) (by omega)
    by_cases c : (360 : Int) < fr
    · rw [if_pos (hz.mpr c), n3_le (by omega) (by omega)]
      omega
    · rw [if_neg (fun z => c (hz.mp z)), z3_n k]
      rw [z3_le (by omega) (by omega) (by omega) (by omega)]
      omega
  rw [e2]
  unfold coS
  obtain ⟨lo, hlo⟩ : ∃ lo, lo = (fr - sl).toNat := ⟨_, rfl⟩
  rw [← hlo]
  by_cases c : (lo : Int) ≤ fr ∧ lo ≤ 360
  · obtain ⟨d, hd⟩ : ∃ d, (lo + d : Nat) = (if 360 < fr then 360 else fr.toNat) + 1 := by
      by_cases c2 : 360 < fr
      · exact ⟨361 - lo, by rw [if_pos c2]; omega⟩
      · exact ⟨fr.toNat + 1 - lo, by rw [if_neg c2]; omega⟩
    have hn : (lo + d : Nat) ≤ 361 ∧ ((lo + d : Nat) : Int) ≤ fr + 1 ∧ (lo + d = 361 ∨ ((lo + d : Nat) : Int) = fr + 1) := by
      split at hd <;> omega
    rw [fo_win (fun k s => s + f k) (fun k => (k : Int) ≤ fr ∧ fr - sl ≤ k) (lo := lo) (d := d) (by intro k hk; omega) (by intro k g1 g2; omega) (by
      intro k hk hk'
      rcases hn.2.2 with h | h
      · omega
      · omega) hn.1]
    refine (lp (fun m k (s : Int32) => nX3_countMissingSets_115 N m 40 (z3 fr) s (n3 k) (hp κ)) (lo + d) (fun k s => s + f k) (fun s => some (s, hp κ)) (fun k _ => lo ≤ k) ?_ ?_ d lo N (n3 0) rfl (by omega) (Nat.le_refl _)).1
    · intro m k s hk hl
      refine ⟨?_, by omega⟩
      have t := (top k (by omega)).mpr (by omega)
      rw [nX3_countMissingSets_115]
      simp (maxSteps := 400000) (disch := omega) only [n3_l, n3_add, n3_mul, n3_sub, n3_subn, n3_lt, n3_le, n3_eq, n3_eqn, n3_neq, n3_and, n3_or, n3_shl, n3_i, n3_cl, ↓hbd_0, ↓hbd_1, ↓hbd_2, hk_ob_0, hk_rd_0, hk_rd_1, hk_rd_2, hk_al_0, hk_al_1, h3r_0, h3r_1, hk_wi_0, hk_wj_0, h3w_0, h3w_1, h3v_0, hk_kI, hk_kJ, hk_kA, hk_kB, A_eq, A_ne, A_row, B_eq, B_ne, B_row, I_eq, I_ne, J_eq, J_ne, Option.bind_some, Option.some.injEq, if_true, if_false, eq_self, true_or, or_true, true_and, and_true, false_or, or_false, not_true_eq_false, not_false_eq_true, Classical.not_not, nar_b0, nar_b1, rz_0, rz_1, rz_i, ite01, Nat.add_zero, Nat.zero_add, Nat.one_mul, mul12, reduceIte, ra_z0, Nat.reduceEqDiff, Nat.reduceLT, Nat.reduceLeDiff, Nat.reduceAdd, Nat.reduceMul, Nat.reduceSub, Nat.reduceDiv, Nat.reduceMod, Bool.false_eq_true, false_and, and_false, reduceCtorEq, t, hf k (by omega)]
    · intro m s hl
      have t : ¬ n3 (lo + d) ≤ (if n3 360 < z3 fr then n3 360 else z3 fr) := fun z => by
        have := (top (lo + d) (by omega)).mp z
        omega
      rw [nX3_countMissingSets_115]
      simp (maxSteps := 400000) (disch := omega) only [n3_l, n3_add, n3_mul, n3_sub, n3_subn, n3_lt, n3_le, n3_eq, n3_eqn, n3_neq, n3_and, n3_or, n3_shl, n3_i, n3_cl, ↓hbd_0, ↓hbd_1, ↓hbd_2, hk_ob_0, hk_rd_0, hk_rd_1, hk_rd_2, hk_al_0, hk_al_1, h3r_0, h3r_1, hk_wi_0, hk_wj_0, h3w_0, h3w_1, h3v_0, hk_kI, hk_kJ, hk_kA, hk_kB, A_eq, A_ne, A_row, B_eq, B_ne, B_row, I_eq, I_ne, J_eq, J_ne, Option.bind_some, Option.some.injEq, if_true, if_false, eq_self, true_or, or_true, true_and, and_true, false_or, or_false, not_true_eq_false, not_false_eq_true, Classical.not_not, nar_b0, nar_b1, rz_0, rz_1, rz_i, ite01, Nat.add_zero, Nat.zero_add, Nat.one_mul, mul12, reduceIte, ra_z0, Nat.reduceEqDiff, Nat.reduceLT, Nat.reduceLeDiff, Nat.reduceAdd, Nat.reduceMul, Nat.reduceSub, Nat.reduceDiv, Nat.reduceMod, Bool.false_eq_true, false_and, and_false, reduceCtorEq, t]
  · rw [fo_no 361 0 (n3 0) (fun k s h h' => if_neg (by omega))]
    have t : ¬ n3 lo ≤ (if n3 360 < z3 fr then n3 360 else z3 fr) := fun z => c ((top lo (by omega)).mp z)
    obtain ⟨N', hN'⟩ : ∃ N', N = N' + 1 := ⟨N - 1, by omega⟩
    have e3 : nX3_countMissingSets_115 N N 40 (z3 fr) (n3 0) (n3 lo) (hp κ) = nX3_countMissingSets_115 N (N' + 1) 40 (z3 fr) (n3 0) (n3 lo) (hp κ) := by rw [← hN']
    rw [e3, nX3_countMissingSets_115]
    simp (maxSteps := 400000) (disch := omega) only [n3_l, n3_add, n3_mul, n3_sub, n3_subn, n3_lt, n3_le, n3_eq, n3_eqn, n3_neq, n3_and, n3_or, n3_shl, n3_i, n3_cl, ↓hbd_0, ↓hbd_1, ↓hbd_2, hk_ob_0, hk_rd_0, hk_rd_1, hk_rd_2, hk_al_0, hk_al_1, h3r_0, h3r_1, hk_wi_0, hk_wj_0, h3w_0, h3w_1, h3v_0, hk_kI, hk_kJ, hk_kA, hk_kB, A_eq, A_ne, A_row, B_eq, B_ne, B_row, I_eq, I_ne, J_eq, J_ne, Option.bind_some, Option.some.injEq, if_true, if_false, eq_self, true_or, or_true, true_and, and_true, false_or, or_false, not_true_eq_false, not_false_eq_true, Classical.not_not, nar_b0, nar_b1, rz_0, rz_1, rz_i, ite01, Nat.add_zero, Nat.zero_add, Nat.one_mul, mul12, reduceIte, ra_z0, Nat.reduceEqDiff, Nat.reduceLT, Nat.reduceLeDiff, Nat.reduceAdd, Nat.reduceMul, Nat.reduceSub, Nat.reduceDiv, Nat.reduceMod, Bool.false_eq_true, false_and, and_false, reduceCtorEq, t]
end

section
variable (N : Nat) (κ : hk_T)
theorem c_countMissing {fr : Int} {sl L G ls : Nat} {T : Nat → Nat} {ln : Int32} (hLi : hk_I κ 1 15 = n3 L) (h12 : L ≤ 12) (hg : hk_I κ 40 15 = n3 G) (hG : G < 4096) (hT : ∀ l, l < L → hk_A κ 7 (12 * l + 3) = n3 (T l)) (hT1 : ∀ l, l < L → 1 ≤ T l ∧ T l ≤ 360) (hl : (ln = -n3 1 ∧ ls = 0) ∨ ∃ l0, l0 < L ∧ ln = n3 l0 ∧ ¬ G.testBit l0 = true ∧ ls = T l0)
    (h1 : -100000 ≤ fr) (h2 : fr ≤ 100000) (h3 : sl ≤ 400) (hN : 1000 < N) : ∃ κ', fX3_countMissingSets N 40 (z3 fr) (n3 sl) ln (hp κ) = some (coS (coF T ln G L ls) fr sl, hp κ') ∧ same [54] [] κ κ' := by
  obtain ⟨κ1, e1, s1, v1⟩ := f_fill3 N κ (k := 54) (n := 361) rfl (by omega) (by omega) (n3 0)
  have hls : ls < 361 := by
    rcases hl with ⟨-, h⟩ | ⟨l0, h, -, -, h'⟩
    · omega
    · have := hT1 l0 h; omega
  obtain ⟨m', s', e, i1, i2⟩ := lpx (fun m l (r : hk_T) => nX3_countMissingSets_53 N m 40 (z3 fr) (n3 sl) ln (n3 l) (hp r)) L (fun l r => same [54] [] κ r ∧ ∀ k, k < 361 → hk_A r 54 k = coF T ln G l ls k) (by
    rintro m l r hl ⟨i1, i2⟩
    have r15 : hk_I r 1 15 = n3 L := by rw [i1.2.2.1 1 15 (by decide)]; exact hLi
    have rg : hk_I r 40 15 = n3 G := by rw [i1.2.2.1 40 15 (by decide)]; exact hg
    have r7 : hk_A r 7 (12 * l + 3) = n3 (T l) := by rw [i1.1 7 (by decide)]; exact hT l hl
    have stp : coF T ln G (l + 1) ls = if n3 l = ln ∨ G.testBit l = true then coF T ln G l ls else kn (T l) (coF T ln G l ls) := by
      unfold coF
      rw [fo_last, Nat.zero_add]
    by_cases c : n3 l = ln
    · refine ⟨r, ?_, i1, ?_⟩
      · rw [nX3_countMissingSets_53, ← c]
        simp (maxSteps := 400000) (disch := omega) only [n3_l, n3_add, n3_mul, n3_sub, n3_subn, n3_lt, n3_le, n3_eq, n3_eqn, n3_neq, n3_and, n3_or, n3_shl, n3_i, n3_cl, ↓hbd_0, ↓hbd_1, ↓hbd_2, hk_ob_0, hk_rd_0, hk_rd_1, hk_rd_2, hk_al_0, hk_al_1, h3r_0, h3r_1, hk_wi_0, hk_wj_0, h3w_0, h3w_1, h3v_0, hk_kI, hk_kJ, hk_kA, hk_kB, A_eq, A_ne, A_row, B_eq, B_ne, B_row, I_eq, I_ne, J_eq, J_ne, Option.bind_some, Option.some.injEq, if_true, if_false, eq_self, true_or, or_true, true_and, and_true, false_or, or_false, not_true_eq_false, not_false_eq_true, Classical.not_not, nar_b0, nar_b1, rz_0, rz_1, rz_i, ite01, Nat.add_zero, Nat.zero_add, Nat.one_mul, mul12, reduceIte, ra_z0, Nat.reduceEqDiff, Nat.reduceLT, Nat.reduceLeDiff, Nat.reduceAdd, Nat.reduceMul, Nat.reduceSub, Nat.reduceDiv, Nat.reduceMod, Bool.false_eq_true, false_and, and_false, reduceCtorEq, r15, hl, nX3_countMissingSets_97]
      · rw [stp, if_pos (Or.inl c)]; exact i2
    · by_cases c2 : G.testBit l = true
      · refine ⟨r, ?_, i1, ?_⟩
        · rw [nX3_countMissingSets_53]
          simp (maxSteps := 400000) (disch := omega) only [n3_l, n3_add, n3_mul, n3_sub, n3_subn, n3_lt, n3_le, n3_eq, n3_eqn, n3_neq, n3_and, n3_or, n3_shl, n3_i, n3_cl, ↓hbd_0, ↓hbd_1, ↓hbd_2, hk_ob_0, hk_rd_0, hk_rd_1, hk_rd_2, hk_al_0, hk_al_1, h3r_0, h3r_1, hk_wi_0, hk_wj_0, h3w_0, h3w_1, h3v_0, hk_kI, hk_kJ, hk_kA, hk_kB, A_eq, A_ne, A_row, B_eq, B_ne, B_row, I_eq, I_ne, J_eq, J_ne, Option.bind_some, Option.some.injEq, if_true, if_false, eq_self, true_or, or_true, true_and, and_true, false_or, or_false, not_true_eq_false, not_false_eq_true, Classical.not_not, nar_b0, nar_b1, rz_0, rz_1, rz_i, ite01, Nat.add_zero, Nat.zero_add, Nat.one_mul, mul12, reduceIte, ra_z0, Nat.reduceEqDiff, Nat.reduceLT, Nat.reduceLeDiff, Nat.reduceAdd, Nat.reduceMul, Nat.reduceSub, Nat.reduceDiv, Nat.reduceMod, Bool.false_eq_true, false_and, and_false, reduceCtorEq, r15, hl, c, rg, n3_shl, bit_and, c2, nX3_countMissingSets_97]
        · rw [stp, if_pos (Or.inr c2)]; exact i2
      · obtain ⟨r1, e2, s2, v2⟩ := c_addToSets N r (t := T l) (hT1 l hl).1 (hT1 l hl).2 hN
        have lf := h_lineFact N r (b := l) (f := 3) (by omega) (by omega)
        rw [r7] at lf
        refine ⟨r1, ?_, i1.trans s2, ?_⟩
        · rw [nX3_countMissingSets_53]
          simp (maxSteps := 400000) (disch := omega) only [n3_l, n3_add, n3_mul, n3_sub, n3_subn, n3_lt, n3_le, n3_eq, n3_eqn, n3_neq, n3_and, n3_or, n3_shl, n3_i, n3_cl, ↓hbd_0, ↓hbd_1, ↓hbd_2, hk_ob_0, hk_rd_0, hk_rd_1, hk_rd_2, hk_al_0, hk_al_1, h3r_0, h3r_1, hk_wi_0, hk_wj_0, h3w_0, h3w_1, h3v_0, hk_kI, hk_kJ, hk_kA, hk_kB, A_eq, A_ne, A_row, B_eq, B_ne, B_row, I_eq, I_ne, J_eq, J_ne, Option.bind_some, Option.some.injEq, if_true, if_false, eq_self, true_or, or_true, true_and, and_true, false_or, or_false, not_true_eq_false, not_false_eq_true, Classical.not_not, nar_b0, nar_b1, rz_0, rz_1, rz_i, ite01, Nat.add_zero, Nat.zero_add, Nat.one_mul, mul12, reduceIte, ra_z0, Nat.reduceEqDiff, Nat.reduceLT, Nat.reduceLeDiff, Nat.reduceAdd, Nat.reduceMul, Nat.reduceSub, Nat.reduceDiv, Nat.reduceMod, Bool.false_eq_true, false_and, and_false, reduceCtorEq, r15, hl, c, rg, n3_shl, bit_and, c2, lf, e2, nX3_countMissingSets_97]
        · rw [stp, if_neg (fun z => by rcases z with z | z; exact c z; exact c2 z)]
          intro k hk
          rw [v2 k hk]
          exact kn_cg i2 k hk) L 0 N (hk_wA κ1 54 ls (n3 1)) (by omega) (by omega) ⟨s1.wA (by decide), fun k hk => by
      show _ = (if k = ls then n3 1 else n3 0)
      by_cases ek : k = ls
      · rw [if_pos ek, A_eq ek]
      · rw [if_neg ek, A_ne (Or.inr ek), v1 k, if_pos hk]⟩
  have e0 : nX3_countMissingSets_53 N N 40 (z3 fr) (n3 sl) ln (n3 0) (hp (hk_wA κ1 54 ls (n3 1))) = nX3_countMissingSets_53 N (m' + 1) 40 (z3 fr) (n3 sl) ln (n3 L) (hp s') := e
  have r15 : hk_I s' 1 15 = n3 L := by rw [i1.2.2.1 1 15 (by decide)]; exact hLi
  have ss := c_sumSets N s' i2 h1 h2 h3 hN
  have fin : nX3_countMissingSets_53 N (m' + 1) 40 (z3 fr) (n3 sl) ln (n3 L) (hp s') = some (coS (coF T ln G L ls) fr sl, hp s') := by
    rw [nX3_countMissingSets_53]
    simp (disch := omega) only [n3_l, n3_lt, hk_ob_0, hk_rd_0, hk_rd_1, hk_rd_2, Option.bind_some, if_false, r15, Nat.lt_irrefl, ra_z0]
    exact ss
  refine ⟨s', ?_, i1⟩
  unfold fX3_countMissingSets nX3_countMissingSets_0
  rcases hl with ⟨hl1, hl2⟩ | ⟨l0, g1, g2, g3, g4⟩
  · subst hl1
    rw [hl2] at e0
    simp (maxSteps := 400000) (disch := omega) only [n3_l, n3_add, n3_mul, n3_sub, n3_subn, n3_lt, n3_le, n3_eq, n3_eqn, n3_neq, n3_and, n3_or, n3_shl, n3_i, n3_cl, ↓hbd_0, ↓hbd_1, ↓hbd_2, hk_ob_0, hk_rd_0, hk_rd_1, hk_rd_2, hk_al_0, hk_al_1, h3r_0, h3r_1, hk_wi_0, hk_wj_0, h3w_0, h3w_1, h3v_0, hk_kI, hk_kJ, hk_kA, hk_kB, A_eq, A_ne, A_row, B_eq, B_ne, B_row, I_eq, I_ne, J_eq, J_ne, Option.bind_some, Option.some.injEq, if_true, if_false, eq_self, true_or, or_true, true_and, and_true, false_or, or_false, not_true_eq_false, not_false_eq_true, Classical.not_not, nar_b0, nar_b1, rz_0, rz_1, rz_i, ite01, Nat.add_zero, Nat.zero_add, Nat.one_mul, mul12, reduceIte, ra_z0, Nat.reduceEqDiff, Nat.reduceLT, Nat.reduceLeDiff, Nat.reduceAdd, Nat.reduceMul, Nat.reduceSub, Nat.reduceDiv, Nat.reduceMod, Bool.false_eq_true, false_and, and_false, reduceCtorEq, nX3_countMissingSets_18, e1, nX3_countMissingSets_48]
    rw [e0, fin]
  · have hn1 : ¬ ln = -n3 1 := by rw [g2]; exact fun z => (n3_eqn (by omega) (by omega) (by omega)).mp z
    have r7 : hk_A κ1 7 (12 * l0 + 3) = n3 (T l0) := by rw [s1.1 7 (by decide)]; exact hT l0 g1
    have lf := h_lineFact N κ1 (b := l0) (f := 3) (by omega) (by omega)
    rw [r7] at lf
    have ht := hT1 l0 g1
    rw [g4, g2] at e0
    rw [g2] at hn1 fin ⊢
    simp (maxSteps := 400000) (disch := omega) only [n3_l, n3_add, n3_mul, n3_sub, n3_subn, n3_lt, n3_le, n3_eq, n3_eqn, n3_neq, n3_and, n3_or, n3_shl, n3_i, n3_cl, ↓hbd_0, ↓hbd_1, ↓hbd_2, hk_ob_0, hk_rd_0, hk_rd_1, hk_rd_2, hk_al_0, hk_al_1, h3r_0, h3r_1, hk_wi_0, hk_wj_0, h3w_0, h3w_1, h3v_0, hk_kI, hk_kJ, hk_kA, hk_kB, A_eq, A_ne, A_row, B_eq, B_ne, B_row, I_eq, I_ne, J_eq, J_ne, Option.bind_some, Option.some.injEq, if_true, if_false, eq_self, true_or, or_true, true_and, and_true, false_or, or_false, not_true_eq_false, not_false_eq_true, Classical.not_not, nar_b0, nar_b1, rz_0, rz_1, rz_i, ite01, Nat.add_zero, Nat.zero_add, Nat.one_mul, mul12, reduceIte, ra_z0, Nat.reduceEqDiff, Nat.reduceLT, Nat.reduceLeDiff, Nat.reduceAdd, Nat.reduceMul, Nat.reduceSub, Nat.reduceDiv, Nat.reduceMod, Bool.false_eq_true, false_and, and_false, reduceCtorEq, hn1, hg, n3_shl, bit_and, g3, nX3_countMissingSets_18, e1, lf, nX3_countMissingSets_48]
    rw [e0, fin]
theorem c_countMissing0 {a1 a2 : Int32} {G L l0 : Nat} (h12 : L ≤ 12) (hg : hk_I κ 40 15 = n3 G) (hG : G < 4096) (hl : l0 < L) (hb : G.testBit l0 = true) : fX3_countMissingSets N 40 a1 a2 (n3 l0) (hp κ) = some (n3 0, hp κ) := by
  have hn1 : ¬ n3 l0 = -n3 1 := fun z => (n3_eqn (by omega) (by omega) (by omega)).mp z
  unfold fX3_countMissingSets nX3_countMissingSets_0
  simp (maxSteps := 400000) (disch := omega) only [n3_l, n3_add, n3_mul, n3_sub, n3_subn, n3_lt, n3_le, n3_eq, n3_eqn, n3_neq, n3_and, n3_or, n3_shl, n3_i, n3_cl, ↓hbd_0, ↓hbd_1, ↓hbd_2, hk_ob_0, hk_rd_0, hk_rd_1, hk_rd_2, hk_al_0, hk_al_1, h3r_0, h3r_1, hk_wi_0, hk_wj_0, h3w_0, h3w_1, h3v_0, hk_kI, hk_kJ, hk_kA, hk_kB, A_eq, A_ne, A_row, B_eq, B_ne, B_row, I_eq, I_ne, J_eq, J_ne, Option.bind_some, Option.some.injEq, if_true, if_false, eq_self, true_or, or_true, true_and, and_true, false_or, or_false, not_true_eq_false, not_false_eq_true, Classical.not_not, nar_b0, nar_b1, rz_0, rz_1, rz_i, ite01, Nat.add_zero, Nat.zero_add, Nat.one_mul, mul12, reduceIte, ra_z0, Nat.reduceEqDiff, Nat.reduceLT, Nat.reduceLeDiff, Nat.reduceAdd, Nat.reduceMul, Nat.reduceSub, Nat.reduceDiv, Nat.reduceMod, Bool.false_eq_true, false_and, and_false, reduceCtorEq, hn1, hg, n3_shl, bit_and, hb]
end

/-! the reference's could -/
section
variable (N : Nat) (κ : hk_T)
theorem r_addToSets {a : Nat → Nat → Int} {nB L l t : Nat} {sl ln fr : Int32} {c158 : Nat → Int32 → Int32 → Int32 → Int32 → ra_H → Option (Int32 × ra_H)} (h480 : hk_A κ 71 480 = n3 nB) (h40 : nB ≤ 40) (hL : L ≤ 12) (h95 : ∀ b, b < nB → hk_A κ 95 b = n3 (its a L nB b)) (hl : l < L) (hln : ¬ n3 l = ln) (hb : ¬ (gvS a L nB nB).testBit l = true) (h1 : 1 ≤ t) (h2 : t ≤ 360) (hN : 1000 < N) :
    ∃ κ', nX12_could_194 N c158 N 69 sl ln fr (n3 l) (n3 t) (n3 360) (hp κ) = c158 69 sl ln fr (n3 (l + 1)) (hp κ') ∧ same [97] [] κ κ' ∧ ∀ k, k < 361 → hk_A κ' 97 k = kn t (hk_A κ 97) k := by
  obtain ⟨m', s', e, i1, i2⟩ := lpx (fun m i (r : hk_T) => nX12_could_194 N c158 m 69 sl ln fr (n3 l) (n3 t) (n3 (360 - i)) (hp r)) (361 - t) (fun i r => same [97] [] κ r ∧ ∀ k, k < 361 → hk_A r 97 k = if 360 < k + i then kn t (hk_A κ 97) k else hk_A κ 97 k) (by
    rintro m i r hi ⟨i1, i2⟩
    have c : ¬ 360 - i < t := by omega
    have v1 := i2 (360 - i) (by omega)
    rw [if_neg (by omega)] at v1
    have v2 := i2 (360 - i - t) (by omega)
    rw [if_neg (by omega)] at v2
    obtain ⟨v, e1, e2⟩ := r_bookOf N r (a := a) (L := L) (l := l) (by rw [i1.1 71 (by decide)]; exact h480) h40 hL (by rw [i1.1 95 (by decide)]; exact h95) hl hN
    have e3 := e2.mpr hb
    rw [e3] at e1
    refine ⟨hk_wA r 97 (360 - i) (hk_A κ 97 (360 - i) + hk_A κ 97 (360 - i - t)), ?_, i1.wA (by decide), ?_⟩
    · rw [nX12_could_194, show 360 - (i + 1) = 360 - i - 1 by omega]
      simp (maxSteps := 400000) (disch := omega) only [n3_l, n3_add, n3_mul, n3_sub, n3_subn, n3_lt, n3_le, n3_eq, n3_eqn, n3_neq, n3_and, n3_or, n3_shl, n3_i, n3_cl, ↓hbd_0, ↓hbd_1, ↓hbd_2, hk_ob_0, hk_rd_0, hk_rd_1, hk_rd_2, hk_al_0, hk_al_1, h3r_0, h3r_1, hk_wi_0, hk_wj_0, h3w_0, h3w_1, h3v_0, hk_kI, hk_kJ, hk_kA, hk_kB, A_eq, A_ne, A_row, B_eq, B_ne, B_row, I_eq, I_ne, J_eq, J_ne, Option.bind_some, Option.some.injEq, if_true, if_false, eq_self, true_or, or_true, true_and, and_true, false_or, or_false, not_true_eq_false, not_false_eq_true, Classical.not_not, nar_b0, nar_b1, rz_0, rz_1, rz_i, ite01, Nat.add_zero, Nat.zero_add, Nat.one_mul, mul12, reduceIte, ra_z0, Nat.reduceEqDiff, Nat.reduceLT, Nat.reduceLeDiff, Nat.reduceAdd, Nat.reduceMul, Nat.reduceSub, Nat.reduceDiv, Nat.reduceMod, Bool.false_eq_true, false_and, and_false, reduceCtorEq, c, hln, e1, v1, v2]
    · intro k hk
      by_cases ek : k = 360 - i
      · rw [ek, A_eq rfl, if_pos (by omega)]
        unfold kn
        rw [if_pos (by omega)]
      · rw [A_ne (Or.inr ek), i2 k hk]
        by_cases c2 : 360 < k + i
        · rw [if_pos c2, if_pos (by omega)]
        · rw [if_neg c2, if_neg (by omega)]) (361 - t) 0 N κ (by omega) (by omega) ⟨same.refl _ _ _, fun k hk => by rw [if_neg (by omega)]⟩
  refine ⟨s', ?_, i1, ?_⟩
  · have e0 : nX12_could_194 N c158 N 69 sl ln fr (n3 l) (n3 t) (n3 360) (hp κ) = nX12_could_194 N c158 (m' + 1) 69 sl ln fr (n3 l) (n3 t) (n3 (360 - (361 - t))) (hp s') := e
    have c : 360 - (361 - t) < t := by omega
    rw [e0, nX12_could_194]
    simp (maxSteps := 400000) (disch := omega) only [n3_l, n3_add, n3_mul, n3_sub, n3_subn, n3_lt, n3_le, n3_eq, n3_eqn, n3_neq, n3_and, n3_or, n3_shl, n3_i, n3_cl, ↓hbd_0, ↓hbd_1, ↓hbd_2, hk_ob_0, hk_rd_0, hk_rd_1, hk_rd_2, hk_al_0, hk_al_1, h3r_0, h3r_1, hk_wi_0, hk_wj_0, h3w_0, h3w_1, h3v_0, hk_kI, hk_kJ, hk_kA, hk_kB, A_eq, A_ne, A_row, B_eq, B_ne, B_row, I_eq, I_ne, J_eq, J_ne, Option.bind_some, Option.some.injEq, if_true, if_false, eq_self, true_or, or_true, true_and, and_true, false_or, or_false, not_true_eq_false, not_false_eq_true, Classical.not_not, nar_b0, nar_b1, rz_0, rz_1, rz_i, ite01, Nat.add_zero, Nat.zero_add, Nat.one_mul, mul12, reduceIte, ra_z0, Nat.reduceEqDiff, Nat.reduceLT, Nat.reduceLeDiff, Nat.reduceAdd, Nat.reduceMul, Nat.reduceSub, Nat.reduceDiv, Nat.reduceMod, Bool.false_eq_true, false_and, and_false, reduceCtorEq, c, nX12_could_244]
  · intro k hk
    rw [i2 k hk]
    by_cases c : 360 < k + (361 - t)
    · rw [if_pos c]
    · rw [if_neg c]; unfold kn; rw [if_neg (by omega)]
theorem r_sumSets {f : Nat → Int32} {fr : Int} {sl : Nat} (hf : ∀ k, k < 361 → hk_A κ 97 k = f k) (h1 : -100000 ≤ fr) (h2 : fr ≤ 100000) (h3 : sl ≤ 400) (hN : 1000 < N) :
    nX12_could_256 N N 69 (n3 sl) (z3 fr) (n3 0) (n3 0) (hp κ) = some (coS f fr sl, hp κ) := by
  have e1 : z3 fr - n3 sl = z3 (fr - sl) := by rw [z3_n, z3_sub]
  have key := lp0 (fun m k (s : Int32) => nX12_could_256 N m 69 (n3 sl) (z3 fr) s (n3 k) (hp κ)) 361 (fun k s => if (k : Int) ≤ fr ∧ fr - sl ≤ k then s + f k else s) (fun s => some (if fr < 0 then n3 0 else s, hp κ)) (by
    intro m k s hk
    have z1 : n3 k ≤ z3 fr ↔ (k : Int) ≤ fr := by rw [z3_n]; exact z3_le (by omega) (by omega) (by omega) (by omega)
    have z2 : n3 k < z3 fr - n3 sl ↔ (k : Int) < fr - sl := by rw [e1, z3_n]; exact z3_lt (by omega) (by omega) (by omega) (by omega)
    have z0 : s + n3 0 = s := Int32.add_zero s
    have fk := hf k hk
    rw [nX12_could_256]
    by_cases c1 : (k : Int) ≤ fr
    · by_cases c2 : (k : Int) < fr - sl
      · rw [if_neg (show ¬ ((k : Int) ≤ fr ∧ fr - sl ≤ k) by omega)]
        have y2 := z2.mpr c2
        simp (maxSteps := 400000) (disch := omega) only [n3_l, n3_add, n3_mul, n3_sub, n3_subn, n3_lt, n3_le, n3_eq, n3_eqn, n3_neq, n3_and, n3_or, n3_shl, n3_i, n3_cl, ↓hbd_0, ↓hbd_1, ↓hbd_2, hk_ob_0, hk_rd_0, hk_rd_1, hk_rd_2, hk_al_0, hk_al_1, h3r_0, h3r_1, hk_wi_0, hk_wj_0, h3w_0, h3w_1, h3v_0, hk_kI, hk_kJ, hk_kA, hk_kB, A_eq, A_ne, A_row, B_eq, B_ne, B_row, I_eq, I_ne, J_eq, J_ne, Option.bind_some, Option.some.injEq, if_true, if_false, eq_self, true_or, or_true, true_and, and_true, false_or, or_false, not_true_eq_false, not_false_eq_true, Classical.not_not, nar_b0, nar_b1, rz_0, rz_1, rz_i, ite01, Nat.add_zero, Nat.zero_add, Nat.one_mul, mul12, reduceIte, ra_z0, Nat.reduceEqDiff, Nat.reduceLT, Nat.reduceLeDiff, Nat.reduceAdd, Nat.reduceMul, Nat.reduceSub, Nat.reduceDiv, Nat.reduceMod, Bool.false_eq_true, false_and, and_false, reduceCtorEq, hk, z1, c1, y2, nX12_could_292, nX12_could_293, z0]
      · rw [if_pos (show (k : Int) ≤ fr ∧ fr - sl ≤ k by omega)]
        have y2 : ¬ n3 k < z3 fr - n3 sl := fun z => c2 (z2.mp z)
        simp (maxSteps := 400000) (disch := omega) only [n3_l, n3_add, n3_mul, n3_sub, n3_subn, n3_lt, n3_le, n3_eq, n3_eqn, n3_neq, n3_and, n3_or, n3_shl, n3_i, n3_cl, ↓hbd_0, ↓hbd_1, ↓hbd_2, hk_ob_0, hk_rd_0, hk_rd_1, hk_rd_2, hk_al_0, hk_al_1, h3r_0, h3r_1, hk_wi_0, hk_wj_0, h3w_0, h3w_1, h3v_0, hk_kI, hk_kJ, hk_kA, hk_kB, A_eq, A_ne, A_row, B_eq, B_ne, B_row, I_eq, I_ne, J_eq, J_ne, Option.bind_some, Option.some.injEq, if_true, if_false, eq_self, true_or, or_true, true_and, and_true, false_or, or_false, not_true_eq_false, not_false_eq_true, Classical.not_not, nar_b0, nar_b1, rz_0, rz_1, rz_i, ite01, Nat.add_zero, Nat.zero_add, Nat.one_mul, mul12, reduceIte, ra_z0, Nat.reduceEqDiff, Nat.reduceLT, Nat.reduceLeDiff, Nat.reduceAdd, Nat.reduceMul, Nat.reduceSub, Nat.reduceDiv, Nat.reduceMod, Bool.false_eq_true, false_and, and_false, reduceCtorEq, hk, z1, c1, y2, fk, nX12_could_293]
    · rw [if_neg (show ¬ ((k : Int) ≤ fr ∧ fr - sl ≤ k) by omega)]
      simp (maxSteps := 400000) (disch := omega) only [n3_l, n3_add, n3_mul, n3_sub, n3_subn, n3_lt, n3_le, n3_eq, n3_eqn, n3_neq, n3_and, n3_or, n3_shl, n3_i, n3_cl, ↓hbd_0, ↓hbd_1, ↓hbd_2, hk_ob_0, hk_rd_0, hk_rd_1, hk_rd_2, hk_al_0, hk_al_1, h3r_0, h3r_1, hk_wi_0, hk_wj_0, h3w_0, h3w_1, h3v_0, hk_kI, hk_kJ, hk_kA, hk_kB, A_eq, A_ne, A_row, B_eq, B_ne, B_row, I_eq, I_ne, J_eq, J_ne, Option.bind_some, Option.some.injEq, if_true, if_false, eq_self, true_or, or_true, true_and, and_true, false_or, or_false, not_true_eq_false, not_false_eq_true, Classical.not_not, nar_b0, nar_b1, rz_0, rz_1, rz_i, ite01, Nat.add_zero, Nat.zero_add, Nat.one_mul, mul12, reduceIte, ra_z0, Nat.reduceEqDiff, Nat.reduceLT, Nat.reduceLeDiff, Nat.reduceAdd, Nat.reduceMul, Nat.reduceSub, Nat.reduceDiv, Nat.reduceMod, Bool.false_eq_true, false_and, and_false, reduceCtorEq, hk, z1, c1, nX12_could_292, nX12_could_293, z0]) (by
    intro m s
    have z1 : z3 fr < n3 0 ↔ fr < 0 := by rw [z3_n]; exact z3_lt (by omega) (by omega) (by omega) (by omega)
    rw [nX12_could_256]
    by_cases c : fr < 0
    · simp (maxSteps := 400000) (disch := omega) only [n3_l, n3_add, n3_mul, n3_sub, n3_subn, n3_lt, n3_le, n3_eq, n3_eqn, n3_neq, n3_and, n3_or, n3_shl, n3_i, n3_cl, ↓hbd_0, ↓hbd_1, ↓hbd_2, hk_ob_0, hk_rd_0, hk_rd_1, hk_rd_2, hk_al_0, hk_al_1, h3r_0, h3r_1, hk_wi_0, hk_wj_0, h3w_0, h3w_1, h3v_0, hk_kI, hk_kJ, hk_kA, hk_kB, A_eq, A_ne, A_row, B_eq, B_ne, B_row, I_eq, I_ne, J_eq, J_ne, Option.bind_some, Option.some.injEq, if_true, if_false, eq_self, true_or, or_true, true_and, and_true, false_or, or_false, not_true_eq_false, not_false_eq_true, Classical.not_not, nar_b0, nar_b1, rz_0, rz_1, rz_i, ite01, Nat.add_zero, Nat.zero_add, Nat.one_mul, mul12, reduceIte, ra_z0, Nat.reduceEqDiff, Nat.reduceLT, Nat.reduceLeDiff, Nat.reduceAdd, Nat.reduceMul, Nat.reduceSub, Nat.reduceDiv, Nat.reduceMod, Bool.false_eq_true, false_and, and_false, reduceCtorEq, z1, c, nX12_could_313, Nat.lt_irrefl]
    · simp (maxSteps := 400000) (disch := omega) only [n3_l, n3_add, n3_mul, n3_sub, n3_subn, n3_lt, n3_le, n3_eq, n3_eqn, n3_neq, n3_and, n3_or, n3_shl, n3_i, n3_cl, ↓hbd_0, ↓hbd_1, ↓hbd_2, hk_ob_0, hk_rd_0, hk_rd_1, hk_rd_2, hk_al_0, hk_al_1, h3r_0, h3r_1, hk_wi_0, hk_wj_0, h3w_0, h3w_1, h3v_0, hk_kI, hk_kJ, hk_kA, hk_kB, A_eq, A_ne, A_row, B_eq, B_ne, B_row, I_eq, I_ne, J_eq, J_ne, Option.bind_some, Option.some.injEq, if_true, if_false, eq_self, true_or, or_true, true_and, and_true, false_or, or_false, not_true_eq_false, not_false_eq_true, Classical.not_not, nar_b0, nar_b1, rz_0, rz_1, rz_i, ite01, Nat.add_zero, Nat.zero_add, Nat.one_mul, mul12, reduceIte, ra_z0, Nat.reduceEqDiff, Nat.reduceLT, Nat.reduceLeDiff, Nat.reduceAdd, Nat.reduceMul, Nat.reduceSub, Nat.reduceDiv, Nat.reduceMod, Bool.false_eq_true, false_and, and_false, reduceCtorEq, z1, c, nX12_could_313, Nat.lt_irrefl]) (m := N) (by omega) (n3 0)
  have e2 : (if fr < 0 then n3 0 else fo (fun (k : Nat) s => if (k : Int) ≤ fr ∧ fr - sl ≤ k then s + f k else s) 0 361 (n3 0)) = coS f fr sl := by
    unfold coS
    by_cases c : fr < 0
    · rw [if_pos c, fo_no 361 0 (n3 0) (fun k s h h' => if_neg (by omega))]
    · rw [if_neg c]
  rw [← e2]
  exact key
/-- the sets, counted -/
theorem r_countSets {a : Nat → Nat → Int} {nB L ls sl : Nat} {fr : Int} {T : Nat → Nat} {ln : Int32} (h480 : hk_A κ 71 480 = n3 nB) (h482 : hk_A κ 71 482 = n3 L) (h40 : nB ≤ 40) (hL : L ≤ 12) (h95 : ∀ b, b < nB → hk_A κ 95 b = n3 (its a L nB b)) (hT : ∀ l, l < L → hk_A κ 71 (650 + 6 * l + 2) = n3 (T l)) (hT1 : ∀ l, l < L → 1 ≤ T l ∧ T l ≤ 360) (hls : ls < 361) (h1 : -100000 ≤ fr) (h2 : fr ≤ 100000) (h3 : sl ≤ 400) (hN : 1000 < N) :
    ∃ κ', nX12_could_122 N N 69 (n3 sl) ln (z3 fr) (n3 ls) (n3 0) (hp κ) = some (coS (coF T ln (gvS a L nB nB) L ls) fr sl, hp κ') ∧ same [97] [] κ κ' := by
  obtain ⟨m0, s0, e0, i1, i2⟩ := lpx (fun m k (r : hk_T) => nX12_could_122 N m 69 (n3 sl) ln (z3 fr) (n3 ls) (n3 k) (hp r)) 361 (fun i r => same [97] [] κ r ∧ ∀ k, k < i → hk_A r 97 k = if k = ls then n3 1 else n3 0) (by
    rintro m k r hk ⟨i1, i2⟩
    by_cases c : k = ls
    · refine ⟨hk_wA r 97 k (n3 1), ?_, i1.wA (by decide), ?_⟩
      · rw [nX12_could_122, ← c]
        simp (maxSteps := 400000) (disch := omega) only [n3_l, n3_add, n3_mul, n3_sub, n3_subn, n3_lt, n3_le, n3_eq, n3_eqn, n3_neq, n3_and, n3_or, n3_shl, n3_i, n3_cl, ↓hbd_0, ↓hbd_1, ↓hbd_2, hk_ob_0, hk_rd_0, hk_rd_1, hk_rd_2, hk_al_0, hk_al_1, h3r_0, h3r_1, hk_wi_0, hk_wj_0, h3w_0, h3w_1, h3v_0, hk_kI, hk_kJ, hk_kA, hk_kB, A_eq, A_ne, A_row, B_eq, B_ne, B_row, I_eq, I_ne, J_eq, J_ne, Option.bind_some, Option.some.injEq, if_true, if_false, eq_self, true_or, or_true, true_and, and_true, false_or, or_false, not_true_eq_false, not_false_eq_true, Classical.not_not, nar_b0, nar_b1, rz_0, rz_1, rz_i, ite01, Nat.add_zero, Nat.zero_add, Nat.one_mul, mul12, reduceIte, ra_z0, Nat.reduceEqDiff, Nat.reduceLT, Nat.reduceLeDiff, Nat.reduceAdd, Nat.reduceMul, Nat.reduceSub, Nat.reduceDiv, Nat.reduceMod, Bool.false_eq_true, false_and, and_false, reduceCtorEq, hk, nX12_could_148]
      · intro j hj
        by_cases ej : j = k
        · rw [ej, A_eq rfl, if_pos c]
        · rw [A_ne (Or.inr ej)]; exact i2 j (by omega)
    · refine ⟨hk_wA r 97 k (n3 0), ?_, i1.wA (by decide), ?_⟩
      · rw [nX12_could_122]
        simp (maxSteps := 400000) (disch := omega) only [n3_l, n3_add, n3_mul, n3_sub, n3_subn, n3_lt, n3_le, n3_eq, n3_eqn, n3_neq, n3_and, n3_or, n3_shl, n3_i, n3_cl, ↓hbd_0, ↓hbd_1, ↓hbd_2, hk_ob_0, hk_rd_0, hk_rd_1, hk_rd_2, hk_al_0, hk_al_1, h3r_0, h3r_1, hk_wi_0, hk_wj_0, h3w_0, h3w_1, h3v_0, hk_kI, hk_kJ, hk_kA, hk_kB, A_eq, A_ne, A_row, B_eq, B_ne, B_row, I_eq, I_ne, J_eq, J_ne, Option.bind_some, Option.some.injEq, if_true, if_false, eq_self, true_or, or_true, true_and, and_true, false_or, or_false, not_true_eq_false, not_false_eq_true, Classical.not_not, nar_b0, nar_b1, rz_0, rz_1, rz_i, ite01, Nat.add_zero, Nat.zero_add, Nat.one_mul, mul12, reduceIte, ra_z0, Nat.reduceEqDiff, Nat.reduceLT, Nat.reduceLeDiff, Nat.reduceAdd, Nat.reduceMul, Nat.reduceSub, Nat.reduceDiv, Nat.reduceMod, Bool.false_eq_true, false_and, and_false, reduceCtorEq, hk, c, nX12_could_148]
      · intro j hj
        by_cases ej : j = k
        · rw [ej, A_eq rfl, if_neg c]
        · rw [A_ne (Or.inr ej)]; exact i2 j (by omega)) 361 0 N κ (by omega) (by omega) ⟨same.refl _ _ _, fun k h => by omega⟩
  obtain ⟨m', s', e, j1, j2⟩ := lpx (fun m l (r : hk_T) => nX12_could_158 N m 69 (n3 sl) ln (z3 fr) (n3 l) (hp r)) L (fun l r => same [97] [] κ r ∧ ∀ k, k < 361 → hk_A r 97 k = coF T ln (gvS a L nB nB) l ls k) (by
    rintro m l r hl ⟨j1, j2⟩
    have r480 : hk_A r 71 480 = n3 nB := by rw [j1.1 71 (by decide)]; exact h480
    have r482 : hk_A r 71 482 = n3 L := by rw [j1.1 71 (by decide)]; exact h482
    have r95 : ∀ b, b < nB → hk_A r 95 b = n3 (its a L nB b) := by rw [j1.1 95 (by decide)]; exact h95
    have rT : hk_A r 71 (650 + 6 * l + 2) = n3 (T l) := by rw [j1.1 71 (by decide)]; exact hT l hl
    have ht := hT1 l hl
    have stp : coF T ln (gvS a L nB nB) (l + 1) ls = if n3 l = ln ∨ (gvS a L nB nB).testBit l = true then coF T ln (gvS a L nB nB) l ls else kn (T l) (coF T ln (gvS a L nB nB) l ls) := by
      unfold coF
      rw [fo_last, Nat.zero_add]
    have one : nX12_could_158 N (m + 1) 69 (n3 sl) ln (z3 fr) (n3 l) (hp r) = nX12_could_194 N (nX12_could_158 N m) N 69 (n3 sl) ln (z3 fr) (n3 l) (n3 (T l)) (n3 360) (hp r) := by
      rw [nX12_could_158]
      simp (maxSteps := 400000) (disch := omega) only [n3_l, n3_add, n3_mul, n3_sub, n3_subn, n3_lt, n3_le, n3_eq, n3_eqn, n3_neq, n3_and, n3_or, n3_shl, n3_i, n3_cl, ↓hbd_0, ↓hbd_1, ↓hbd_2, hk_ob_0, hk_rd_0, hk_rd_1, hk_rd_2, hk_al_0, hk_al_1, h3r_0, h3r_1, hk_wi_0, hk_wj_0, h3w_0, h3w_1, h3v_0, hk_kI, hk_kJ, hk_kA, hk_kB, A_eq, A_ne, A_row, B_eq, B_ne, B_row, I_eq, I_ne, J_eq, J_ne, Option.bind_some, Option.some.injEq, if_true, if_false, eq_self, true_or, or_true, true_and, and_true, false_or, or_false, not_true_eq_false, not_false_eq_true, Classical.not_not, nar_b0, nar_b1, rz_0, rz_1, rz_i, ite01, Nat.add_zero, Nat.zero_add, Nat.one_mul, mul12, reduceIte, ra_z0, Nat.reduceEqDiff, Nat.reduceLT, Nat.reduceLeDiff, Nat.reduceAdd, Nat.reduceMul, Nat.reduceSub, Nat.reduceDiv, Nat.reduceMod, Bool.false_eq_true, false_and, and_false, reduceCtorEq, r482, hl, rT]
    obtain ⟨N', hN'⟩ : ∃ N', N = N' + 1 := ⟨N - 1, by omega⟩
    have c0 : ¬ 360 < T l := by omega
    have one2 : nX12_could_194 N (nX12_could_158 N m) N 69 (n3 sl) ln (z3 fr) (n3 l) (n3 (T l)) (n3 360) (hp r) = nX12_could_194 N (nX12_could_158 N m) (N' + 1) 69 (n3 sl) ln (z3 fr) (n3 l) (n3 (T l)) (n3 360) (hp r) := by rw [← hN']
    by_cases c : n3 l = ln
    · refine ⟨r, ?_, j1, ?_⟩
      · show nX12_could_158 N (m + 1) 69 (n3 sl) ln (z3 fr) (n3 l) (hp r) = _
        rw [one, one2, nX12_could_194, ← c]
        simp (maxSteps := 400000) (disch := omega) only [n3_l, n3_add, n3_mul, n3_sub, n3_subn, n3_lt, n3_le, n3_eq, n3_eqn, n3_neq, n3_and, n3_or, n3_shl, n3_i, n3_cl, ↓hbd_0, ↓hbd_1, ↓hbd_2, hk_ob_0, hk_rd_0, hk_rd_1, hk_rd_2, hk_al_0, hk_al_1, h3r_0, h3r_1, hk_wi_0, hk_wj_0, h3w_0, h3w_1, h3v_0, hk_kI, hk_kJ, hk_kA, hk_kB, A_eq, A_ne, A_row, B_eq, B_ne, B_row, I_eq, I_ne, J_eq, J_ne, Option.bind_some, Option.some.injEq, if_true, if_false, eq_self, true_or, or_true, true_and, and_true, false_or, or_false, not_true_eq_false, not_false_eq_true, Classical.not_not, nar_b0, nar_b1, rz_0, rz_1, rz_i, ite01, Nat.add_zero, Nat.zero_add, Nat.one_mul, mul12, reduceIte, ra_z0, Nat.reduceEqDiff, Nat.reduceLT, Nat.reduceLeDiff, Nat.reduceAdd, Nat.reduceMul, Nat.reduceSub, Nat.reduceDiv, Nat.reduceMod, Bool.false_eq_true, false_and, and_false, reduceCtorEq, c0, nX12_could_244]
      · rw [stp, if_pos (Or.inl c)]; exact j2
    · by_cases c2 : (gvS a L nB nB).testBit l = true
      · obtain ⟨v, e1, e2⟩ := r_bookOf N r (a := a) (L := L) (l := l) r480 h40 hL r95 hl hN
        have e3 : ¬ v = -n3 1 := fun z => e2.mp z c2
        refine ⟨r, ?_, j1, ?_⟩
        · show nX12_could_158 N (m + 1) 69 (n3 sl) ln (z3 fr) (n3 l) (hp r) = _
          rw [one, one2, nX12_could_194]
          simp (maxSteps := 400000) (disch := omega) only [n3_l, n3_add, n3_mul, n3_sub, n3_subn, n3_lt, n3_le, n3_eq, n3_eqn, n3_neq, n3_and, n3_or, n3_shl, n3_i, n3_cl, ↓hbd_0, ↓hbd_1, ↓hbd_2, hk_ob_0, hk_rd_0, hk_rd_1, hk_rd_2, hk_al_0, hk_al_1, h3r_0, h3r_1, hk_wi_0, hk_wj_0, h3w_0, h3w_1, h3v_0, hk_kI, hk_kJ, hk_kA, hk_kB, A_eq, A_ne, A_row, B_eq, B_ne, B_row, I_eq, I_ne, J_eq, J_ne, Option.bind_some, Option.some.injEq, if_true, if_false, eq_self, true_or, or_true, true_and, and_true, false_or, or_false, not_true_eq_false, not_false_eq_true, Classical.not_not, nar_b0, nar_b1, rz_0, rz_1, rz_i, ite01, Nat.add_zero, Nat.zero_add, Nat.one_mul, mul12, reduceIte, ra_z0, Nat.reduceEqDiff, Nat.reduceLT, Nat.reduceLeDiff, Nat.reduceAdd, Nat.reduceMul, Nat.reduceSub, Nat.reduceDiv, Nat.reduceMod, Bool.false_eq_true, false_and, and_false, reduceCtorEq, c0, c, e1, e3, nX12_could_244]
        · rw [stp, if_pos (Or.inr c2)]; exact j2
      · obtain ⟨r1, e1, k1, k2⟩ := r_addToSets N r (a := a) (sl := n3 sl) (ln := ln) (fr := z3 fr) (c158 := nX12_could_158 N m) r480 h40 hL r95 hl c c2 ht.1 ht.2 hN
        refine ⟨r1, one.trans e1, j1.trans k1, ?_⟩
        rw [stp, if_neg (fun z => by rcases z with z | z; exact c z; exact c2 z)]
        intro k hk
        rw [k2 k hk]
        exact kn_cg j2 k hk) L 0 N s0 (by omega) (by omega) ⟨i1, i2⟩
  have e2 : nX12_could_122 N N 69 (n3 sl) ln (z3 fr) (n3 ls) (n3 0) (hp κ) = nX12_could_122 N (m0 + 1) 69 (n3 sl) ln (z3 fr) (n3 ls) (n3 361) (hp s0) := e0
  have e3 : nX12_could_158 N N 69 (n3 sl) ln (z3 fr) (n3 0) (hp s0) = nX12_could_158 N (m' + 1) 69 (n3 sl) ln (z3 fr) (n3 L) (hp s') := e
  have r482 : hk_A s' 71 482 = n3 L := by rw [j1.1 71 (by decide)]; exact h482
  have ss := r_sumSets N s' (sl := sl) j2 h1 h2 h3 hN
  refine ⟨s', ?_, j1⟩
  rw [e2, nX12_could_122]
  simp (maxSteps := 400000) (disch := omega) only [n3_l, n3_add, n3_mul, n3_sub, n3_subn, n3_lt, n3_le, n3_eq, n3_eqn, n3_neq, n3_and, n3_or, n3_shl, n3_i, n3_cl, ↓hbd_0, ↓hbd_1, ↓hbd_2, hk_ob_0, hk_rd_0, hk_rd_1, hk_rd_2, hk_al_0, hk_al_1, h3r_0, h3r_1, hk_wi_0, hk_wj_0, h3w_0, h3w_1, h3v_0, hk_kI, hk_kJ, hk_kA, hk_kB, A_eq, A_ne, A_row, B_eq, B_ne, B_row, I_eq, I_ne, J_eq, J_ne, Option.bind_some, Option.some.injEq, if_true, if_false, eq_self, true_or, or_true, true_and, and_true, false_or, or_false, not_true_eq_false, not_false_eq_true, Classical.not_not, nar_b0, nar_b1, rz_0, rz_1, rz_i, ite01, Nat.add_zero, Nat.zero_add, Nat.one_mul, mul12, reduceIte, ra_z0, Nat.reduceEqDiff, Nat.reduceLT, Nat.reduceLeDiff, Nat.reduceAdd, Nat.reduceMul, Nat.reduceSub, Nat.reduceDiv, Nat.reduceMod, Bool.false_eq_true, false_and, and_false, reduceCtorEq, Nat.lt_irrefl]
  rw [e3, nX12_could_158]
  simp (maxSteps := 400000) (disch := omega) only [n3_l, n3_add, n3_mul, n3_sub, n3_subn, n3_lt, n3_le, n3_eq, n3_eqn, n3_neq, n3_and, n3_or, n3_shl, n3_i, n3_cl, ↓hbd_0, ↓hbd_1, ↓hbd_2, hk_ob_0, hk_rd_0, hk_rd_1, hk_rd_2, hk_al_0, hk_al_1, h3r_0, h3r_1, hk_wi_0, hk_wj_0, h3w_0, h3w_1, h3v_0, hk_kI, hk_kJ, hk_kA, hk_kB, A_eq, A_ne, A_row, B_eq, B_ne, B_row, I_eq, I_ne, J_eq, J_ne, Option.bind_some, Option.some.injEq, if_true, if_false, eq_self, true_or, or_true, true_and, and_true, false_or, or_false, not_true_eq_false, not_false_eq_true, Classical.not_not, nar_b0, nar_b1, rz_0, rz_1, rz_i, ite01, Nat.add_zero, Nat.zero_add, Nat.one_mul, mul12, reduceIte, ra_z0, Nat.reduceEqDiff, Nat.reduceLT, Nat.reduceLeDiff, Nat.reduceAdd, Nat.reduceMul, Nat.reduceSub, Nat.reduceDiv, Nat.reduceMod, Bool.false_eq_true, false_and, and_false, reduceCtorEq, r482, Nat.lt_irrefl]
  exact ss
end
