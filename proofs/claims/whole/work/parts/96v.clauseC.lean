/-! the class's reader: a clause -/
def cS2 (κ κ' : hk_T) : Prop := same [18, 19, 20] [(16, 2), (16, 6), (16, 7), (16, 8), (16, 9), (16, 10), (16, 11)] κ κ'
theorem cS2.trans {κ κ' κ'' : hk_T} (h : cS2 κ κ') (g : cS2 κ' κ'') : cS2 κ κ'' := same.trans h g
theorem cS.up {κ κ' : hk_T} (h : cS κ κ') : cS2 κ κ' := same.weak h (by decide) (by decide)
theorem cP.keep {κ κ' : hk_T} {B : Nat → Nat} {n j k f : Nat} {K : Nat → Nat} (h : cP κ B n j k f K) (s : same [19, 20] [(16, 7)] κ κ') : cP κ' B n j k f K := by
  obtain ⟨hT, ht, h8, hk, h6, hf, hK⟩ := h
  exact ⟨hT.same s (by decide) (by decide), ht.same s (by decide) (by decide) (by decide) (by decide), by rw [s.2.2.1 16 8 (by decide)]; exact h8, hk, by rw [s.2.2.1 16 6 (by decide)]; exact h6, hf, by rw [s.1 18 (by decide)]; exact hK⟩
theorem vOne_t : vT vOne := fun X a e => Or.inr (Option.some.inj e).symm
def pIf (B : Nat → Nat) (n j k : Nat) : pRT := if isW B n 17 j then pTest B n 9 0 (nxt B n j) k else .inr (j, k, vOne)
theorem pClause_eq (B : Nat → Nat) (n j k : Nat) : pClause B n j k = if heaA B n j < 5 then
    (match (if heaA B n j = 4 then (.inr (nxt B n j, k, vOne) : pRT) else pSum B n 9 0 (nxt B n j) k) with
    | .inl f => .inl f
    | .inr (j1, k1, v) => (match pIf B n j1 k1 with
      | .inl f => .inl f
      | .inr (j2, k2, w) => .inr (j2, k2, heaA B n j, v, w))) else .inl j := by
  unfold pClause
  by_cases c : heaA B n j < 5
  · rw [if_pos c, if_pos c]
    cases (if heaA B n j = 4 then (.inr (nxt B n j, k, vOne) : pRT) else pSum B n 9 0 (nxt B n j) k) with
    | inl e => rfl
    | inr t =>
      obtain ⟨j1, k1, v⟩ := t
      dsimp only
      unfold pIf
      by_cases cw : isW B n 17 j1
      · rw [if_pos cw, if_pos cw]
        rfl
      · rw [if_neg cw, if_neg cw]
  · rw [if_neg c, if_neg c]
section
variable (N : Nat) (κ : hk_T)
theorem c_clause56 {B : Nat → Nat} {n j k f i : Nat} {K : Nat → Nat} (h : cP κ B n j k f K) (hf : f ≤ j) (hi : i < 12) (h7 : hk_I κ 16 7 = n3 i) (hN : 1000 < N) :
  match pIf B n j k with
  | .inl e => ∃ κ', nX8_readClause_56 N 16 (hp κ) = some (n3 0, hp κ') ∧ cS2 κ κ' ∧ hk_I κ' 16 2 = n3 e
  | .inr (j', k', w) => ∃ κ' f' K', nX8_readClause_56 N 16 (hp κ) = some (n3 1, hp κ') ∧ cS2 κ κ' ∧ cP κ' B n j' k' f' K' ∧ (∀ x, x < f → K' x = K x) ∧ f ≤ f' ∧ f' ≤ j' ∧ cPc K' f f' w ∧ vT w ∧ hk_I κ' 16 7 = n3 (i + 1) ∧ hk_A κ' 20 (2 * i + 1) = n3 f ∧ hk_A κ' 19 = hk_A κ 19 ∧ (∀ x, x ≠ 2 * i + 1 → hk_A κ' 20 x = hk_A κ 20 x) := by
  have h6 := h.2.2.2.2.1
  have f4 := h.2.2.2.2.2.1
  obtain ⟨κ1, e1⟩ : ∃ κ1, κ1 = hk_wI (hk_wA κ 20 (2 * i + 1) (n3 f)) 16 7 (n3 (i + 1)) := ⟨_, rfl⟩
  have s1 : same [20] [(16, 7)] κ κ1 := by rw [e1]; exact ((same.refl _ _ _).wA (by decide)).wI (by decide)
  have s1' : cS2 κ κ1 := same.weak s1 (by decide) (by decide)
  have p1 := h.keep (s1.weak (by decide) (by decide))
  have w := c_isWord N κ1 (k := 17) (u := 20) p1.1 p1.2.1 (by decide) (by omega) hN
  have a7 : hk_I κ1 16 7 = n3 (i + 1) := by rw [e1]; exact I_eq
  have a20 : hk_A κ1 20 (2 * i + 1) = n3 f := by
    rw [e1]
    show hk_A (hk_wA κ 20 (2 * i + 1) (n3 f)) 20 (2 * i + 1) = _
    exact A_eq rfl
  have b20 : ∀ x, x ≠ 2 * i + 1 → hk_A κ1 20 x = hk_A κ 20 x := fun x hx => by
    rw [e1]
    show hk_A (hk_wA κ 20 (2 * i + 1) (n3 f)) 20 x = _
    exact A_ne (Or.inr hx)
  have b19 : hk_A κ1 19 = hk_A κ 19 := s1.1 19 (by decide)
  have st : nX8_readClause_56 N 16 (hp κ) = (fX8_isWord N 16 20 (hp κ1)).bind fun q7 => if q7.1 = 0 then some ((1 : Int32), q7.2) else (fX8_advance N 16 q7.2).bind fun h8 => (fX8_readTest N 16 ((0 : Int32)) h8).bind fun q9 => some (q9.1, q9.2) := by
    rw [e1]
    unfold nX8_readClause_56
    simp (maxSteps := 400000) (disch := omega) only [n3_l, n3_add, n3_mul, n3_sub, n3_subn, n3_lt, n3_le, n3_eq, n3_eqn, n3_neq, n3_and, n3_or, n3_shl, n3_i, n3_cl, ↓hbd_0, ↓hbd_1, ↓hbd_2, hk_ob_0, hk_rd_0, hk_rd_1, hk_rd_2, hk_al_0, hk_al_1, h3r_0, h3r_1, hk_wi_0, hk_wj_0, h3w_0, h3w_1, h3v_0, hk_kI, hk_kJ, hk_kA, hk_kB, A_eq, A_ne, A_row, B_eq, B_ne, B_row, I_eq, I_ne, J_eq, J_ne, Option.bind_some, Option.some.injEq, if_true, if_false, eq_self, true_or, or_true, true_and, and_true, false_or, or_false, not_true_eq_false, not_false_eq_true, Classical.not_not, nar_b0, nar_b1, rz_0, rz_1, rz_i, ite01, Nat.add_zero, Nat.zero_add, Nat.one_mul, mul12, reduceIte, ra_z0, Nat.reduceEqDiff, Nat.reduceLT, Nat.reduceLeDiff, Nat.reduceAdd, Nat.reduceMul, Nat.reduceSub, Nat.reduceDiv, Nat.reduceMod, Bool.false_eq_true, false_and, and_false, reduceCtorEq, h7, h6]
  have e0 : ∀ h, fX8_readTest N 16 (n3 0) h = rX8_readTest N 9 16 (n3 0) h := fun h => rfl
  unfold pIf
  by_cases cw : isW B n 17 j
  · rw [if_pos cw] at w ⊢
    obtain ⟨κ2, e2, s2, p2⟩ := c_advP N κ1 p1 hN
    have nx2 := (nxt_le (B := B) p1.2.1.1).2 (isW_lt cw)
    have hr := c_readTest N (B := B) (n := n) hN 9 0 (by omega) (by omega) κ2 (nxt B n j) k f K p2 (by omega)
    cases hq : pTest B n 9 0 (nxt B n j) k with
    | inl e =>
      rw [hq] at hr
      obtain ⟨κ3, e3, s3, q3⟩ := hr
      refine ⟨κ3, ?_, s1'.trans (s2.trans s3).up, q3⟩
      rw [st]
      simp (maxSteps := 400000) (disch := omega) only [n3_l, n3_add, n3_mul, n3_sub, n3_subn, n3_lt, n3_le, n3_eq, n3_eqn, n3_neq, n3_and, n3_or, n3_shl, n3_i, n3_cl, ↓hbd_0, ↓hbd_1, ↓hbd_2, hk_ob_0, hk_rd_0, hk_rd_1, hk_rd_2, hk_al_0, hk_al_1, h3r_0, h3r_1, hk_wi_0, hk_wj_0, h3w_0, h3w_1, h3v_0, hk_kI, hk_kJ, hk_kA, hk_kB, A_eq, A_ne, A_row, B_eq, B_ne, B_row, I_eq, I_ne, J_eq, J_ne, Option.bind_some, Option.some.injEq, if_true, if_false, eq_self, true_or, or_true, true_and, and_true, false_or, or_false, not_true_eq_false, not_false_eq_true, Classical.not_not, nar_b0, nar_b1, rz_0, rz_1, rz_i, ite01, Nat.add_zero, Nat.zero_add, Nat.one_mul, mul12, reduceIte, ra_z0, Nat.reduceEqDiff, Nat.reduceLT, Nat.reduceLeDiff, Nat.reduceAdd, Nat.reduceMul, Nat.reduceSub, Nat.reduceDiv, Nat.reduceMod, Bool.false_eq_true, false_and, and_false, reduceCtorEq, w, e2, e0, e3]
    | inr t =>
      obtain ⟨j2, k2, v⟩ := t
      rw [hq] at hr
      obtain ⟨κ3, f2, K2, e3, s3, p3, b1, b2, b3, b4, b5, b6, b7, b8⟩ := hr
      have t3 := s2.trans s3
      have k50 := p3.2.2.2.1
      refine ⟨κ3, f2, K2, ?_, s1'.trans t3.up, p3, b1, by omega, by omega, Or.inl ⟨k2 - k, by omega, b6⟩, b8 trivial, by rw [t3.2.2.1 16 7 (by decide)]; exact a7, by rw [t3.1 20 (by decide)]; exact a20, by rw [t3.1 19 (by decide)]; exact b19, fun x hx => by rw [t3.1 20 (by decide)]; exact b20 x hx⟩
      rw [st]
      simp (maxSteps := 400000) (disch := omega) only [n3_l, n3_add, n3_mul, n3_sub, n3_subn, n3_lt, n3_le, n3_eq, n3_eqn, n3_neq, n3_and, n3_or, n3_shl, n3_i, n3_cl, ↓hbd_0, ↓hbd_1, ↓hbd_2, hk_ob_0, hk_rd_0, hk_rd_1, hk_rd_2, hk_al_0, hk_al_1, h3r_0, h3r_1, hk_wi_0, hk_wj_0, h3w_0, h3w_1, h3v_0, hk_kI, hk_kJ, hk_kA, hk_kB, A_eq, A_ne, A_row, B_eq, B_ne, B_row, I_eq, I_ne, J_eq, J_ne, Option.bind_some, Option.some.injEq, if_true, if_false, eq_self, true_or, or_true, true_and, and_true, false_or, or_false, not_true_eq_false, not_false_eq_true, Classical.not_not, nar_b0, nar_b1, rz_0, rz_1, rz_i, ite01, Nat.add_zero, Nat.zero_add, Nat.one_mul, mul12, reduceIte, ra_z0, Nat.reduceEqDiff, Nat.reduceLT, Nat.reduceLeDiff, Nat.reduceAdd, Nat.reduceMul, Nat.reduceSub, Nat.reduceDiv, Nat.reduceMod, Bool.false_eq_true, false_and, and_false, reduceCtorEq, w, e2, e0, e3]
  · rw [if_neg cw] at w ⊢
    refine ⟨κ1, f, K, ?_, s1', p1, fun _ _ => rfl, Nat.le_refl _, hf, Or.inr ⟨rfl, rfl⟩, vOne_t, a7, a20, b19, b20⟩
    rw [st]
    simp (maxSteps := 400000) (disch := omega) only [n3_l, n3_add, n3_mul, n3_sub, n3_subn, n3_lt, n3_le, n3_eq, n3_eqn, n3_neq, n3_and, n3_or, n3_shl, n3_i, n3_cl, ↓hbd_0, ↓hbd_1, ↓hbd_2, hk_ob_0, hk_rd_0, hk_rd_1, hk_rd_2, hk_al_0, hk_al_1, h3r_0, h3r_1, hk_wi_0, hk_wj_0, h3w_0, h3w_1, h3v_0, hk_kI, hk_kJ, hk_kA, hk_kB, A_eq, A_ne, A_row, B_eq, B_ne, B_row, I_eq, I_ne, J_eq, J_ne, Option.bind_some, Option.some.injEq, if_true, if_false, eq_self, true_or, or_true, true_and, and_true, false_or, or_false, not_true_eq_false, not_false_eq_true, Classical.not_not, nar_b0, nar_b1, rz_0, rz_1, rz_i, ite01, Nat.add_zero, Nat.zero_add, Nat.one_mul, mul12, reduceIte, ra_z0, Nat.reduceEqDiff, Nat.reduceLT, Nat.reduceLeDiff, Nat.reduceAdd, Nat.reduceMul, Nat.reduceSub, Nat.reduceDiv, Nat.reduceMod, Bool.false_eq_true, false_and, and_false, reduceCtorEq, w]
/-- what a clause comes to -/
def cCl (κ : hk_T) (B : Nat → Nat) (n f i : Nat) (K : Nat → Nat) (r : Sum Nat (Nat × Nat × Nat × valT × valT)) (run : Option (Int32 × ra_H)) : Prop := match r with
  | .inl e => ∃ κ', run = some (n3 0, hp κ') ∧ cS2 κ κ' ∧ hk_I κ' 16 2 = n3 e
  | .inr (j', k', hh, v, w) => ∃ κ' t f' K', run = some (n3 1, hp κ') ∧ cS2 κ κ' ∧ cP κ' B n j' k' f' K' ∧ (∀ x, x < f → K' x = K x) ∧ f ≤ t ∧ t ≤ f' ∧ f' ≤ j' ∧ hh ≤ 4 ∧ cPc K' f t v ∧ cPc K' t f' w ∧ vO v ∧ vT w ∧ hk_I κ' 16 7 = n3 (i + 1) ∧ hk_A κ' 19 i = n3 hh ∧ hk_A κ' 20 (2 * i) = n3 f ∧ hk_A κ' 20 (2 * i + 1) = n3 t ∧ (∀ x, x < i → hk_A κ' 19 x = hk_A κ 19 x) ∧ (∀ x, x < 2 * i → hk_A κ' 20 x = hk_A κ 20 x)
theorem cPc.cg {K K' : Nat → Nat} {f t : Nat} {v : valT} (h : cPc K f t v) (e : ∀ x, f ≤ x → x < t → K x = K' x) : cPc K' f t v := by
  rcases h with ⟨d, hd, h⟩ | h
  · exact Or.inl ⟨d, hd, h.cg e⟩
  · exact Or.inr h
theorem c_clause0 {κa κ1 κ2 : hk_T} {x7 x6 g : Int32} (hh : fX8_headHere N 16 (hp κ) = some (g, hp κ)) (ng : ¬ g = -n3 1) (h7 : hk_I κ 16 7 = x7) (h6 : hk_I κ 16 6 = x6) (w1 : ra_aW (hp κ) 0 19 x7 g = some (hp κa)) (w2 : ra_aW (hp κa) 0 20 (n3 2 * x7) x6 = some (hp κ1)) (i7 : hk_I κa 16 7 = x7) (i6 : hk_I κa 16 6 = x6) (e2 : fX8_advance N 16 (hp κ1) = some (hp κ2)) : nX8_readClause_0 N 16 (hp κ) = if g = n3 4 then nX8_readClause_56 N 16 (hp κ2) else (fX8_readSum N 16 (n3 0) (hp κ2)).bind fun q10 => if q10.1 = n3 0 then some (n3 0, q10.2) else nX8_readClause_56 N 16 q10.2 := by
  have ng' : ¬ g = (-1 : Int32) := ng
  have a1 : ra_fR (hp κ) 8 16 4 = some 19 := rfl
  have a2 : ra_fI (hp κ) 8 16 7 = some x7 := by rw [← h7]; rfl
  have a3 : ra_fR (hp κa) 8 16 5 = some 20 := rfl
  have a4 : ra_fI (hp κa) 8 16 7 = some x7 := by rw [← i7]; rfl
  have a5 : ra_fI (hp κa) 8 16 6 = some x6 := by rw [← i6]; rfl
  have w2' : ra_aW (hp κa) 0 20 ((2 : Int32) * x7) x6 = some (hp κ1) := w2
  unfold nX8_readClause_0
  rw [hh, Option.bind_some, if_neg ng', a1, Option.bind_some, a2, Option.bind_some, w1, Option.bind_some, a3, Option.bind_some, a4, Option.bind_some, a5, Option.bind_some, w2', Option.bind_some, e2, Option.bind_some]
  rfl
theorem c_readClause {B : Nat → Nat} {n j k f i : Nat} {K : Nat → Nat} (h : cP κ B n j k f K) (hf : f ≤ j) (hi : i < 12) (h7 : hk_I κ 16 7 = n3 i) (hN : 1000 < N) : cCl κ B n f i K (pClause B n j k) (fX8_readClause N 16 (hp κ)) := by
  have hh := c_headHere N κ h.1 h.2.1 hN
  have h6 := h.2.2.2.2.1
  have f4 := h.2.2.2.2.2.1
  rw [pClause_eq]
  by_cases c5 : heaA B n j < 5
  · rw [if_pos c5] at hh ⊢
    have jl : j < n := by
      have z := (low_is (fun g => isW B n g j) 5).2.1 c5
      exact isW_lt z
    generalize heaA B n j = g at c5 hh ⊢
    have nx2 := (nxt_le (B := B) h.2.1.1).2 jl
    obtain ⟨κ1, e1⟩ : ∃ κ1, κ1 = hk_wA (hk_wA κ 19 i (n3 g)) 20 (2 * i) (n3 f) := ⟨_, rfl⟩
    have s1 : same [19, 20] [] κ κ1 := by rw [e1]; exact ((same.refl _ _ _).wA (by decide)).wA (by decide)
    have s1' : cS2 κ κ1 := same.weak s1 (by decide) (by decide)
    have p1 := h.keep (s1.weak (by decide) (by decide))
    have a7 : hk_I κ1 16 7 = n3 i := by rw [s1.2.2.1 16 7 (by decide)]; exact h7
    have a19 : ∀ x, hk_A κ1 19 x = if x = i then n3 g else hk_A κ 19 x := fun x => by
      rw [e1, A_row (by decide)]
      by_cases e : x = i
      · rw [if_pos e, A_eq e]
      · rw [if_neg e, A_ne (Or.inr e)]
    have a20 : ∀ x, hk_A κ1 20 x = if x = 2 * i then n3 f else hk_A κ 20 x := fun x => by
      rw [e1]
      by_cases e : x = 2 * i
      · rw [if_pos e, A_eq e]
      · rw [if_neg e, A_ne (Or.inr e), A_row (by decide)]
    obtain ⟨κ2, e2, s2, p2⟩ := c_advP N κ1 p1 hN
    have e0 : ∀ h, fX8_readSum N 16 (n3 0) h = rX8_readSum N 9 16 (n3 0) h := fun h => rfl
    have nm : ¬ n3 g = -n3 1 := fun z => (n3_eqn (by omega) (by omega) (by omega)).mp z
    have st : nX8_readClause_0 N 16 (hp κ) = if g = 4 then nX8_readClause_56 N 16 (hp κ2) else (fX8_readSum N 16 (n3 0) (hp κ2)).bind fun q10 => if q10.1 = n3 0 then some (n3 0, q10.2) else nX8_readClause_56 N 16 q10.2 := by
      have w1 : ra_aW (hp κ) 0 19 (n3 i) (n3 g) = some (hp (hk_wA κ 19 i (n3 g))) := by simp (maxSteps := 400000) (disch := omega) only [n3_l, n3_add, n3_mul, n3_sub, n3_subn, n3_lt, n3_le, n3_eq, n3_eqn, n3_neq, n3_and, n3_or, n3_shl, n3_i, n3_cl, ↓hbd_0, ↓hbd_1, ↓hbd_2, hk_ob_0, hk_rd_0, hk_rd_1, hk_rd_2, hk_al_0, hk_al_1, h3r_0, h3r_1, hk_wi_0, hk_wj_0, h3w_0, h3w_1, h3v_0, hk_kI, hk_kJ, hk_kA, hk_kB, A_eq, A_ne, A_row, B_eq, B_ne, B_row, I_eq, I_ne, J_eq, J_ne, Option.bind_some, Option.some.injEq, if_true, if_false, eq_self, true_or, or_true, true_and, and_true, false_or, or_false, not_true_eq_false, not_false_eq_true, Classical.not_not, nar_b0, nar_b1, rz_0, rz_1, rz_i, ite01, Nat.add_zero, Nat.zero_add, Nat.one_mul, mul12, reduceIte, ra_z0, Nat.reduceEqDiff, Nat.reduceLT, Nat.reduceLeDiff, Nat.reduceAdd, Nat.reduceMul, Nat.reduceSub, Nat.reduceDiv, Nat.reduceMod, Bool.false_eq_true, false_and, and_false, reduceCtorEq]
      have w2 : ra_aW (hp (hk_wA κ 19 i (n3 g))) 0 20 (n3 2 * n3 i) (n3 f) = some (hp κ1) := by
        rw [e1]
        simp (maxSteps := 400000) (disch := omega) only [n3_l, n3_add, n3_mul, n3_sub, n3_subn, n3_lt, n3_le, n3_eq, n3_eqn, n3_neq, n3_and, n3_or, n3_shl, n3_i, n3_cl, ↓hbd_0, ↓hbd_1, ↓hbd_2, hk_ob_0, hk_rd_0, hk_rd_1, hk_rd_2, hk_al_0, hk_al_1, h3r_0, h3r_1, hk_wi_0, hk_wj_0, h3w_0, h3w_1, h3v_0, hk_kI, hk_kJ, hk_kA, hk_kB, A_eq, A_ne, A_row, B_eq, B_ne, B_row, I_eq, I_ne, J_eq, J_ne, Option.bind_some, Option.some.injEq, if_true, if_false, eq_self, true_or, or_true, true_and, and_true, false_or, or_false, not_true_eq_false, not_false_eq_true, Classical.not_not, nar_b0, nar_b1, rz_0, rz_1, rz_i, ite01, Nat.add_zero, Nat.zero_add, Nat.one_mul, mul12, reduceIte, ra_z0, Nat.reduceEqDiff, Nat.reduceLT, Nat.reduceLeDiff, Nat.reduceAdd, Nat.reduceMul, Nat.reduceSub, Nat.reduceDiv, Nat.reduceMod, Bool.false_eq_true, false_and, and_false, reduceCtorEq]
      have g4 : n3 g = n3 4 ↔ g = 4 := n3_eq (by omega) (by omega)
      rw [c_clause0 N κ hh nm h7 h6 w1 w2 h7 h6 e2]
      by_cases c4 : g = 4
      · rw [if_pos c4, if_pos (g4.mpr c4)]
      · rw [if_neg c4, if_neg (fun z => c4 (g4.mp z))]
    have fin : ∀ κ3 j1 k1 t K1 v, cS κ2 κ3 → cP κ3 B n j1 k1 t K1 → t ≤ j1 → f ≤ t → (∀ x, x < f → K1 x = K x) → cPc K1 f t v → vO v → cCl κ B n f i K (match pIf B n j1 k1 with
      | .inl f => .inl f
      | .inr (j2, k2, w) => .inr (j2, k2, g, v, w)) ((nX8_readClause_56 N 16 (hp κ3)).bind fun q => ra_rz q.1 q.2) := by
      intro κ3 j1 k1 t K1 v s3 p3 tj ft a1 a2 a3
      have t3 := s2.trans s3
      have r := c_clause56 N κ3 p3 tj hi (by rw [t3.2.2.1 16 7 (by decide)]; exact a7) hN
      cases hq : pIf B n j1 k1 with
      | inl e =>
        rw [hq] at r
        obtain ⟨κ4, e4, s4, q4⟩ := r
        refine ⟨κ4, ?_, s1'.trans (t3.up.trans s4), q4⟩
        rw [e4]
        simp (maxSteps := 400000) (disch := omega) only [n3_l, n3_add, n3_mul, n3_sub, n3_subn, n3_lt, n3_le, n3_eq, n3_eqn, n3_neq, n3_and, n3_or, n3_shl, n3_i, n3_cl, ↓hbd_0, ↓hbd_1, ↓hbd_2, hk_ob_0, hk_rd_0, hk_rd_1, hk_rd_2, hk_al_0, hk_al_1, h3r_0, h3r_1, hk_wi_0, hk_wj_0, h3w_0, h3w_1, h3v_0, hk_kI, hk_kJ, hk_kA, hk_kB, A_eq, A_ne, A_row, B_eq, B_ne, B_row, I_eq, I_ne, J_eq, J_ne, Option.bind_some, Option.some.injEq, if_true, if_false, eq_self, true_or, or_true, true_and, and_true, false_or, or_false, not_true_eq_false, not_false_eq_true, Classical.not_not, nar_b0, nar_b1, rz_0, rz_1, rz_i, ite01, Nat.add_zero, Nat.zero_add, Nat.one_mul, mul12, reduceIte, ra_z0, Nat.reduceEqDiff, Nat.reduceLT, Nat.reduceLeDiff, Nat.reduceAdd, Nat.reduceMul, Nat.reduceSub, Nat.reduceDiv, Nat.reduceMod, Bool.false_eq_true, false_and, and_false, reduceCtorEq]
      | inr tt =>
        obtain ⟨j2, k2, w⟩ := tt
        rw [hq] at r
        obtain ⟨κ4, f4, K4, e4, s4, p4, b1, b2, b3, b4, b5, b6, b7, b8, b9⟩ := r
        refine ⟨κ4, t, f4, K4, ?_, s1'.trans (t3.up.trans s4), p4, fun x hx => by rw [b1 x (by omega), a1 x hx], ft, b2, b3, by omega, a2.cg (fun x _ hx => (b1 x hx).symm), b4, a3, b5, b6, ?_, ?_, b7, fun x hx => ?_, fun x hx => ?_⟩
        · rw [e4]
          simp (maxSteps := 400000) (disch := omega) only [n3_l, n3_add, n3_mul, n3_sub, n3_subn, n3_lt, n3_le, n3_eq, n3_eqn, n3_neq, n3_and, n3_or, n3_shl, n3_i, n3_cl, ↓hbd_0, ↓hbd_1, ↓hbd_2, hk_ob_0, hk_rd_0, hk_rd_1, hk_rd_2, hk_al_0, hk_al_1, h3r_0, h3r_1, hk_wi_0, hk_wj_0, h3w_0, h3w_1, h3v_0, hk_kI, hk_kJ, hk_kA, hk_kB, A_eq, A_ne, A_row, B_eq, B_ne, B_row, I_eq, I_ne, J_eq, J_ne, Option.bind_some, Option.some.injEq, if_true, if_false, eq_self, true_or, or_true, true_and, and_true, false_or, or_false, not_true_eq_false, not_false_eq_true, Classical.not_not, nar_b0, nar_b1, rz_0, rz_1, rz_i, ite01, Nat.add_zero, Nat.zero_add, Nat.one_mul, mul12, reduceIte, ra_z0, Nat.reduceEqDiff, Nat.reduceLT, Nat.reduceLeDiff, Nat.reduceAdd, Nat.reduceMul, Nat.reduceSub, Nat.reduceDiv, Nat.reduceMod, Bool.false_eq_true, false_and, and_false, reduceCtorEq]
        · rw [b8, t3.1 19 (by decide), a19, if_pos rfl]
        · rw [b9 _ (by omega), t3.1 20 (by decide), a20, if_pos rfl]
        · rw [b8, t3.1 19 (by decide), a19, if_neg (by omega)]
        · rw [b9 _ (by omega), t3.1 20 (by decide), a20, if_neg (by omega)]
    have st2 : fX8_readClause N 16 (hp κ) = (nX8_readClause_0 N 16 (hp κ)).bind fun q => ra_rz q.1 q.2 := by
      unfold fX8_readClause
      simp (maxSteps := 400000) (disch := omega) only [n3_l, n3_add, n3_mul, n3_sub, n3_subn, n3_lt, n3_le, n3_eq, n3_eqn, n3_neq, n3_and, n3_or, n3_shl, n3_i, n3_cl, ↓hbd_0, ↓hbd_1, ↓hbd_2, hk_ob_0, hk_rd_0, hk_rd_1, hk_rd_2, hk_al_0, hk_al_1, h3r_0, h3r_1, hk_wi_0, hk_wj_0, h3w_0, h3w_1, h3v_0, hk_kI, hk_kJ, hk_kA, hk_kB, A_eq, A_ne, A_row, B_eq, B_ne, B_row, I_eq, I_ne, J_eq, J_ne, Option.bind_some, Option.some.injEq, if_true, if_false, eq_self, true_or, or_true, true_and, and_true, false_or, or_false, not_true_eq_false, not_false_eq_true, Classical.not_not, nar_b0, nar_b1, rz_0, rz_1, rz_i, ite01, Nat.add_zero, Nat.zero_add, Nat.one_mul, mul12, reduceIte, ra_z0, Nat.reduceEqDiff, Nat.reduceLT, Nat.reduceLeDiff, Nat.reduceAdd, Nat.reduceMul, Nat.reduceSub, Nat.reduceDiv, Nat.reduceMod, Bool.false_eq_true, false_and, and_false, reduceCtorEq]
    rw [st2, st]
    by_cases c4 : g = 4
    · rw [if_pos c4, if_pos c4]
      exact fin κ2 _ k f K vOne (cS.refl _) p2 (by omega) (Nat.le_refl _) (fun _ _ => rfl) (Or.inr ⟨rfl, rfl⟩) vOne_t.o
    · rw [if_neg c4, if_neg c4]
      have hr := c_readSum N (B := B) (n := n) hN 9 0 (by omega) (by omega) κ2 (nxt B n j) k f K p2 (by omega)
      cases hq : pSum B n 9 0 (nxt B n j) k with
      | inl e =>
        rw [hq] at hr
        obtain ⟨κ3, e3, s3, q3⟩ := hr
        refine ⟨κ3, ?_, s1'.trans (s2.trans s3).up, q3⟩
        simp (maxSteps := 400000) (disch := omega) only [n3_l, n3_add, n3_mul, n3_sub, n3_subn, n3_lt, n3_le, n3_eq, n3_eqn, n3_neq, n3_and, n3_or, n3_shl, n3_i, n3_cl, ↓hbd_0, ↓hbd_1, ↓hbd_2, hk_ob_0, hk_rd_0, hk_rd_1, hk_rd_2, hk_al_0, hk_al_1, h3r_0, h3r_1, hk_wi_0, hk_wj_0, h3w_0, h3w_1, h3v_0, hk_kI, hk_kJ, hk_kA, hk_kB, A_eq, A_ne, A_row, B_eq, B_ne, B_row, I_eq, I_ne, J_eq, J_ne, Option.bind_some, Option.some.injEq, if_true, if_false, eq_self, true_or, or_true, true_and, and_true, false_or, or_false, not_true_eq_false, not_false_eq_true, Classical.not_not, nar_b0, nar_b1, rz_0, rz_1, rz_i, ite01, Nat.add_zero, Nat.zero_add, Nat.one_mul, mul12, reduceIte, ra_z0, Nat.reduceEqDiff, Nat.reduceLT, Nat.reduceLeDiff, Nat.reduceAdd, Nat.reduceMul, Nat.reduceSub, Nat.reduceDiv, Nat.reduceMod, Bool.false_eq_true, false_and, and_false, reduceCtorEq, e0, e3]
      | inr tt =>
        obtain ⟨j2, k2, v⟩ := tt
        rw [hq] at hr
        obtain ⟨κ3, f2, K2, e3, s3, p3, b1, b2, b3, b4, b5, b6, b7, b8⟩ := hr
        have k50 := p3.2.2.2.1
        have r := fin κ3 j2 k2 f2 K2 v s3 p3 (by omega) (by omega) b1 (Or.inl ⟨k2 - k, by omega, b6⟩) b7
        have e5 : (((fX8_readSum N 16 (n3 0) (hp κ2)).bind fun q10 => if q10.1 = n3 0 then some (n3 0, q10.2) else nX8_readClause_56 N 16 q10.2).bind fun q => ra_rz q.1 q.2) = (nX8_readClause_56 N 16 (hp κ3)).bind fun q => ra_rz q.1 q.2 := by
          rw [e0, e3, Option.bind_some, if_neg (show ¬ n3 1 = n3 0 by decide)]
        rw [e5]
        exact r
  · rw [if_neg c5] at hh ⊢
    refine ⟨κ, ?_, same.refl _ _ _, h.2.1.2.1⟩
    simp (maxSteps := 400000) (disch := omega) only [n3_l, n3_add, n3_mul, n3_sub, n3_subn, n3_lt, n3_le, n3_eq, n3_eqn, n3_neq, n3_and, n3_or, n3_shl, n3_i, n3_cl, ↓hbd_0, ↓hbd_1, ↓hbd_2, hk_ob_0, hk_rd_0, hk_rd_1, hk_rd_2, hk_al_0, hk_al_1, h3r_0, h3r_1, hk_wi_0, hk_wj_0, h3w_0, h3w_1, h3v_0, hk_kI, hk_kJ, hk_kA, hk_kB, A_eq, A_ne, A_row, B_eq, B_ne, B_row, I_eq, I_ne, J_eq, J_ne, Option.bind_some, Option.some.injEq, if_true, if_false, eq_self, true_or, or_true, true_and, and_true, false_or, or_false, not_true_eq_false, not_false_eq_true, Classical.not_not, nar_b0, nar_b1, rz_0, rz_1, rz_i, ite01, Nat.add_zero, Nat.zero_add, Nat.one_mul, mul12, reduceIte, ra_z0, Nat.reduceEqDiff, Nat.reduceLT, Nat.reduceLeDiff, Nat.reduceAdd, Nat.reduceMul, Nat.reduceSub, Nat.reduceDiv, Nat.reduceMod, Bool.false_eq_true, false_and, and_false, reduceCtorEq, fX8_readClause, nX8_readClause_56, nX8_readClause_0, hh]
end
