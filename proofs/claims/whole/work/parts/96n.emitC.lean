/-! the class's reader: where it stands, what it lays down -/
def cS (κ κ' : hk_T) : Prop := same [18] [(16, 2), (16, 6), (16, 8), (16, 9), (16, 10), (16, 11)] κ κ'
theorem cS.refl (κ : hk_T) : cS κ κ := same.refl _ _ _
theorem cS.trans {κ κ' κ'' : hk_T} (h : cS κ κ') (g : cS κ' κ'') : cS κ κ'' := same.trans h g
/-- at token j, k parts, f cells of code K -/
def cP (κ : hk_T) (B : Nat → Nat) (n j k f : Nat) (K : Nat → Nat) : Prop := cTape κ B n ∧ cTok κ B n j ∧ hk_I κ 16 8 = n3 k ∧ k ≤ 50 ∧ hk_I κ 16 6 = n3 f ∧ f ≤ 400 ∧ ∀ i, i < f → hk_A κ 18 i = n3 (K i)
section
variable (N : Nat) (κ : hk_T)
theorem c_advP {B : Nat → Nat} {n j k f : Nat} {K : Nat → Nat} (h : cP κ B n j k f K) (hN : 1000 < N) : ∃ κ', fX8_advance N 16 (hp κ) = some (hp κ') ∧ cS κ κ' ∧ cP κ' B n (nxt B n j) k f K := by
  obtain ⟨hT, ht, h8, hk, h6, hf, hK⟩ := h
  have le := tkE_le (B := B) ht.1
  obtain ⟨κ', e, s, t⟩ := c_advance N κ hT le.2.1 ht.2.2.1 hN
  refine ⟨κ', e, s.weak (by decide) (by decide), hT.same s (by decide) (by decide), t, by rw [s.2.2.1 16 8 (by decide)]; exact h8, hk, by rw [s.2.2.1 16 6 (by decide)]; exact h6, hf, by rw [s.1 18 (by decide)]; exact hK⟩
theorem c_emitP {B : Nat → Nat} {n j k f i w : Nat} {K : Nat → Nat} (h : cP κ B n j k f K) (hf : f < 400) : ∃ κ', fX8_emit N 16 (n3 i) (n3 w) (hp κ) = some (hp κ') ∧ cS κ κ' ∧ cP κ' B n j k (f + 1) (fun x => if x = f then 16 * w + i else K x) := by
  obtain ⟨hT, ht, h8, hk, h6, -, hK⟩ := h
  have s : same [18] [(16, 6)] κ (hk_wI (hk_wA κ 18 f (n3 (w * 16 + i))) 16 6 (n3 (f + 1))) := ((same.refl _ _ _).wA (by decide)).wI (by decide)
  refine ⟨hk_wI (hk_wA κ 18 f (n3 (w * 16 + i))) 16 6 (n3 (f + 1)), ?_, s.weak (by decide) (by decide), hT.same s (by decide) (by decide), ht.same s (by decide) (by decide) (by decide) (by decide), by rw [s.2.2.1 16 8 (by decide)]; exact h8, hk, I_eq, by omega, ?_⟩
  · simp (maxSteps := 400000) (disch := omega) only [n3_l, n3_add, n3_mul, n3_sub, n3_subn, n3_lt, n3_le, n3_eq, n3_eqn, n3_neq, n3_and, n3_or, n3_shl, n3_i, n3_cl, ↓hbd_0, ↓hbd_1, ↓hbd_2, hk_ob_0, hk_rd_0, hk_rd_1, hk_rd_2, hk_al_0, hk_al_1, h3r_0, h3r_1, hk_wi_0, hk_wj_0, h3w_0, h3w_1, h3v_0, hk_kI, hk_kJ, hk_kA, hk_kB, A_eq, A_ne, A_row, B_eq, B_ne, B_row, I_eq, I_ne, J_eq, J_ne, Option.bind_some, Option.some.injEq, if_true, if_false, eq_self, true_or, or_true, true_and, and_true, false_or, or_false, not_true_eq_false, not_false_eq_true, Classical.not_not, nar_b0, nar_b1, rz_0, rz_1, rz_i, ite01, Nat.add_zero, Nat.zero_add, Nat.one_mul, mul12, reduceIte, ra_z0, Nat.reduceEqDiff, Nat.reduceLT, Nat.reduceLeDiff, Nat.reduceAdd, Nat.reduceMul, Nat.reduceSub, Nat.reduceDiv, Nat.reduceMod, Bool.false_eq_true, false_and, and_false, reduceCtorEq, fX8_emit, nX8_emit_37, nX8_emit_0, h6, hf]
  · intro x hx
    show hk_A (hk_wA κ 18 f _) 18 x = n3 (if x = f then 16 * w + i else K x)
    by_cases e : x = f
    · rw [A_eq e, if_pos e, Nat.mul_comm]
    · rw [A_ne (Or.inr e), if_neg e]; exact hK x (by omega)
theorem c_patchP {B : Nat → Nat} {n j k f i p : Nat} {K : Nat → Nat} (h : cP κ B n j k f K) (hp' : p < f) : ∃ κ', fX8_patch N 16 (n3 i) (n3 p) (hp κ) = some (hp κ') ∧ cS κ κ' ∧ cP κ' B n j k f (fun x => if x = p then 16 * f + i else K x) := by
  obtain ⟨hT, ht, h8, hk, h6, hf, hK⟩ := h
  have s : same [18] [] κ (hk_wA κ 18 p (n3 (f * 16 + i))) := (same.refl _ _ _).wA (by decide)
  refine ⟨hk_wA κ 18 p (n3 (f * 16 + i)), ?_, s.weak (by decide) (by decide), hT.same s (by decide) (by decide), ht.same s (by decide) (by decide) (by decide) (by decide), by rw [s.2.2.1 16 8 (by decide)]; exact h8, hk, by rw [s.2.2.1 16 6 (by decide)]; exact h6, hf, ?_⟩
  · simp (maxSteps := 400000) (disch := omega) only [n3_l, n3_add, n3_mul, n3_sub, n3_subn, n3_lt, n3_le, n3_eq, n3_eqn, n3_neq, n3_and, n3_or, n3_shl, n3_i, n3_cl, ↓hbd_0, ↓hbd_1, ↓hbd_2, hk_ob_0, hk_rd_0, hk_rd_1, hk_rd_2, hk_al_0, hk_al_1, h3r_0, h3r_1, hk_wi_0, hk_wj_0, h3w_0, h3w_1, h3v_0, hk_kI, hk_kJ, hk_kA, hk_kB, A_eq, A_ne, A_row, B_eq, B_ne, B_row, I_eq, I_ne, J_eq, J_ne, Option.bind_some, Option.some.injEq, if_true, if_false, eq_self, true_or, or_true, true_and, and_true, false_or, or_false, not_true_eq_false, not_false_eq_true, Classical.not_not, nar_b0, nar_b1, rz_0, rz_1, rz_i, ite01, Nat.add_zero, Nat.zero_add, Nat.one_mul, mul12, reduceIte, ra_z0, Nat.reduceEqDiff, Nat.reduceLT, Nat.reduceLeDiff, Nat.reduceAdd, Nat.reduceMul, Nat.reduceSub, Nat.reduceDiv, Nat.reduceMod, Bool.false_eq_true, false_and, and_false, reduceCtorEq, fX8_patch, nX8_patch_23, nX8_patch_0, h6, hp']
  · intro x hx
    show hk_A (hk_wA κ 18 p _) 18 x = n3 (if x = p then 16 * f + i else K x)
    by_cases e : x = p
    · rw [A_eq e, if_pos e, Nat.mul_comm]
    · rw [A_ne (Or.inr e), if_neg e]; exact hK x hx
/-- what a read comes to: r by the pure reader -/
def cRet (κ : hk_T) (B : Nat → Nat) (n j k f : Nat) (K : Nat → Nat) (tst : Prop) (r : pRT) (run : Option (Int32 × ra_H)) : Prop := match r with
  | .inl e => ∃ κ', run = some (n3 0, hp κ') ∧ cS κ κ' ∧ hk_I κ' 16 2 = n3 e
  | .inr (j', k', v) => ∃ κ' f' K', run = some (n3 1, hp κ') ∧ cS κ κ' ∧ cP κ' B n j' k' f' K' ∧ (∀ i, i < f → K' i = K i) ∧ f < f' ∧ f' + j ≤ f + j' ∧ k < k' ∧ j < j' ∧ cFr K' f f' (k' - k) v ∧ vO v ∧ (tst → vT v)
end
