/-! texts told: values, and the class's machine -/
abbrev valT : Type := (Nat → Int32) → Option Int
def limV (x : Int) : Option Int := if -1000000000 ≤ x ∧ x ≤ 1000000000 then some x else none
def opV (o : Nat) (a b : Int) : Option Int := if o = 0 then limV (a + b) else if o = 1 then limV (a - b) else if o = 2 then limV (a * b) else if o = 3 then (if b = 0 then none else limV (a.tdiv b)) else if o = 4 then some (if a < b then 1 else 0) else if o = 5 then some (if b < a then 1 else 0) else some (if a = b then 1 else 0)
def vBin (o : Nat) (v w : valT) : valT := fun X => match v X with
  | none => none
  | some a => match w X with
    | none => none
    | some b => opV o a b
def vNot (v : valT) : valT := fun X => match v X with
  | none => none
  | some a => some (1 - a)
def vAO (o : Int) (v w : valT) : valT := fun X => match v X with
  | none => none
  | some a => if a = o then some a else w X
def vO (v : valT) : Prop := ∀ X a, v X = some a → -1000000000 ≤ a ∧ a ≤ 1000000000
def vT (v : valT) : Prop := ∀ X a, v X = some a → a = 0 ∨ a = 1
theorem vT.o {v : valT} (h : vT v) : vO v := fun X a e => by rcases h X a e with z | z <;> omega
theorem limV_ok {x a : Int} (h : limV x = some a) : a = x ∧ -1000000000 ≤ a ∧ a ≤ 1000000000 := by
  unfold limV at h
  split at h
  · have := Option.some.inj h; omega
  · cases h
theorem opV_ok {o : Nat} {a b c : Int} (h : opV o a b = some c) : -1000000000 ≤ c ∧ c ≤ 1000000000 := by
  unfold opV at h
  split at h
  · exact (limV_ok h).2
  · split at h
    · exact (limV_ok h).2
    · split at h
      · exact (limV_ok h).2
      · split at h
        · split at h
          · cases h
          · exact (limV_ok h).2
        · split at h
          · have := Option.some.inj h; split at this <;> omega
          · split at h
            · have := Option.some.inj h; split at this <;> omega
            · have := Option.some.inj h; split at this <;> omega
theorem opV_t {o : Nat} {a b c : Int} (ho : 4 ≤ o) (h : opV o a b = some c) : c = 0 ∨ c = 1 := by
  unfold opV at h
  rw [if_neg (by omega), if_neg (by omega), if_neg (by omega), if_neg (by omega)] at h
  split at h
  · have := Option.some.inj h; split at this <;> omega
  · split at h
    · have := Option.some.inj h; split at this <;> omega
    · have := Option.some.inj h; split at this <;> omega
theorem vBin_o {o : Nat} {v w : valT} : vO (vBin o v w) := by
  intro X a e
  unfold vBin at e
  split at e
  · cases e
  · split at e
    · cases e
    · exact opV_ok e
theorem vBin_t {o : Nat} {v w : valT} (ho : 4 ≤ o) : vT (vBin o v w) := by
  intro X a e
  unfold vBin at e
  split at e
  · cases e
  · split at e
    · cases e
    · exact opV_t ho e
theorem vNot_t {v : valT} (h : vT v) : vT (vNot v) := by
  intro X a e
  unfold vNot at e
  split at e
  · cases e
  · rename_i b hb
    have := h X b hb
    have := Option.some.inj e
    omega
theorem vAO_t {o : Int} {v w : valT} (h : vT v) (g : vT w) : vT (vAO o v w) := by
  intro X a e
  unfold vAO at e
  split at e
  · cases e
  · rename_i b hb
    split at e
    · have := h X b hb
      have := Option.some.inj e
      omega
    · exact g X a e
theorem vNot2 (v : valT) : vNot (vNot v) = v := by
  funext X
  unfold vNot
  cases v X with
  | none => rfl
  | some a => show some (1 - (1 - a)) = some a; congr 1; omega
theorem z9_toInt {x : Int} (h : -2147483648 ≤ x) (h' : x ≤ 2147483647) : (z3 x).toInt = x := Int32.toInt_ofInt_of_le (by omega) (by omega)
theorem z9_long {x : Int} (h : -2147483648 ≤ x) (h' : x ≤ 2147483647) : (z3 x).toInt64 = Int64.ofInt x := by
  rw [← Int64.toInt_inj, i_toL, z9_toInt h h']
  exact (Int64.toInt_ofInt_of_le (by omega) (by omega)).symm
theorem l9_toInt {x : Int} (h : -9000000000000000000 ≤ x) (h' : x ≤ 9000000000000000000) : (Int64.ofInt x).toInt = x := Int64.toInt_ofInt_of_le (by omega) (by omega)
theorem l_le {x y : Int64} : x ≤ y ↔ x.toInt ≤ y.toInt := Int64.le_iff_toInt_le
theorem l_lt {x y : Int64} : x < y ↔ x.toInt < y.toInt := Int64.lt_iff_toInt_lt
theorem c_reckon115 (N : Nat) (h : ra_H) {x : Int} (h1 : -4000000000000000000 ≤ x) (h2 : x ≤ 4000000000000000000) : nX0_reckon_115 N (Int64.ofInt x) h = some (tellI (limV x), h) := by
  have e1 : (1000000000 : Int64).toInt = 1000000000 := by decide
  have e2 : (-1000000000 : Int64).toInt = -1000000000 := by decide
  have c1 : lg_cmp (Int64.ofInt x) 1000000000 ≤ 0 ↔ x ≤ 1000000000 := by
    show lg_cmp (Int64.ofInt x) 1000000000 ≤ n3 0 ↔ _
    rw [lg3_le, l_le, l9_toInt (by omega) (by omega), e1]
  have c2 : lg_cmp (Int64.ofInt x) (-1000000000) < 0 ↔ x < -1000000000 := by
    show lg_cmp (Int64.ofInt x) (-1000000000) < n3 0 ↔ _
    rw [lg3_lt, l_lt, l9_toInt (by omega) (by omega), e2]
  have e3 : (-2000000000 : Int32) = -n3 2000000000 := by decide
  unfold nX0_reckon_115 nX0_reckon_131 nX0_reckon_138 limV
  by_cases g1 : x ≤ 1000000000
  · rw [if_pos (c1.mpr g1)]
    by_cases g2 : x < -1000000000
    · rw [if_pos (c2.mpr g2), if_neg (by omega), e3]; rfl
    · rw [if_neg (fun z => g2 (c2.mp z)), if_pos (by omega)]
      show some (Int64.toInt32 (Int64.ofInt x), h) = some (Int32.ofInt x, h)
      rw [Int64.toInt32_ofInt]
  · rw [if_neg (fun z => g1 (c1.mp z)), if_neg (by omega), e3]; rfl
theorem c_reckon (N : Nat) (h : ra_H) {o : Nat} {a b : Int} (ho : o ≤ 6) (a1 : -1000000000 ≤ a) (a2 : a ≤ 1000000000) (b1 : -1000000000 ≤ b) (b2 : b ≤ 1000000000) : fX0_reckon N (n3 (2 + o)) (z3 a) (z3 b) h = some (tellI (opV o a b), h) := by
  have la := z9_long (x := a) (by omega) (by omega)
  have lb := z9_long (x := b) (by omega) (by omega)
  have zl : z3 a < z3 b ↔ a < b := by rw [i_lt, z9_toInt (by omega) (by omega), z9_toInt (by omega) (by omega)]
  have zle : z3 a ≤ z3 b ↔ a ≤ b := by rw [i_le, z9_toInt (by omega) (by omega), z9_toInt (by omega) (by omega)]
  have ze : z3 a = z3 b ↔ a = b := by rw [i_eq, z9_toInt (by omega) (by omega), z9_toInt (by omega) (by omega)]
  have z0 : z3 b = n3 0 ↔ b = 0 := by rw [i_eq, z9_toInt (by omega) (by omega), n3_toInt (by omega)]; rfl
  have m1 : -1000000000000000000 ≤ a * b ∧ a * b ≤ 1000000000000000000 := by
    have h1 : (a * b).natAbs ≤ 1000000000 * 1000000000 := by
      rw [Int.natAbs_mul]
      exact Nat.mul_le_mul (by omega) (by omega)
    omega
  have d1 : -1000000000 ≤ a.tdiv b ∧ a.tdiv b ≤ 1000000000 := by
    have h1 : (a.tdiv b).natAbs ≤ a.natAbs := by rw [Int.natAbs_tdiv]; exact Nat.div_le_self _ _
    omega
  unfold fX0_reckon nX0_reckon_0 opV
  rcases (by omega : o = 0 ∨ o = 1 ∨ o = 2 ∨ o = 3 ∨ o = 4 ∨ o = 5 ∨ o = 6) with e | e | e | e | e | e | e <;> subst e
  · simp (maxSteps := 400000) (disch := omega) only [n3_l, n3_add, n3_mul, n3_sub, n3_subn, n3_lt, n3_le, n3_eq, n3_eqn, n3_neq, n3_and, n3_or, n3_shl, n3_i, n3_cl, ↓hbd_0, ↓hbd_1, ↓hbd_2, hk_ob_0, hk_rd_0, hk_rd_1, hk_rd_2, hk_al_0, hk_al_1, h3r_0, h3r_1, hk_wi_0, hk_wj_0, h3w_0, h3w_1, h3v_0, hk_kI, hk_kJ, hk_kA, hk_kB, A_eq, A_ne, A_row, B_eq, B_ne, B_row, I_eq, I_ne, J_eq, J_ne, Option.bind_some, Option.some.injEq, if_true, if_false, eq_self, true_or, or_true, true_and, and_true, false_or, or_false, not_true_eq_false, not_false_eq_true, Classical.not_not, nar_b0, nar_b1, rz_0, rz_1, rz_i, ite01, Nat.add_zero, Nat.zero_add, Nat.one_mul, mul12, reduceIte, ra_z0, Nat.reduceEqDiff, Nat.reduceLT, Nat.reduceLeDiff, Nat.reduceAdd, Nat.reduceMul, Nat.reduceSub, Nat.reduceDiv, Nat.reduceMod, Bool.false_eq_true, false_and, and_false, reduceCtorEq, la, lb]
    rw [← Int64.ofInt_add]
    exact c_reckon115 N h (by omega) (by omega)
  · simp (maxSteps := 400000) (disch := omega) only [n3_l, n3_add, n3_mul, n3_sub, n3_subn, n3_lt, n3_le, n3_eq, n3_eqn, n3_neq, n3_and, n3_or, n3_shl, n3_i, n3_cl, ↓hbd_0, ↓hbd_1, ↓hbd_2, hk_ob_0, hk_rd_0, hk_rd_1, hk_rd_2, hk_al_0, hk_al_1, h3r_0, h3r_1, hk_wi_0, hk_wj_0, h3w_0, h3w_1, h3v_0, hk_kI, hk_kJ, hk_kA, hk_kB, A_eq, A_ne, A_row, B_eq, B_ne, B_row, I_eq, I_ne, J_eq, J_ne, Option.bind_some, Option.some.injEq, if_true, if_false, eq_self, true_or, or_true, true_and, and_true, false_or, or_false, not_true_eq_false, not_false_eq_true, Classical.not_not, nar_b0, nar_b1, rz_0, rz_1, rz_i, ite01, Nat.add_zero, Nat.zero_add, Nat.one_mul, mul12, reduceIte, ra_z0, Nat.reduceEqDiff, Nat.reduceLT, Nat.reduceLeDiff, Nat.reduceAdd, Nat.reduceMul, Nat.reduceSub, Nat.reduceDiv, Nat.reduceMod, Bool.false_eq_true, false_and, and_false, reduceCtorEq, la, lb]
    rw [← Int64.ofInt_sub]
    exact c_reckon115 N h (by omega) (by omega)
  · simp (maxSteps := 400000) (disch := omega) only [n3_l, n3_add, n3_mul, n3_sub, n3_subn, n3_lt, n3_le, n3_eq, n3_eqn, n3_neq, n3_and, n3_or, n3_shl, n3_i, n3_cl, ↓hbd_0, ↓hbd_1, ↓hbd_2, hk_ob_0, hk_rd_0, hk_rd_1, hk_rd_2, hk_al_0, hk_al_1, h3r_0, h3r_1, hk_wi_0, hk_wj_0, h3w_0, h3w_1, h3v_0, hk_kI, hk_kJ, hk_kA, hk_kB, A_eq, A_ne, A_row, B_eq, B_ne, B_row, I_eq, I_ne, J_eq, J_ne, Option.bind_some, Option.some.injEq, if_true, if_false, eq_self, true_or, or_true, true_and, and_true, false_or, or_false, not_true_eq_false, not_false_eq_true, Classical.not_not, nar_b0, nar_b1, rz_0, rz_1, rz_i, ite01, Nat.add_zero, Nat.zero_add, Nat.one_mul, mul12, reduceIte, ra_z0, Nat.reduceEqDiff, Nat.reduceLT, Nat.reduceLeDiff, Nat.reduceAdd, Nat.reduceMul, Nat.reduceSub, Nat.reduceDiv, Nat.reduceMod, Bool.false_eq_true, false_and, and_false, reduceCtorEq, la, lb]
    rw [← Int64.ofInt_mul]
    exact c_reckon115 N h (by omega) (by omega)
  · by_cases c : b = 0
    · have c' := z0.mpr c
      simp (maxSteps := 400000) (disch := omega) only [n3_l, n3_add, n3_mul, n3_sub, n3_subn, n3_lt, n3_le, n3_eq, n3_eqn, n3_neq, n3_and, n3_or, n3_shl, n3_i, n3_cl, ↓hbd_0, ↓hbd_1, ↓hbd_2, hk_ob_0, hk_rd_0, hk_rd_1, hk_rd_2, hk_al_0, hk_al_1, h3r_0, h3r_1, hk_wi_0, hk_wj_0, h3w_0, h3w_1, h3v_0, hk_kI, hk_kJ, hk_kA, hk_kB, A_eq, A_ne, A_row, B_eq, B_ne, B_row, I_eq, I_ne, J_eq, J_ne, Option.bind_some, Option.some.injEq, if_true, if_false, eq_self, true_or, or_true, true_and, and_true, false_or, or_false, not_true_eq_false, not_false_eq_true, Classical.not_not, nar_b0, nar_b1, rz_0, rz_1, rz_i, ite01, Nat.add_zero, Nat.zero_add, Nat.one_mul, mul12, reduceIte, ra_z0, Nat.reduceEqDiff, Nat.reduceLT, Nat.reduceLeDiff, Nat.reduceAdd, Nat.reduceMul, Nat.reduceSub, Nat.reduceDiv, Nat.reduceMod, Bool.false_eq_true, false_and, and_false, reduceCtorEq, c', c]
      rfl
    · have c' : ¬ z3 b = n3 0 := fun z => c (z0.mp z)
      have dv : (z3 a / z3 b).toInt64 = Int64.ofInt (a.tdiv b) := by
        rw [← Int64.toInt_inj, i_toL, l9_toInt (by omega) (by omega), Int32.toInt_div, z9_toInt (by omega) (by omega), z9_toInt (by omega) (by omega)]
        exact Int.bmod_eq_of_le (by omega) (by omega)
      simp (maxSteps := 400000) (disch := omega) only [n3_l, n3_add, n3_mul, n3_sub, n3_subn, n3_lt, n3_le, n3_eq, n3_eqn, n3_neq, n3_and, n3_or, n3_shl, n3_i, n3_cl, ↓hbd_0, ↓hbd_1, ↓hbd_2, hk_ob_0, hk_rd_0, hk_rd_1, hk_rd_2, hk_al_0, hk_al_1, h3r_0, h3r_1, hk_wi_0, hk_wj_0, h3w_0, h3w_1, h3v_0, hk_kI, hk_kJ, hk_kA, hk_kB, A_eq, A_ne, A_row, B_eq, B_ne, B_row, I_eq, I_ne, J_eq, J_ne, Option.bind_some, Option.some.injEq, if_true, if_false, eq_self, true_or, or_true, true_and, and_true, false_or, or_false, not_true_eq_false, not_false_eq_true, Classical.not_not, nar_b0, nar_b1, rz_0, rz_1, rz_i, ite01, Nat.add_zero, Nat.zero_add, Nat.one_mul, mul12, reduceIte, ra_z0, Nat.reduceEqDiff, Nat.reduceLT, Nat.reduceLeDiff, Nat.reduceAdd, Nat.reduceMul, Nat.reduceSub, Nat.reduceDiv, Nat.reduceMod, Bool.false_eq_true, false_and, and_false, reduceCtorEq, c', c, dv]
      exact c_reckon115 N h (by omega) (by omega)
  · by_cases c : a < b
    · simp (maxSteps := 400000) (disch := omega) only [n3_l, n3_add, n3_mul, n3_sub, n3_subn, n3_lt, n3_le, n3_eq, n3_eqn, n3_neq, n3_and, n3_or, n3_shl, n3_i, n3_cl, ↓hbd_0, ↓hbd_1, ↓hbd_2, hk_ob_0, hk_rd_0, hk_rd_1, hk_rd_2, hk_al_0, hk_al_1, h3r_0, h3r_1, hk_wi_0, hk_wj_0, h3w_0, h3w_1, h3v_0, hk_kI, hk_kJ, hk_kA, hk_kB, A_eq, A_ne, A_row, B_eq, B_ne, B_row, I_eq, I_ne, J_eq, J_ne, Option.bind_some, Option.some.injEq, if_true, if_false, eq_self, true_or, or_true, true_and, and_true, false_or, or_false, not_true_eq_false, not_false_eq_true, Classical.not_not, nar_b0, nar_b1, rz_0, rz_1, rz_i, ite01, Nat.add_zero, Nat.zero_add, Nat.one_mul, mul12, reduceIte, ra_z0, Nat.reduceEqDiff, Nat.reduceLT, Nat.reduceLeDiff, Nat.reduceAdd, Nat.reduceMul, Nat.reduceSub, Nat.reduceDiv, Nat.reduceMod, Bool.false_eq_true, false_and, and_false, reduceCtorEq, zl, c, nX0_reckon_92]; rfl
    · simp (maxSteps := 400000) (disch := omega) only [n3_l, n3_add, n3_mul, n3_sub, n3_subn, n3_lt, n3_le, n3_eq, n3_eqn, n3_neq, n3_and, n3_or, n3_shl, n3_i, n3_cl, ↓hbd_0, ↓hbd_1, ↓hbd_2, hk_ob_0, hk_rd_0, hk_rd_1, hk_rd_2, hk_al_0, hk_al_1, h3r_0, h3r_1, hk_wi_0, hk_wj_0, h3w_0, h3w_1, h3v_0, hk_kI, hk_kJ, hk_kA, hk_kB, A_eq, A_ne, A_row, B_eq, B_ne, B_row, I_eq, I_ne, J_eq, J_ne, Option.bind_some, Option.some.injEq, if_true, if_false, eq_self, true_or, or_true, true_and, and_true, false_or, or_false, not_true_eq_false, not_false_eq_true, Classical.not_not, nar_b0, nar_b1, rz_0, rz_1, rz_i, ite01, Nat.add_zero, Nat.zero_add, Nat.one_mul, mul12, reduceIte, ra_z0, Nat.reduceEqDiff, Nat.reduceLT, Nat.reduceLeDiff, Nat.reduceAdd, Nat.reduceMul, Nat.reduceSub, Nat.reduceDiv, Nat.reduceMod, Bool.false_eq_true, false_and, and_false, reduceCtorEq, zl, c, nX0_reckon_92]; rfl
  · by_cases c : a ≤ b
    · have c' : ¬ b < a := by omega
      simp (maxSteps := 400000) (disch := omega) only [n3_l, n3_add, n3_mul, n3_sub, n3_subn, n3_lt, n3_le, n3_eq, n3_eqn, n3_neq, n3_and, n3_or, n3_shl, n3_i, n3_cl, ↓hbd_0, ↓hbd_1, ↓hbd_2, hk_ob_0, hk_rd_0, hk_rd_1, hk_rd_2, hk_al_0, hk_al_1, h3r_0, h3r_1, hk_wi_0, hk_wj_0, h3w_0, h3w_1, h3v_0, hk_kI, hk_kJ, hk_kA, hk_kB, A_eq, A_ne, A_row, B_eq, B_ne, B_row, I_eq, I_ne, J_eq, J_ne, Option.bind_some, Option.some.injEq, if_true, if_false, eq_self, true_or, or_true, true_and, and_true, false_or, or_false, not_true_eq_false, not_false_eq_true, Classical.not_not, nar_b0, nar_b1, rz_0, rz_1, rz_i, ite01, Nat.add_zero, Nat.zero_add, Nat.one_mul, mul12, reduceIte, ra_z0, Nat.reduceEqDiff, Nat.reduceLT, Nat.reduceLeDiff, Nat.reduceAdd, Nat.reduceMul, Nat.reduceSub, Nat.reduceDiv, Nat.reduceMod, Bool.false_eq_true, false_and, and_false, reduceCtorEq, zle, c, c', nX0_reckon_103]; rfl
    · have c' : b < a := by omega
      simp (maxSteps := 400000) (disch := omega) only [n3_l, n3_add, n3_mul, n3_sub, n3_subn, n3_lt, n3_le, n3_eq, n3_eqn, n3_neq, n3_and, n3_or, n3_shl, n3_i, n3_cl, ↓hbd_0, ↓hbd_1, ↓hbd_2, hk_ob_0, hk_rd_0, hk_rd_1, hk_rd_2, hk_al_0, hk_al_1, h3r_0, h3r_1, hk_wi_0, hk_wj_0, h3w_0, h3w_1, h3v_0, hk_kI, hk_kJ, hk_kA, hk_kB, A_eq, A_ne, A_row, B_eq, B_ne, B_row, I_eq, I_ne, J_eq, J_ne, Option.bind_some, Option.some.injEq, if_true, if_false, eq_self, true_or, or_true, true_and, and_true, false_or, or_false, not_true_eq_false, not_false_eq_true, Classical.not_not, nar_b0, nar_b1, rz_0, rz_1, rz_i, ite01, Nat.add_zero, Nat.zero_add, Nat.one_mul, mul12, reduceIte, ra_z0, Nat.reduceEqDiff, Nat.reduceLT, Nat.reduceLeDiff, Nat.reduceAdd, Nat.reduceMul, Nat.reduceSub, Nat.reduceDiv, Nat.reduceMod, Bool.false_eq_true, false_and, and_false, reduceCtorEq, zle, c, c', nX0_reckon_103]; rfl
  · by_cases c : a = b
    · simp (maxSteps := 400000) (disch := omega) only [n3_l, n3_add, n3_mul, n3_sub, n3_subn, n3_lt, n3_le, n3_eq, n3_eqn, n3_neq, n3_and, n3_or, n3_shl, n3_i, n3_cl, ↓hbd_0, ↓hbd_1, ↓hbd_2, hk_ob_0, hk_rd_0, hk_rd_1, hk_rd_2, hk_al_0, hk_al_1, h3r_0, h3r_1, hk_wi_0, hk_wj_0, h3w_0, h3w_1, h3v_0, hk_kI, hk_kJ, hk_kA, hk_kB, A_eq, A_ne, A_row, B_eq, B_ne, B_row, I_eq, I_ne, J_eq, J_ne, Option.bind_some, Option.some.injEq, if_true, if_false, eq_self, true_or, or_true, true_and, and_true, false_or, or_false, not_true_eq_false, not_false_eq_true, Classical.not_not, nar_b0, nar_b1, rz_0, rz_1, rz_i, ite01, Nat.add_zero, Nat.zero_add, Nat.one_mul, mul12, reduceIte, ra_z0, Nat.reduceEqDiff, Nat.reduceLT, Nat.reduceLeDiff, Nat.reduceAdd, Nat.reduceMul, Nat.reduceSub, Nat.reduceDiv, Nat.reduceMod, Bool.false_eq_true, false_and, and_false, reduceCtorEq, ze, c, nX0_reckon_114]; rfl
    · simp (maxSteps := 400000) (disch := omega) only [n3_l, n3_add, n3_mul, n3_sub, n3_subn, n3_lt, n3_le, n3_eq, n3_eqn, n3_neq, n3_and, n3_or, n3_shl, n3_i, n3_cl, ↓hbd_0, ↓hbd_1, ↓hbd_2, hk_ob_0, hk_rd_0, hk_rd_1, hk_rd_2, hk_al_0, hk_al_1, h3r_0, h3r_1, hk_wi_0, hk_wj_0, h3w_0, h3w_1, h3v_0, hk_kI, hk_kJ, hk_kA, hk_kB, A_eq, A_ne, A_row, B_eq, B_ne, B_row, I_eq, I_ne, J_eq, J_ne, Option.bind_some, Option.some.injEq, if_true, if_false, eq_self, true_or, or_true, true_and, and_true, false_or, or_false, not_true_eq_false, not_false_eq_true, Classical.not_not, nar_b0, nar_b1, rz_0, rz_1, rz_i, ite01, Nat.add_zero, Nat.zero_add, Nat.one_mul, mul12, reduceIte, ra_z0, Nat.reduceEqDiff, Nat.reduceLT, Nat.reduceLeDiff, Nat.reduceAdd, Nat.reduceMul, Nat.reduceSub, Nat.reduceDiv, Nat.reduceMod, Bool.false_eq_true, false_and, and_false, reduceCtorEq, ze, c, nX0_reckon_114]; rfl
