/-! what books may have, what must be had -/
def msk (q : Nat → Prop) [DecidablePred q] : Nat → Nat
  | 0 => 0
  | l + 1 => if q l then msk q l ||| 2 ^ l else msk q l
theorem msk_bit (q : Nat → Prop) [DecidablePred q] (l : Nat) : ∀ L, (msk q L).testBit l = true ↔ l < L ∧ q l := by
  intro L
  induction L with
  | zero =>
    show Nat.testBit 0 l = true ↔ _
    rw [Nat.zero_testBit]
    constructor
    · intro h; cases h
    · rintro ⟨h, -⟩; omega
  | succ L ih =>
    rw [msk]
    by_cases c : q L
    · rw [if_pos c, tb_or, Bool.or_eq_true, ih, decide_eq_true_iff]
      constructor
      · rintro (⟨h1, h2⟩ | h)
        · exact ⟨by omega, h2⟩
        · rw [← h]; exact ⟨by omega, c⟩
      · rintro ⟨h1, h2⟩
        by_cases e : L = l
        · exact Or.inr e
        · exact Or.inl ⟨by omega, h2⟩
    · rw [if_neg c, ih]
      constructor
      · rintro ⟨h1, h2⟩; exact ⟨by omega, h2⟩
      · rintro ⟨h1, h2⟩
        by_cases e : l = L
        · rw [e] at h2; exact absurd h2 c
        · exact ⟨by omega, h2⟩
theorem msk_lt (q : Nat → Prop) [DecidablePred q] : ∀ L, msk q L < 2 ^ L := by
  intro L
  induction L with
  | zero => exact Nat.one_pos
  | succ L ih =>
    have h2 : 2 ^ L < 2 ^ (L + 1) := Nat.pow_lt_pow_right (by omega) (by omega)
    rw [msk]
    split
    · exact Nat.or_lt_two_pow (by omega) h2
    · omega
/-- without -/
def an (m x : Nat) : Nat := m ^^^ (m &&& x)
theorem an_bit (m x l : Nat) : (an m x).testBit l = (m.testBit l && !x.testBit l) := by
  unfold an
  rw [Nat.testBit_xor, Nat.testBit_and]
  cases m.testBit l <;> cases x.testBit l <;> rfl
theorem an_lt {m x L : Nat} (h : m < 2 ^ L) : an m x < 2 ^ L := Nat.xor_lt_two_pow h (Nat.lt_of_le_of_lt Nat.and_le_left h)
theorem n3_an (m x : Nat) : n3 m &&& (n3 x ^^^ -n3 1) = n3 (an m x) := by
  apply Int32.toBitVec_inj.mp
  show BitVec.ofNat 32 m &&& (BitVec.ofNat 32 x ^^^ BitVec.allOnes 32) = BitVec.ofNat 32 (an m x)
  apply BitVec.eq_of_getLsbD_eq
  intro i hi
  rw [BitVec.getLsbD_and, BitVec.getLsbD_xor, BitVec.getLsbD_allOnes, BitVec.getLsbD_ofNat, BitVec.getLsbD_ofNat, BitVec.getLsbD_ofNat, an_bit, decide_eq_true hi]
  cases m.testBit i <;> cases x.testBit i <;> rfl
theorem z3_eq {x y : Int} (h : -100000000 ≤ x) (h' : x ≤ 100000000) (g : -100000000 ≤ y) (g' : y ≤ 100000000) : z3 x = z3 y ↔ x = y := by
  rw [i_eq, z3_toInt h h', z3_toInt g g']
section
variable (N : Nat) (κ : hk_T)
theorem c_canBeBest {P nB L l b : Nat} {a : Nat → Nat → Int} {u v : Nat → Int} {t : Nat → Nat} (ok : aOk a P nB L) (hw : wR κ P L a u v t) (hH : HI a P L u v t) (hl : l < L) (hb : b < nB) : fX10_canBeBest N 41 (n3 l) (n3 b) (hp κ) = some (if sh2 a l b = sh1 u l + sh1 v b then n3 1 else n3 0, hp κ) := by
  have bd := HI_b ok (Nat.le_refl _) hH
  obtain ⟨o1, o2, o3, o4, o5⟩ := ok
  obtain ⟨w1, w2, w3, w4, w5⟩ := hw
  have r48 : hk_A κ 48 ((l + 1) * 54 + b + 1) = z3 (a (l + 1) (b + 1)) := w5 (l + 1) (b + 1) (by omega) (by omega) (by omega) (by omega)
  have r42 := w2 (l + 1) (by omega)
  have r43 := w3 (b + 1) (by omega)
  have c1 := bd.1 (l + 1) (by omega) (by omega)
  have c2 := bd.2 (b + 1) (by omega) (by omega)
  have c3 := o4 (l + 1) (b + 1) (by omega) (by omega)
  unfold sh1 sh2
  by_cases c : a (l + 1) (b + 1) = u (l + 1) + v (b + 1)
  · have ce : z3 (a (l + 1) (b + 1)) = z3 (u (l + 1) + v (b + 1)) := by rw [c]
    simp (maxSteps := 400000) (disch := omega) only [n3_l, n3_add, n3_mul, n3_sub, n3_subn, n3_lt, n3_le, n3_eq, n3_eqn, n3_neq, n3_and, n3_or, n3_shl, n3_i, n3_cl, ↓hbd_0, ↓hbd_1, ↓hbd_2, hk_ob_0, hk_rd_0, hk_rd_1, hk_rd_2, hk_al_0, hk_al_1, h3r_0, h3r_1, hk_wi_0, hk_wj_0, h3w_0, h3w_1, h3v_0, hk_kI, hk_kJ, hk_kA, hk_kB, A_eq, A_ne, A_row, B_eq, B_ne, B_row, I_eq, I_ne, J_eq, J_ne, Option.bind_some, Option.some.injEq, if_true, if_false, eq_self, true_or, or_true, true_and, and_true, false_or, or_false, not_true_eq_false, not_false_eq_true, Classical.not_not, nar_b0, nar_b1, rz_0, rz_1, rz_i, ite01, Nat.add_zero, Nat.zero_add, Nat.one_mul, mul12, reduceIte, ra_z0, Nat.reduceEqDiff, Nat.reduceLT, Nat.reduceLeDiff, Nat.reduceAdd, Nat.reduceMul, Nat.reduceSub, Nat.reduceDiv, Nat.reduceMod, Bool.false_eq_true, false_and, and_false, reduceCtorEq, fX10_canBeBest, nX10_canBeBest_31, nX10_canBeBest_0, fX10_agreementOf, nX10_agreementOf_0, r48, r42, r43, z3_add, ce, c]
  · have ce : ¬ z3 (a (l + 1) (b + 1)) = z3 (u (l + 1) + v (b + 1)) := by rw [z3_eq (by omega) (by omega) (by omega) (by omega)]; exact c
    simp (maxSteps := 400000) (disch := omega) only [n3_l, n3_add, n3_mul, n3_sub, n3_subn, n3_lt, n3_le, n3_eq, n3_eqn, n3_neq, n3_and, n3_or, n3_shl, n3_i, n3_cl, ↓hbd_0, ↓hbd_1, ↓hbd_2, hk_ob_0, hk_rd_0, hk_rd_1, hk_rd_2, hk_al_0, hk_al_1, h3r_0, h3r_1, hk_wi_0, hk_wj_0, h3w_0, h3w_1, h3v_0, hk_kI, hk_kJ, hk_kA, hk_kB, A_eq, A_ne, A_row, B_eq, B_ne, B_row, I_eq, I_ne, J_eq, J_ne, Option.bind_some, Option.some.injEq, if_true, if_false, eq_self, true_or, or_true, true_and, and_true, false_or, or_false, not_true_eq_false, not_false_eq_true, Classical.not_not, nar_b0, nar_b1, rz_0, rz_1, rz_i, ite01, Nat.add_zero, Nat.zero_add, Nat.one_mul, mul12, reduceIte, ra_z0, Nat.reduceEqDiff, Nat.reduceLT, Nat.reduceLeDiff, Nat.reduceAdd, Nat.reduceMul, Nat.reduceSub, Nat.reduceDiv, Nat.reduceMod, Bool.false_eq_true, false_and, and_false, reduceCtorEq, fX10_canBeBest, nX10_canBeBest_31, nX10_canBeBest_0, fX10_agreementOf, nX10_agreementOf_0, r48, r42, r43, z3_add, ce, c]
theorem c_isWorth {P nB L l : Nat} {a : Nat → Nat → Int} {u v : Nat → Int} {t : Nat → Nat} (ok : aOk a P nB L) (hw : wR κ P L a u v t) (hH : HI a P L u v t) (hl : l < L) : fX10_isWorth N 41 (n3 l) (hp κ) = some (if 0 < sh1 u l then n3 1 else n3 0, hp κ) := by
  have bd := HI_b ok (Nat.le_refl _) hH
  have o2 := ok.2.1
  have r42 := hw.2.1 (l + 1) (by omega)
  have c1 := bd.1 (l + 1) (by omega) (by omega)
  unfold sh1
  by_cases c : 0 < u (l + 1)
  · have ce : ¬ z3 (u (l + 1)) ≤ n3 0 := by rw [i_le, z3_toInt (by omega) (by omega), n3_toInt (by omega)]; omega
    simp (maxSteps := 400000) (disch := omega) only [n3_l, n3_add, n3_mul, n3_sub, n3_subn, n3_lt, n3_le, n3_eq, n3_eqn, n3_neq, n3_and, n3_or, n3_shl, n3_i, n3_cl, ↓hbd_0, ↓hbd_1, ↓hbd_2, hk_ob_0, hk_rd_0, hk_rd_1, hk_rd_2, hk_al_0, hk_al_1, h3r_0, h3r_1, hk_wi_0, hk_wj_0, h3w_0, h3w_1, h3v_0, hk_kI, hk_kJ, hk_kA, hk_kB, A_eq, A_ne, A_row, B_eq, B_ne, B_row, I_eq, I_ne, J_eq, J_ne, Option.bind_some, Option.some.injEq, if_true, if_false, eq_self, true_or, or_true, true_and, and_true, false_or, or_false, not_true_eq_false, not_false_eq_true, Classical.not_not, nar_b0, nar_b1, rz_0, rz_1, rz_i, ite01, Nat.add_zero, Nat.zero_add, Nat.one_mul, mul12, reduceIte, ra_z0, Nat.reduceEqDiff, Nat.reduceLT, Nat.reduceLeDiff, Nat.reduceAdd, Nat.reduceMul, Nat.reduceSub, Nat.reduceDiv, Nat.reduceMod, Bool.false_eq_true, false_and, and_false, reduceCtorEq, fX10_isWorth, nX10_isWorth_16, nX10_isWorth_0, r42, ce, c]
  · have ce : z3 (u (l + 1)) ≤ n3 0 := by rw [i_le, z3_toInt (by omega) (by omega), n3_toInt (by omega)]; omega
    simp (maxSteps := 400000) (disch := omega) only [n3_l, n3_add, n3_mul, n3_sub, n3_subn, n3_lt, n3_le, n3_eq, n3_eqn, n3_neq, n3_and, n3_or, n3_shl, n3_i, n3_cl, ↓hbd_0, ↓hbd_1, ↓hbd_2, hk_ob_0, hk_rd_0, hk_rd_1, hk_rd_2, hk_al_0, hk_al_1, h3r_0, h3r_1, hk_wi_0, hk_wj_0, h3w_0, h3w_1, h3v_0, hk_kI, hk_kJ, hk_kA, hk_kB, A_eq, A_ne, A_row, B_eq, B_ne, B_row, I_eq, I_ne, J_eq, J_ne, Option.bind_some, Option.some.injEq, if_true, if_false, eq_self, true_or, or_true, true_and, and_true, false_or, or_false, not_true_eq_false, not_false_eq_true, Classical.not_not, nar_b0, nar_b1, rz_0, rz_1, rz_i, ite01, Nat.add_zero, Nat.zero_add, Nat.one_mul, mul12, reduceIte, ra_z0, Nat.reduceEqDiff, Nat.reduceLT, Nat.reduceLeDiff, Nat.reduceAdd, Nat.reduceMul, Nat.reduceSub, Nat.reduceDiv, Nat.reduceMod, Bool.false_eq_true, false_and, and_false, reduceCtorEq, fX10_isWorth, nX10_isWorth_16, nX10_isWorth_0, r42, ce, c]
/-- the masks -/
def uMk (a : Nat → Nat → Int) (u v : Nat → Int) (L b : Nat) : Nat := msk (fun l => a l b = u l + v b) L
def mayM (a : Nat → Nat → Int) (u v : Nat → Int) (L : Nat) : Nat → Nat
  | 0 => 0
  | b + 1 => mayM a u v L b ||| uMk a u v L b
/-- what must be had, k books from the end -/
def musK (a : Nat → Nat → Int) (u v : Nat → Int) (L n : Nat) : Nat → Nat
  | 0 => msk (fun l => 0 < u l) L
  | k + 1 => an (musK a u v L n k) (uMk a u v L (n - (k + 1)))
theorem mayM_lt (a : Nat → Nat → Int) (u v : Nat → Int) (L : Nat) : ∀ b, mayM a u v L b < 2 ^ L := by
  intro b
  induction b with
  | zero => exact Nat.two_pow_pos L
  | succ b ih => exact Nat.or_lt_two_pow ih (msk_lt _ L)
theorem musK_lt (a : Nat → Nat → Int) (u v : Nat → Int) (L n : Nat) : ∀ k, musK a u v L n k < 2 ^ L := by
  intro k
  induction k with
  | zero => exact msk_lt _ L
  | succ k ih => exact an_lt ih
theorem c_lookAhead {P nB L : Nat} {a : Nat → Nat → Int} {u v : Nat → Int} {t : Nat → Nat} (hB : hk_I κ 1 13 = n3 nB) (hLi : hk_I κ 1 15 = n3 L) (h40 : nB ≤ 40) (ok : aOk a P nB L) (hw : wR κ P L a u v t) (hH : HI a P L u v t) (hN : 1000 < N) :
    ∃ κ', fX3_lookAhead N 40 (hp κ) = some (hp κ') ∧ same [49, 50] [] κ κ' ∧ (∀ b, b < nB → hk_A κ' 49 b = n3 (uMk (sh2 a) (sh1 u) (sh1 v) L b)) ∧ ∀ b, b ≤ nB → hk_A κ' 50 b = n3 (mayM (sh2 a) (sh1 u) (sh1 v) L b) := by
  have s0 : same [49, 50] [] κ (hk_wA κ 50 0 (n3 0)) := (same.refl _ _ _).wA (by decide)
  have h12 := ok.2.1
  have keep : ∀ r, same [49, 50] [] κ r → wR r P L a u v t := by
    intro r hr
    obtain ⟨w1, w2, w3, w4, w5⟩ := hw
    exact ⟨by rw [hr.2.2.1 41 7 (by decide)]; exact w1, by rw [hr.1 42 (by decide)]; exact w2, by rw [hr.1 43 (by decide)]; exact w3, by rw [hr.1 44 (by decide)]; exact w4, by rw [hr.1 48 (by decide)]; exact w5⟩
  obtain ⟨m', s', e, i1, i2, i3⟩ := lpx (fun m b (s : hk_T) => nX3_lookAhead_9 N m 40 (n3 b) (hp s)) nB (fun b s => same [49, 50] [] κ s ∧ (∀ b', b' < b → hk_A s 49 b' = n3 (uMk (sh2 a) (sh1 u) (sh1 v) L b')) ∧ ∀ b', b' ≤ b → hk_A s 50 b' = n3 (mayM (sh2 a) (sh1 u) (sh1 v) L b')) (by
    rintro m b r hb ⟨i1, i2, i3⟩
    have r13 : hk_I r 1 13 = n3 nB := by rw [i1.2.2.1 1 13 (by decide)]; exact hB
    obtain ⟨m'', s'', e', k1, k2⟩ := lpx (fun m' l (s : hk_T) => nX3_lookAhead_29 N (nX3_lookAhead_9 N m) m' 40 (n3 b) (n3 l) (hp s)) L (fun l s => same [49] [] r s ∧ (∀ b', b' ≠ b → hk_A s 49 b' = hk_A r 49 b') ∧ hk_A s 49 b = n3 (msk (fun l => sh2 a l b = sh1 u l + sh1 v b) l)) (by
      rintro m' l r' hl ⟨k1, k2, k3⟩
      have kr : same [49, 50] [] κ r' := i1.trans (k1.weak (by decide) (by decide))
      have r15 : hk_I r' 1 15 = n3 L := by rw [kr.2.2.1 1 15 (by decide)]; exact hLi
      have cb := c_canBeBest N r' ok (keep r' kr) hH hl hb
      by_cases c : sh2 a l b = sh1 u l + sh1 v b
      · rw [if_pos c] at cb
        refine ⟨hk_wA r' 49 b (n3 (msk (fun l => sh2 a l b = sh1 u l + sh1 v b) l ||| 2 ^ l)), ?_, k1.wA (by decide), ?_, ?_⟩
        · rw [nX3_lookAhead_29]
          simp (maxSteps := 400000) (disch := omega) only [n3_l, n3_add, n3_mul, n3_sub, n3_subn, n3_lt, n3_le, n3_eq, n3_eqn, n3_neq, n3_and, n3_or, n3_shl, n3_i, n3_cl, ↓hbd_0, ↓hbd_1, ↓hbd_2, hk_ob_0, hk_rd_0, hk_rd_1, hk_rd_2, hk_al_0, hk_al_1, h3r_0, h3r_1, hk_wi_0, hk_wj_0, h3w_0, h3w_1, h3v_0, hk_kI, hk_kJ, hk_kA, hk_kB, A_eq, A_ne, A_row, B_eq, B_ne, B_row, I_eq, I_ne, J_eq, J_ne, Option.bind_some, Option.some.injEq, if_true, if_false, eq_self, true_or, or_true, true_and, and_true, false_or, or_false, not_true_eq_false, not_false_eq_true, Classical.not_not, nar_b0, nar_b1, rz_0, rz_1, rz_i, ite01, Nat.add_zero, Nat.zero_add, Nat.one_mul, mul12, reduceIte, ra_z0, Nat.reduceEqDiff, Nat.reduceLT, Nat.reduceLeDiff, Nat.reduceAdd, Nat.reduceMul, Nat.reduceSub, Nat.reduceDiv, Nat.reduceMod, Bool.false_eq_true, false_and, and_false, reduceCtorEq, r15, hl, cb, k3, n3_shl, nX3_lookAhead_64]
        · intro b' h; rw [A_ne (Or.inr h)]; exact k2 b' h
        · rw [A_eq rfl, msk, if_pos c]
      · rw [if_neg c] at cb
        refine ⟨r', ?_, k1, k2, ?_⟩
        · rw [nX3_lookAhead_29]
          simp (maxSteps := 400000) (disch := omega) only [n3_l, n3_add, n3_mul, n3_sub, n3_subn, n3_lt, n3_le, n3_eq, n3_eqn, n3_neq, n3_and, n3_or, n3_shl, n3_i, n3_cl, ↓hbd_0, ↓hbd_1, ↓hbd_2, hk_ob_0, hk_rd_0, hk_rd_1, hk_rd_2, hk_al_0, hk_al_1, h3r_0, h3r_1, hk_wi_0, hk_wj_0, h3w_0, h3w_1, h3v_0, hk_kI, hk_kJ, hk_kA, hk_kB, A_eq, A_ne, A_row, B_eq, B_ne, B_row, I_eq, I_ne, J_eq, J_ne, Option.bind_some, Option.some.injEq, if_true, if_false, eq_self, true_or, or_true, true_and, and_true, false_or, or_false, not_true_eq_false, not_false_eq_true, Classical.not_not, nar_b0, nar_b1, rz_0, rz_1, rz_i, ite01, Nat.add_zero, Nat.zero_add, Nat.one_mul, mul12, reduceIte, ra_z0, Nat.reduceEqDiff, Nat.reduceLT, Nat.reduceLeDiff, Nat.reduceAdd, Nat.reduceMul, Nat.reduceSub, Nat.reduceDiv, Nat.reduceMod, Bool.false_eq_true, false_and, and_false, reduceCtorEq, r15, hl, cb, nX3_lookAhead_64]
        · rw [k3, msk, if_neg c]) L 0 N (hk_wA r 49 b (n3 0)) (by omega) (by omega) ⟨(same.refl _ _ _).wA (by decide), fun b' h => A_ne (Or.inr h), A_eq rfl⟩
    obtain ⟨k2, k3⟩ := k2
    have kr : same [49, 50] [] κ s'' := i1.trans (k1.weak (by decide) (by decide))
    have r50 : hk_A s'' 50 b = n3 (mayM (sh2 a) (sh1 u) (sh1 v) L b) := by rw [k1.1 50 (by decide)]; exact i3 b (Nat.le_refl _)
    refine ⟨hk_wA s'' 50 (b + 1) (n3 (mayM (sh2 a) (sh1 u) (sh1 v) L b ||| uMk (sh2 a) (sh1 u) (sh1 v) L b)), ?_, kr.wA (by decide), ?_, ?_⟩
    · rw [nX3_lookAhead_9]
      simp (maxSteps := 400000) (disch := omega) only [n3_l, n3_add, n3_mul, n3_sub, n3_subn, n3_lt, n3_le, n3_eq, n3_eqn, n3_neq, n3_and, n3_or, n3_shl, n3_i, n3_cl, ↓hbd_0, ↓hbd_1, ↓hbd_2, hk_ob_0, hk_rd_0, hk_rd_1, hk_rd_2, hk_al_0, hk_al_1, h3r_0, h3r_1, hk_wi_0, hk_wj_0, h3w_0, h3w_1, h3v_0, hk_kI, hk_kJ, hk_kA, hk_kB, A_eq, A_ne, A_row, B_eq, B_ne, B_row, I_eq, I_ne, J_eq, J_ne, Option.bind_some, Option.some.injEq, if_true, if_false, eq_self, true_or, or_true, true_and, and_true, false_or, or_false, not_true_eq_false, not_false_eq_true, Classical.not_not, nar_b0, nar_b1, rz_0, rz_1, rz_i, ite01, Nat.add_zero, Nat.zero_add, Nat.one_mul, mul12, reduceIte, ra_z0, Nat.reduceEqDiff, Nat.reduceLT, Nat.reduceLeDiff, Nat.reduceAdd, Nat.reduceMul, Nat.reduceSub, Nat.reduceDiv, Nat.reduceMod, Bool.false_eq_true, false_and, and_false, reduceCtorEq, r13, hb]
      rw [e', nX3_lookAhead_29]
      have k3' : hk_A s'' 49 b = n3 (uMk (sh2 a) (sh1 u) (sh1 v) L b) := k3
      simp (maxSteps := 400000) (disch := omega) only [n3_l, n3_add, n3_mul, n3_sub, n3_subn, n3_lt, n3_le, n3_eq, n3_eqn, n3_neq, n3_and, n3_or, n3_shl, n3_i, n3_cl, ↓hbd_0, ↓hbd_1, ↓hbd_2, hk_ob_0, hk_rd_0, hk_rd_1, hk_rd_2, hk_al_0, hk_al_1, h3r_0, h3r_1, hk_wi_0, hk_wj_0, h3w_0, h3w_1, h3v_0, hk_kI, hk_kJ, hk_kA, hk_kB, A_eq, A_ne, A_row, B_eq, B_ne, B_row, I_eq, I_ne, J_eq, J_ne, Option.bind_some, Option.some.injEq, if_true, if_false, eq_self, true_or, or_true, true_and, and_true, false_or, or_false, not_true_eq_false, not_false_eq_true, Classical.not_not, nar_b0, nar_b1, rz_0, rz_1, rz_i, ite01, Nat.add_zero, Nat.zero_add, Nat.one_mul, mul12, reduceIte, ra_z0, Nat.reduceEqDiff, Nat.reduceLT, Nat.reduceLeDiff, Nat.reduceAdd, Nat.reduceMul, Nat.reduceSub, Nat.reduceDiv, Nat.reduceMod, Bool.false_eq_true, false_and, and_false, reduceCtorEq, kr.2.2.1 1 15 (by decide), hLi, Nat.lt_irrefl, r50, k3']
    · intro b' h
      rw [A_ne (Or.inl (by decide))]
      by_cases e2 : b' = b
      · rw [e2]; exact k3
      · rw [k2 b' e2]; exact i2 b' (by omega)
    · intro b' h
      by_cases e2 : b' = b + 1
      · rw [e2, A_eq rfl]; rfl
      · rw [A_ne (Or.inr e2), k1.1 50 (by decide)]; exact i3 b' (by omega)) nB 0 N (hk_wA κ 50 0 (n3 0)) (by omega) (by omega) ⟨s0, fun b' h => by omega, fun b' h => by
      have : b' = 0 := by omega
      rw [this, A_eq rfl]; rfl⟩
  refine ⟨s', ?_, i1, i2, i3⟩
  unfold fX3_lookAhead nX3_lookAhead_0
  simp (maxSteps := 400000) (disch := omega) only [n3_l, n3_add, n3_mul, n3_sub, n3_subn, n3_lt, n3_le, n3_eq, n3_eqn, n3_neq, n3_and, n3_or, n3_shl, n3_i, n3_cl, ↓hbd_0, ↓hbd_1, ↓hbd_2, hk_ob_0, hk_rd_0, hk_rd_1, hk_rd_2, hk_al_0, hk_al_1, h3r_0, h3r_1, hk_wi_0, hk_wj_0, h3w_0, h3w_1, h3v_0, hk_kI, hk_kJ, hk_kA, hk_kB, A_eq, A_ne, A_row, B_eq, B_ne, B_row, I_eq, I_ne, J_eq, J_ne, Option.bind_some, Option.some.injEq, if_true, if_false, eq_self, true_or, or_true, true_and, and_true, false_or, or_false, not_true_eq_false, not_false_eq_true, Classical.not_not, nar_b0, nar_b1, rz_0, rz_1, rz_i, ite01, Nat.add_zero, Nat.zero_add, Nat.one_mul, mul12, reduceIte, ra_z0, Nat.reduceEqDiff, Nat.reduceLT, Nat.reduceLeDiff, Nat.reduceAdd, Nat.reduceMul, Nat.reduceSub, Nat.reduceDiv, Nat.reduceMod, Bool.false_eq_true, false_and, and_false, reduceCtorEq]
  rw [e, nX3_lookAhead_9]
  simp (maxSteps := 400000) (disch := omega) only [n3_l, n3_add, n3_mul, n3_sub, n3_subn, n3_lt, n3_le, n3_eq, n3_eqn, n3_neq, n3_and, n3_or, n3_shl, n3_i, n3_cl, ↓hbd_0, ↓hbd_1, ↓hbd_2, hk_ob_0, hk_rd_0, hk_rd_1, hk_rd_2, hk_al_0, hk_al_1, h3r_0, h3r_1, hk_wi_0, hk_wj_0, h3w_0, h3w_1, h3v_0, hk_kI, hk_kJ, hk_kA, hk_kB, A_eq, A_ne, A_row, B_eq, B_ne, B_row, I_eq, I_ne, J_eq, J_ne, Option.bind_some, Option.some.injEq, if_true, if_false, eq_self, true_or, or_true, true_and, and_true, false_or, or_false, not_true_eq_false, not_false_eq_true, Classical.not_not, nar_b0, nar_b1, rz_0, rz_1, rz_i, ite01, Nat.add_zero, Nat.zero_add, Nat.one_mul, mul12, reduceIte, ra_z0, Nat.reduceEqDiff, Nat.reduceLT, Nat.reduceLeDiff, Nat.reduceAdd, Nat.reduceMul, Nat.reduceSub, Nat.reduceDiv, Nat.reduceMod, Bool.false_eq_true, false_and, and_false, reduceCtorEq, i1.2.2.1 1 13 (by decide), hB, Nat.lt_irrefl]
end
