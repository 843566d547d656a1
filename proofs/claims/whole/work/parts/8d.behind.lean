/-! what must be had -/
theorem dn_sub (k : Nat) : n3 k - n3 1 = dn k := by rw [Int32.sub_eq_add_neg]; exact dn_next k
section
variable (N : Nat) (κ : hk_T)
theorem c_lookBehind {P nB L : Nat} {a : Nat → Nat → Int} {u v : Nat → Int} {t : Nat → Nat} (hB : hk_I κ 1 13 = n3 nB) (hLi : hk_I κ 1 15 = n3 L) (h40 : nB ≤ 40) (ok : aOk a P nB L) (hw : wR κ P L a u v t) (hH : HI a P L u v t) (h49 : ∀ b, b < nB → hk_A κ 49 b = n3 (uMk (sh2 a) (sh1 u) (sh1 v) L b)) (hN : 1000 < N) :
    ∃ κ', fX3_lookBehind N 40 (hp κ) = some (hp κ') ∧ same [51] [] κ κ' ∧ ∀ k, k ≤ nB → hk_A κ' 51 (nB - k) = n3 (musK (sh2 a) (sh1 u) (sh1 v) L nB k) := by
  have h12 := ok.2.1
  have L1 := lp0 (fun m l (y : Nat) => nX3_lookBehind_4 N m 40 (n3 y) (n3 l) (hp κ)) L (fun l y => if 0 < sh1 u l then y ||| 2 ^ l else y) (fun y => nX3_lookBehind_61 N N 40 (dn nB) (hp (hk_wA κ 51 nB (n3 y)))) (by
    intro m l y hl
    have cw := c_isWorth N κ ok hw hH hl
    rw [nX3_lookBehind_4]
    by_cases c : 0 < sh1 u l
    · rw [if_pos c] at cw
      simp (maxSteps := 400000) (disch := omega) only [n3_l, n3_add, n3_mul, n3_sub, n3_subn, n3_lt, n3_le, n3_eq, n3_eqn, n3_neq, n3_and, n3_or, n3_shl, n3_i, n3_cl, ↓hbd_0, ↓hbd_1, ↓hbd_2, hk_ob_0, hk_rd_0, hk_rd_1, hk_rd_2, hk_al_0, hk_al_1, h3r_0, h3r_1, hk_wi_0, hk_wj_0, h3w_0, h3w_1, h3v_0, hk_kI, hk_kJ, hk_kA, hk_kB, A_eq, A_ne, A_row, B_eq, B_ne, B_row, I_eq, I_ne, J_eq, J_ne, Option.bind_some, Option.some.injEq, if_true, if_false, eq_self, true_or, or_true, true_and, and_true, false_or, or_false, not_true_eq_false, not_false_eq_true, Classical.not_not, nar_b0, nar_b1, rz_0, rz_1, rz_i, ite01, Nat.add_zero, Nat.zero_add, Nat.one_mul, mul12, reduceIte, ra_z0, Nat.reduceEqDiff, Nat.reduceLT, Nat.reduceLeDiff, Nat.reduceAdd, Nat.reduceMul, Nat.reduceSub, Nat.reduceDiv, Nat.reduceMod, Bool.false_eq_true, false_and, and_false, reduceCtorEq, hLi, hl, cw, c, n3_shl, nX3_lookBehind_32]
    · rw [if_neg c] at cw
      simp (maxSteps := 400000) (disch := omega) only [n3_l, n3_add, n3_mul, n3_sub, n3_subn, n3_lt, n3_le, n3_eq, n3_eqn, n3_neq, n3_and, n3_or, n3_shl, n3_i, n3_cl, ↓hbd_0, ↓hbd_1, ↓hbd_2, hk_ob_0, hk_rd_0, hk_rd_1, hk_rd_2, hk_al_0, hk_al_1, h3r_0, h3r_1, hk_wi_0, hk_wj_0, h3w_0, h3w_1, h3v_0, hk_kI, hk_kJ, hk_kA, hk_kB, A_eq, A_ne, A_row, B_eq, B_ne, B_row, I_eq, I_ne, J_eq, J_ne, Option.bind_some, Option.some.injEq, if_true, if_false, eq_self, true_or, or_true, true_and, and_true, false_or, or_false, not_true_eq_false, not_false_eq_true, Classical.not_not, nar_b0, nar_b1, rz_0, rz_1, rz_i, ite01, Nat.add_zero, Nat.zero_add, Nat.one_mul, mul12, reduceIte, ra_z0, Nat.reduceEqDiff, Nat.reduceLT, Nat.reduceLeDiff, Nat.reduceAdd, Nat.reduceMul, Nat.reduceSub, Nat.reduceDiv, Nat.reduceMod, Bool.false_eq_true, false_and, and_false, reduceCtorEq, hLi, hl, cw, c, nX3_lookBehind_32]) (by
    intro m y
    rw [nX3_lookBehind_4]
    simp (maxSteps := 400000) (disch := omega) only [n3_l, n3_add, n3_mul, n3_sub, n3_subn, n3_lt, n3_le, n3_eq, n3_eqn, n3_neq, n3_and, n3_or, n3_shl, n3_i, n3_cl, ↓hbd_0, ↓hbd_1, ↓hbd_2, hk_ob_0, hk_rd_0, hk_rd_1, hk_rd_2, hk_al_0, hk_al_1, h3r_0, h3r_1, hk_wi_0, hk_wj_0, h3w_0, h3w_1, h3v_0, hk_kI, hk_kJ, hk_kA, hk_kB, A_eq, A_ne, A_row, B_eq, B_ne, B_row, I_eq, I_ne, J_eq, J_ne, Option.bind_some, Option.some.injEq, if_true, if_false, eq_self, true_or, or_true, true_and, and_true, false_or, or_false, not_true_eq_false, not_false_eq_true, Classical.not_not, nar_b0, nar_b1, rz_0, rz_1, rz_i, ite01, Nat.add_zero, Nat.zero_add, Nat.one_mul, mul12, reduceIte, ra_z0, Nat.reduceEqDiff, Nat.reduceLT, Nat.reduceLeDiff, Nat.reduceAdd, Nat.reduceMul, Nat.reduceSub, Nat.reduceDiv, Nat.reduceMod, Bool.false_eq_true, false_and, and_false, reduceCtorEq, hLi, Nat.lt_irrefl, hB, dn_sub]) (m := N) (by omega) 0
  have ef : ∀ l, fo (fun l y => if 0 < sh1 u l then y ||| 2 ^ l else y) 0 l 0 = msk (fun l => 0 < sh1 u l) l := by
    intro l
    induction l with
    | zero => rfl
    | succ l ih => rw [fo_last, ih, Nat.zero_add, msk]
  rw [ef] at L1
  have s0 : same [51] [] κ (hk_wA κ 51 nB (n3 (msk (fun l => 0 < sh1 u l) L))) := (same.refl _ _ _).wA (by decide)
  obtain ⟨m', s', e, i1, i2⟩ := lpx (fun m k (s : hk_T) => nX3_lookBehind_61 N m 40 (dn (nB - k)) (hp s)) nB (fun k s => same [51] [] κ s ∧ ∀ k', k' ≤ k → hk_A s 51 (nB - k') = n3 (musK (sh2 a) (sh1 u) (sh1 v) L nB k')) (by
    rintro m k r hk ⟨i1, i2⟩
    obtain ⟨b, hb⟩ : ∃ b, b = nB - (k + 1) := ⟨_, rfl⟩
    have eb : nB - k = b + 1 := by omega
    have r51 := i2 k (Nat.le_refl _)
    rw [eb] at r51
    have r49 : hk_A r 49 b = n3 (uMk (sh2 a) (sh1 u) (sh1 v) L b) := by rw [i1.1 49 (by decide)]; exact h49 b (by omega)
    have b0 : ¬ b < 0 := by omega
    refine ⟨hk_wA r 51 b (n3 (an (musK (sh2 a) (sh1 u) (sh1 v) L nB k) (uMk (sh2 a) (sh1 u) (sh1 v) L b))), ?_, i1.wA (by decide), ?_⟩
    · rw [← hb, eb, dn_succ, nX3_lookBehind_61]
      simp (maxSteps := 400000) (disch := omega) only [n3_l, n3_add, n3_mul, n3_sub, n3_subn, n3_lt, n3_le, n3_eq, n3_eqn, n3_neq, n3_and, n3_or, n3_shl, n3_i, n3_cl, ↓hbd_0, ↓hbd_1, ↓hbd_2, hk_ob_0, hk_rd_0, hk_rd_1, hk_rd_2, hk_al_0, hk_al_1, h3r_0, h3r_1, hk_wi_0, hk_wj_0, h3w_0, h3w_1, h3v_0, hk_kI, hk_kJ, hk_kA, hk_kB, A_eq, A_ne, A_row, B_eq, B_ne, B_row, I_eq, I_ne, J_eq, J_ne, Option.bind_some, Option.some.injEq, if_true, if_false, eq_self, true_or, or_true, true_and, and_true, false_or, or_false, not_true_eq_false, not_false_eq_true, Classical.not_not, nar_b0, nar_b1, rz_0, rz_1, rz_i, ite01, Nat.add_zero, Nat.zero_add, Nat.one_mul, mul12, reduceIte, ra_z0, Nat.reduceEqDiff, Nat.reduceLT, Nat.reduceLeDiff, Nat.reduceAdd, Nat.reduceMul, Nat.reduceSub, Nat.reduceDiv, Nat.reduceMod, Bool.false_eq_true, false_and, and_false, reduceCtorEq, b0, r51, r49, n3_an, dn_next]
    · intro k' h
      by_cases e : k' = k + 1
      · rw [e, ← hb, A_eq rfl, musK, ← hb]
      · rw [A_ne (Or.inr (by omega))]; exact i2 k' (by omega)) nB 0 N (hk_wA κ 51 nB (n3 (msk (fun l => 0 < sh1 u l) L))) (by omega) (by omega) ⟨s0, fun k' h => by
      have : k' = 0 := by omega
      rw [this, Nat.sub_zero, A_eq rfl]; rfl⟩
  rw [Nat.sub_zero, Nat.sub_self] at e
  refine ⟨s', ?_, i1, i2⟩
  have hm : (-n3 1 : Int32) < n3 0 := by decide
  have ed : dn 0 = -n3 1 := rfl
  unfold fX3_lookBehind nX3_lookBehind_0
  simp (maxSteps := 400000) (disch := omega) only [n3_l, n3_add, n3_mul, n3_sub, n3_subn, n3_lt, n3_le, n3_eq, n3_eqn, n3_neq, n3_and, n3_or, n3_shl, n3_i, n3_cl, ↓hbd_0, ↓hbd_1, ↓hbd_2, hk_ob_0, hk_rd_0, hk_rd_1, hk_rd_2, hk_al_0, hk_al_1, h3r_0, h3r_1, hk_wi_0, hk_wj_0, h3w_0, h3w_1, h3v_0, hk_kI, hk_kJ, hk_kA, hk_kB, A_eq, A_ne, A_row, B_eq, B_ne, B_row, I_eq, I_ne, J_eq, J_ne, Option.bind_some, Option.some.injEq, if_true, if_false, eq_self, true_or, or_true, true_and, and_true, false_or, or_false, not_true_eq_false, not_false_eq_true, Classical.not_not, nar_b0, nar_b1, rz_0, rz_1, rz_i, ite01, Nat.add_zero, Nat.zero_add, Nat.one_mul, mul12, reduceIte, ra_z0, Nat.reduceEqDiff, Nat.reduceLT, Nat.reduceLeDiff, Nat.reduceAdd, Nat.reduceMul, Nat.reduceSub, Nat.reduceDiv, Nat.reduceMod, Bool.false_eq_true, false_and, and_false, reduceCtorEq]
  rw [L1, e, ed, nX3_lookBehind_61]
  simp (maxSteps := 400000) (disch := omega) only [n3_l, n3_add, n3_mul, n3_sub, n3_subn, n3_lt, n3_le, n3_eq, n3_eqn, n3_neq, n3_and, n3_or, n3_shl, n3_i, n3_cl, ↓hbd_0, ↓hbd_1, ↓hbd_2, hk_ob_0, hk_rd_0, hk_rd_1, hk_rd_2, hk_al_0, hk_al_1, h3r_0, h3r_1, hk_wi_0, hk_wj_0, h3w_0, h3w_1, h3v_0, hk_kI, hk_kJ, hk_kA, hk_kB, A_eq, A_ne, A_row, B_eq, B_ne, B_row, I_eq, I_ne, J_eq, J_ne, Option.bind_some, Option.some.injEq, if_true, if_false, eq_self, true_or, or_true, true_and, and_true, false_or, or_false, not_true_eq_false, not_false_eq_true, Classical.not_not, nar_b0, nar_b1, rz_0, rz_1, rz_i, ite01, Nat.add_zero, Nat.zero_add, Nat.one_mul, mul12, reduceIte, ra_z0, Nat.reduceEqDiff, Nat.reduceLT, Nat.reduceLeDiff, Nat.reduceAdd, Nat.reduceMul, Nat.reduceSub, Nat.reduceDiv, Nat.reduceMod, Bool.false_eq_true, false_and, and_false, reduceCtorEq, hm]
end
/-- what must be had is as the table wants it -/
theorem musK_ok {a : Nat → Nat → Int} {u v : Nat → Int} {L n : Nat} : ∀ k, k ≤ n → ∀ l, (musK a u v L n k).testBit l = true → l < L ∧ 0 < u l ∧ ∀ b', n - k ≤ b' → b' < n → a l b' ≠ u l + v b' := by
  intro k
  induction k with
  | zero =>
    intro _ l hl
    rw [musK, msk_bit] at hl
    exact ⟨hl.1, hl.2, fun b' h1 h2 => by omega⟩
  | succ k ih =>
    intro hk l hl
    rw [musK, an_bit, Bool.and_eq_true] at hl
    obtain ⟨h1, h2, h3⟩ := ih (by omega) l hl.1
    refine ⟨h1, h2, ?_⟩
    intro b' g1 g2
    by_cases e : b' = n - (k + 1)
    · intro z
      have hm : (uMk a u v L (n - (k + 1))).testBit l = true := by
        unfold uMk
        rw [msk_bit]
        exact ⟨h1, by rw [← e]; exact z⟩
      rw [hm] at hl
      cases hl.2
    · exact h3 b' (by omega) g2
def musM (a : Nat → Nat → Int) (u v : Nat → Int) (L n b : Nat) : Nat := musK a u v L n (n - b)
theorem musM_ok {a : Nat → Nat → Int} {u v : Nat → Int} {L n : Nat} : ∀ b, b ≤ n → ∀ l, (musM a u v L n b).testBit l = true → l < L ∧ 0 < u l ∧ ∀ b', b ≤ b' → b' < n → a l b' ≠ u l + v b' := by
  intro b hb l hl
  have := musK_ok (n - b) (by omega) l hl
  rw [show n - (n - b) = b by omega] at this
  exact this
/-- may be had: by a book ahead -/
theorem mayM_bit {a : Nat → Nat → Int} {u v : Nat → Int} {L : Nat} (l : Nat) : ∀ b, (mayM a u v L b).testBit l = true ↔ l < L ∧ ∃ b', b' < b ∧ a l b' = u l + v b' := by
  intro b
  induction b with
  | zero =>
    show Nat.testBit 0 l = true ↔ _
    rw [Nat.zero_testBit]
    constructor
    · intro h; cases h
    · rintro ⟨-, b', h, -⟩; omega
  | succ b ih =>
    have hu : (uMk a u v L b).testBit l = true ↔ l < L ∧ a l b = u l + v b := msk_bit _ l L
    rw [mayM, Nat.testBit_or, Bool.or_eq_true, ih, hu]
    constructor
    · rintro (⟨h1, b', h2, h3⟩ | ⟨h1, h2⟩)
      · exact ⟨h1, b', by omega, h3⟩
      · exact ⟨h1, b, by omega, h2⟩
    · rintro ⟨h1, b', h2, h3⟩
      by_cases e : b' = b
      · right; rw [e] at h3; exact ⟨h1, h3⟩
      · left; exact ⟨h1, b', by omega, h3⟩
/-- a set that may be ahead of a book: all that must, and of the rest what may -/
theorem good_sub {a : Nat → Nat → Int} {u v : Nat → Int} {L n k s : Nat} (h : dualOk a u v L n) (hk : k ≤ n) (hg : goodAt a u v L n k s) : ∃ p, p &&& an (mayM a u v L (n - k)) (musM a u v L n (n - k)) = p ∧ s = musM a u v L n (n - k) ||| p := by
  have hm := good_must (mst := musM a u v L n) h (fun b hb => musM_ok b hb) hk hg
  rw [and_sub] at hm
  refine ⟨s &&& an (mayM a u v L (n - k)) (musM a u v L n (n - k)), ?_, ?_⟩
  · apply Nat.eq_of_testBit_eq
    intro l
    rw [Nat.testBit_and, Nat.testBit_and]
    cases s.testBit l <;> cases (an (mayM a u v L (n - k)) (musM a u v L n (n - k))).testBit l <;> rfl
  · apply Nat.eq_of_testBit_eq
    intro l
    rw [Nat.testBit_or, Nat.testBit_and, an_bit]
    by_cases c : s.testBit l = true
    · have hmay : (mayM a u v L (n - k)).testBit l = true := (mayM_bit l (n - k)).mpr (hg.2 l c)
      rw [c, hmay]
      cases (musM a u v L n (n - k)).testBit l <;> rfl
    · have c2 : ¬ (musM a u v L n (n - k)).testBit l = true := fun z => c (hm l z)
      rw [Bool.not_eq_true] at c c2
      rw [c, c2]; rfl
