/-! from the first book on: weighBook, bestFor, takeFirst, goOver, findSure -/
def mK (κ : hk_T) (A : Nat → Nat → Int) (U V : Nat → Int) (nB L : Nat) : Prop := (hk_I κ 1 13 = n3 nB ∧ hk_I κ 1 15 = n3 L) ∧ (∀ b, b < nB → hk_A κ 49 b = n3 (uMk A U V L b)) ∧ (∀ b, b ≤ nB → hk_A κ 50 b = n3 (mayM A U V L b)) ∧ ∀ b, b ≤ nB → hk_A κ 51 b = n3 (musM A U V L nB b)
theorem mK.sameP {κ κ' : hk_T} {ks : List Nat} {fs : List (Nat × Nat)} {A : Nat → Nat → Int} {U V : Nat → Int} {nB L : Nat} (h : mK κ A U V nB L) (g : sameP ks fs κ κ') (h1 : 49 ∉ ks) (h2 : 50 ∉ ks) (h3 : 51 ∉ ks) (h4 : (1, 13) ∉ fs) (h5 : (1, 15) ∉ fs) : mK κ' A U V nB L := by
  unfold mK
  rw [g.1 49 h1, g.1 50 h2, g.1 51 h3, g.2.2.1 1 13 h4, g.2.2.1 1 15 h5]
  exact h
theorem LL_cg {P P' : Nat → Prop} {f : Nat → Nat} {sz : Nat} {g : Nat → Nat} (h : LL P f sz g) (e : ∀ x, P x ↔ P' x) : LL P' f sz g := ⟨fun i hi => (e _).mp (h.1 i hi), fun b hb => h.2.1 b ((e b).mpr hb), h.2.2⟩
theorem uMk_lt2 {A : Nat → Nat → Int} {U V : Nat → Int} {L : Nat} (hL : L ≤ 12) (b : Nat) : uMk A U V L b < 4096 := Nat.lt_of_lt_of_le (msk_lt _ L) (q12 hL)
section
variable (N : Nat) (κ : hk_T)
theorem c_weighBook {P nB L q b k : Nat} {a : Nat → Nat → Int} {u v : Nat → Int} {t : Nat → Nat} {S : Nat → Int} {W : Nat → Nat} {R : Nat → Bool} {C : Nat → Nat} (hK : mK κ (sh2 a) (sh1 u) (sh1 v) nB L) (hk : b + 1 + k = nB) (h40 : nB ≤ 40) (ok : aOk a P nB L) (hw : wR κ P L a u v t) (hq : L ≤ q) (h : mC κ q S W R C)
    (hA : ∀ l b, -2000 ≤ sh2 a l b ∧ sh2 a l b ≤ 2000) (hT : ∀ s, lev (sh2 a) (sh1 u) (sh1 v) L nB (b + 1) s → S s = (cT (sh2 a) (usB (sh2 a) (sh1 u) (sh1 v)) (musM (sh2 a) (sh1 u) (sh1 v) L nB) L nB k s).1 ∧ W s = (cT (sh2 a) (usB (sh2 a) (sh1 u) (sh1 v)) (musM (sh2 a) (sh1 u) (sh1 v) L nB) L nB k s).2.1) (hN : 10000 < N) :
    ∃ κ' S' W' R' C', fX3_weighBook N 40 (n3 b) (hp κ) = some (hp κ') ∧ sameP [52, 53] [] κ κ' ∧ mC κ' q S' W' R' C' ∧
      (∀ s, lev (sh2 a) (sh1 u) (sh1 v) L nB b s → S' s = (cT (sh2 a) (usB (sh2 a) (sh1 u) (sh1 v)) (musM (sh2 a) (sh1 u) (sh1 v) L nB) L nB (k + 1) s).1 ∧ W' s = (cT (sh2 a) (usB (sh2 a) (sh1 u) (sh1 v)) (musM (sh2 a) (sh1 u) (sh1 v) L nB) L nB (k + 1) s).2.1 ∧ R' s = false ∧ C' (b * 2 ^ L + s) = (cT (sh2 a) (usB (sh2 a) (sh1 u) (sh1 v)) (musM (sh2 a) (sh1 u) (sh1 v) L nB) L nB (k + 1) s).2.2) ∧
      (∀ s, R' s = true → R s = true) ∧ ∀ i, (i < b * 2 ^ L ∨ (b + 1) * 2 ^ L ≤ i) → C' i = C i := by
  have hL : L ≤ 12 := by have := h.2.1; omega
  obtain ⟨⟨k1, k2⟩, k3, k4, k5⟩ := hK
  have ho := opM_lt2 (a := sh2 a) (u := sh1 u) (v := sh1 v) (n := nB) hL b
  have hul := uMk_lt2 (A := sh2 a) (U := sh1 u) (V := sh1 v) hL b
  have pl := pcw_le 13 (opM (sh2 a) (sh1 u) (sh1 v) L nB b)
  obtain ⟨κ1, sz, g, e1, s1, l1, l2, l3⟩ := c_listUsable N κ (b := b) k2 h40 ok hw (by omega) (k3 b (by omega)) hul (by omega)
  have l1' : LL (fun l => l < L ∧ usB (sh2 a) (sh1 u) (sh1 v) l b = true) (fun l => l) sz g := LL_cg l1 (fun x => by rw [uMk_bit, usB_iff]; exact ⟨fun z => z.2, fun z => ⟨z.1, z⟩⟩)
  have r50 : hk_A κ1 50 b = n3 (mayM (sh2 a) (sh1 u) (sh1 v) L b) := by rw [s1.1 50 (by decide)]; exact k4 b (by omega)
  have r51 : hk_A κ1 51 b = n3 (musM (sh2 a) (sh1 u) (sh1 v) L nB b) := by rw [s1.1 51 (by decide)]; exact k5 b (by omega)
  have r51' : hk_A κ1 51 (b + 1) = n3 (musM (sh2 a) (sh1 u) (sh1 v) L nB (b + 1)) := by rw [s1.1 51 (by decide)]; exact k5 (b + 1) (by omega)
  have r15 : hk_I κ1 1 15 = n3 L := by rw [s1.2.2.1 1 15 (by decide)]; exact k2
  have oa : fX3_openAt N 40 (n3 b) (hp κ1) = some (n3 (opM (sh2 a) (sh1 u) (sh1 v) L nB b), hp κ1) := c_openAt N κ1 (by omega) r50 r51
  have bc := f_bitCount N (hp κ1) (x := opM (sh2 a) (sh1 u) (sh1 v) L nB b) (by omega)
  have sh := shl_ab b (by omega) L (by omega)
  obtain ⟨κ', S', W', R', C', e2, s2, g2, g3, g4, g5⟩ := c_bookLoop N κ1 hk h40 hq (h.same s1) r51' hA l1' l2 l3 hT hN
  refine ⟨κ', S', W', R', C', ?_, s1.toP.trans (s2.weak (by simp) (by simp)), g2, g3, g4, g5⟩
  unfold fX3_weighBook nX3_weighBook_0
  simp (maxSteps := 400000) (disch := omega) only [n3_l, n3_add, n3_mul, n3_sub, n3_subn, n3_lt, n3_le, n3_eq, n3_eqn, n3_neq, n3_and, n3_or, n3_shl, n3_i, n3_cl, ↓hbd_0, ↓hbd_1, ↓hbd_2, hk_ob_0, hk_rd_0, hk_rd_1, hk_rd_2, hk_al_0, hk_al_1, h3r_0, h3r_1, hk_wi_0, hk_wj_0, h3w_0, h3w_1, h3v_0, hk_kI, hk_kJ, hk_kA, hk_kB, A_eq, A_ne, A_row, B_eq, B_ne, B_row, I_eq, I_ne, J_eq, J_ne, Option.bind_some, Option.some.injEq, if_true, if_false, eq_self, true_or, or_true, true_and, and_true, false_or, or_false, not_true_eq_false, not_false_eq_true, Classical.not_not, nar_b0, nar_b1, rz_0, rz_1, rz_i, ite01, Nat.add_zero, Nat.zero_add, Nat.one_mul, mul12, reduceIte, ra_z0, Nat.reduceEqDiff, Nat.reduceLT, Nat.reduceLeDiff, Nat.reduceAdd, Nat.reduceMul, Nat.reduceSub, Nat.reduceDiv, Nat.reduceMod, Bool.false_eq_true, false_and, and_false, reduceCtorEq, e1, r51, oa, r15, sh, bc, n3_shl, e2]
/-- what is best for a book, at a set of its level -/
theorem c_bestFor {nB L q b s : Nat} {A : Nat → Nat → Int} {U V : Nat → Int} {S : Nat → Int} {W : Nat → Nat} {R : Nat → Bool} {C : Nat → Nat} (hK : mK κ A U V nB L) (h40 : nB ≤ 40) (hq : L ≤ q) (h : mC κ q S W R C) (hb : b < nB) (hs : lev A U V L nB b s) (hC : uMk A U V L b ≠ 0 → C (b * 2 ^ L + s) = (cT A (usB A U V) (musM A U V L nB) L nB (nB - b) s).2.2) :
    fX3_bestFor N 40 (n3 b) (n3 s) (hp κ) = some (n3 (cT A (usB A U V) (musM A U V L nB) L nB (nB - b) s).2.2, hp κ) := by
  have hL : L ≤ 12 := by have := h.2.1; omega
  have hql : 2 ^ L ≤ 2 ^ q := Nat.pow_le_pow_right (by omega) hq
  obtain ⟨⟨k1, k2⟩, k3, k4, k5⟩ := hK
  have r49 := k3 b hb
  have lt := lev_lt hs
  have hul := uMk_lt2 (A := A) (U := U) (V := V) hL b
  have sh := shl_ab b (by omega) L (by omega)
  have b1 : b * 2 ^ L ≤ 39 * 2 ^ L := Nat.mul_le_mul_right _ (by omega)
  have q2 := q12 h.2.1
  by_cases c : uMk A U V L b = 0
  · have hz : ∀ l, l < L → usB A U V l (nB - (nB - (b + 1) + 1)) = false := by
      intro l hl
      rw [show nB - (nB - (b + 1) + 1) = b by omega, ← Bool.not_eq_true, usB_iff]
      intro z
      have := (uMk_bit (a := A) (u := U) (v := V) (L := L) l b).mpr ⟨hl, z⟩
      rw [c, Nat.zero_testBit] at this
      cases this
    have hm : s &&& musM A U V L nB (nB - (nB - (b + 1))) = musM A U V L nB (nB - (nB - (b + 1))) := by
      rw [show nB - (nB - (b + 1)) = b + 1 by omega, and_sub]
      exact ((lev_none hb c).mp hs).1
    have e := cT_none (a := A) (us := usB A U V) (mst := musM A U V L nB) hz hm
    rw [show nB - (b + 1) + 1 = nB - b by omega] at e
    rw [e]
    unfold fX3_bestFor nX3_bestFor_0
    simp (maxSteps := 400000) (disch := omega) only [n3_l, n3_add, n3_mul, n3_sub, n3_subn, n3_lt, n3_le, n3_eq, n3_eqn, n3_neq, n3_and, n3_or, n3_shl, n3_i, n3_cl, ↓hbd_0, ↓hbd_1, ↓hbd_2, hk_ob_0, hk_rd_0, hk_rd_1, hk_rd_2, hk_al_0, hk_al_1, h3r_0, h3r_1, hk_wi_0, hk_wj_0, h3w_0, h3w_1, h3v_0, hk_kI, hk_kJ, hk_kA, hk_kB, A_eq, A_ne, A_row, B_eq, B_ne, B_row, I_eq, I_ne, J_eq, J_ne, Option.bind_some, Option.some.injEq, if_true, if_false, eq_self, true_or, or_true, true_and, and_true, false_or, or_false, not_true_eq_false, not_false_eq_true, Classical.not_not, nar_b0, nar_b1, rz_0, rz_1, rz_i, ite01, Nat.add_zero, Nat.zero_add, Nat.one_mul, mul12, reduceIte, ra_z0, Nat.reduceEqDiff, Nat.reduceLT, Nat.reduceLeDiff, Nat.reduceAdd, Nat.reduceMul, Nat.reduceSub, Nat.reduceDiv, Nat.reduceMod, Bool.false_eq_true, false_and, and_false, reduceCtorEq, r49, c, nX3_bestFor_31, Nat.reducePow]
  · have rc := h.rC (i := b * 2 ^ L + s) (by omega)
    rw [hC c] at rc
    unfold fX3_bestFor nX3_bestFor_0
    simp (maxSteps := 400000) (disch := omega) only [n3_l, n3_add, n3_mul, n3_sub, n3_subn, n3_lt, n3_le, n3_eq, n3_eqn, n3_neq, n3_and, n3_or, n3_shl, n3_i, n3_cl, ↓hbd_0, ↓hbd_1, ↓hbd_2, hk_ob_0, hk_rd_0, hk_rd_1, hk_rd_2, hk_al_0, hk_al_1, h3r_0, h3r_1, hk_wi_0, hk_wj_0, h3w_0, h3w_1, h3v_0, hk_kI, hk_kJ, hk_kA, hk_kB, A_eq, A_ne, A_row, B_eq, B_ne, B_row, I_eq, I_ne, J_eq, J_ne, Option.bind_some, Option.some.injEq, if_true, if_false, eq_self, true_or, or_true, true_and, and_true, false_or, or_false, not_true_eq_false, not_false_eq_true, Classical.not_not, nar_b0, nar_b1, rz_0, rz_1, rz_i, ite01, Nat.add_zero, Nat.zero_add, Nat.one_mul, mul12, reduceIte, ra_z0, Nat.reduceEqDiff, Nat.reduceLT, Nat.reduceLeDiff, Nat.reduceAdd, Nat.reduceMul, Nat.reduceSub, Nat.reduceDiv, Nat.reduceMod, Bool.false_eq_true, false_and, and_false, reduceCtorEq, r49, c, k2, sh, rc, nX3_bestFor_31]
end
/-- what its bits say -/
theorem mask_bits {A : Nat → Nat → Int} {U V : Nat → Int} {nB L b s : Nat} (hL : L ≤ 12) (hd : dualOk A U V L nB) (hg : goodAt A U V L nB nB 0) (hb : b < nB) (hs : rc A L nB b s) :
    (∀ l, l < L → ((cT A (usB A U V) (musM A U V L nB) L nB (nB - b) s).2.2.testBit l = true ↔ opt A L nB b s l)) ∧ ∀ l, L ≤ l → ((cT A (usB A U V) (musM A U V L nB) L nB (nB - b) s).2.2.testBit l = true ↔ l = 12 ∧ opN A L nB b s) := by
  have g := rc_good hd hg b s (by omega) hs
  rw [show nB - b = nB - (b + 1) + 1 by omega] at g
  obtain ⟨m1, m2⟩ := cT_mask (us := usB A U V) (mst := musM A U V L nB) hL hd (fun l b _ _ => usB_iff) (fun b hb => musM_ok b hb) (by omega) g
  rw [show nB - (b + 1) + 1 = nB - b by omega] at m1 m2
  rw [show nB - (nB - b) = b by omega] at m1
  exact ⟨fun l hl => (m1 l hl).trans ⟨fun z => ⟨hl, z⟩, fun z => z.2⟩, m2⟩
theorem mask_lt {A : Nat → Nat → Int} {us : Nat → Nat → Bool} {mst : Nat → Nat} {nB L b s : Nat} (hL : L ≤ 12) (hb : b < nB) : (cT A us mst L nB (nB - b) s).2.2 < 8192 := by
  have := cT_msk (a := A) (us := us) (mst := mst) (L := L) (n := nB) hL (nB - (b + 1)) s
  rw [show nB - (b + 1) + 1 = nB - b by omega] at this
  exact this
def liO (a : Nat → Nat → Int) (L n b : Nat) : Int32 := if its a L n b < L then n3 (its a L n b) else -n3 1
theorem gv_lt {a : Nat → Nat → Int} {L n : Nat} : ∀ b, gvS a L n b < 2 ^ L := by
  intro b
  induction b with
  | zero => exact Nat.two_pow_pos L
  | succ b ih =>
    rw [gvS_next]
    split
    · rename_i c; exact or_lt ih c
    · exact ih
section
variable (N : Nat) (κ : hk_T)
theorem c_takeFirst {nB L q : Nat} {A : Nat → Nat → Int} {U V : Nat → Int} {S : Nat → Int} {W : Nat → Nat} {R : Nat → Bool} {C : Nat → Nat} (hK : mK κ A U V nB L) (h40 : nB ≤ 40) (hq : L ≤ q) (h : mC κ q S W R C) (hd : dualOk A U V L nB) (hg : goodAt A U V L nB nB 0)
    (hC : ∀ b, b < nB → uMk A U V L b ≠ 0 → ∀ s, lev A U V L nB b s → C (b * 2 ^ L + s) = (cT A (usB A U V) (musM A U V L nB) L nB (nB - b) s).2.2) (hN : 10000 < N) :
    ∃ κ', fX3_takeFirst N 40 (hp κ) = some (hp κ') ∧ same [59] [(40, 15)] κ κ' ∧ hk_I κ' 40 15 = n3 (gvS A L nB nB) ∧ ∀ b, b < nB → hk_A κ' 59 b = liO A L nB b := by
  have hL : L ≤ 12 := by have := h.2.1; omega
  obtain ⟨m', s', e, i1, i2, i3⟩ := lpx (fun m b (s : hk_T) => nX3_takeFirst_7 N m 40 (n3 b) (hp s)) nB (fun b s => same [59] [(40, 15)] κ s ∧ hk_I s 40 15 = n3 (gvS A L nB b) ∧ ∀ b', b' < b → hk_A s 59 b' = liO A L nB b') (by
    rintro m b r hb ⟨i1, i2, i3⟩
    have kr : mK r A U V nB L := hK.sameP i1.toP (by decide) (by decide) (by decide) (by decide) (by decide)
    have rg := rc_gv (a := A) (L := L) (n := nB) b (by omega)
    have bf := c_bestFor N r kr h40 hq (h.same i1) hb (rc_lev hd hg (by omega) rg) (fun c => hC b hb c _ (rc_lev hd hg (by omega) rg))
    obtain ⟨m1, m2⟩ := mask_bits hL hd hg hb rg
    have ml := mask_lt (A := A) (us := usB A U V) (mst := musM A U V L nB) (s := gvS A L nB b) hL hb
    generalize (cT A (usB A U V) (musM A U V L nB) L nB (nB - b) (gvS A L nB b)).2.2 = B at bf m1 m2 ml
    obtain ⟨l1, l2, l3⟩ := its_is A L nB b
    have r13 := kr.1.1
    have r15 := kr.1.2
    by_cases c : its A L nB b < L
    · have low := c_lowestLine N r (B := B) r15 hL ml c ((m1 _ c).mpr (l2 c)) (fun l' hl' z => l3 l' hl' ((m1 l' (by omega)).mp z)) (by omega)
      refine ⟨hk_wI (hk_wA r 59 b (n3 (its A L nB b))) 40 15 (n3 (gvS A L nB b ||| 2 ^ its A L nB b)), ?_, (i1.wA (by decide)).wI (by decide), ?_, ?_⟩
      · rw [nX3_takeFirst_7]
        simp (maxSteps := 400000) (disch := omega) only [n3_l, n3_add, n3_mul, n3_sub, n3_subn, n3_lt, n3_le, n3_eq, n3_eqn, n3_neq, n3_and, n3_or, n3_shl, n3_i, n3_cl, ↓hbd_0, ↓hbd_1, ↓hbd_2, hk_ob_0, hk_rd_0, hk_rd_1, hk_rd_2, hk_al_0, hk_al_1, h3r_0, h3r_1, hk_wi_0, hk_wj_0, h3w_0, h3w_1, h3v_0, hk_kI, hk_kJ, hk_kA, hk_kB, A_eq, A_ne, A_row, B_eq, B_ne, B_row, I_eq, I_ne, J_eq, J_ne, Option.bind_some, Option.some.injEq, if_true, if_false, eq_self, true_or, or_true, true_and, and_true, false_or, or_false, not_true_eq_false, not_false_eq_true, Classical.not_not, nar_b0, nar_b1, rz_0, rz_1, rz_i, ite01, Nat.add_zero, Nat.zero_add, Nat.one_mul, mul12, reduceIte, ra_z0, Nat.reduceEqDiff, Nat.reduceLT, Nat.reduceLeDiff, Nat.reduceAdd, Nat.reduceMul, Nat.reduceSub, Nat.reduceDiv, Nat.reduceMod, Bool.false_eq_true, false_and, and_false, reduceCtorEq, r13, hb, i2, bf, low, n3_shl, nX3_takeFirst_64]
      · rw [I_eq, gvS_next, if_pos c]
      · intro b' hb'
        show hk_A (hk_wA r 59 b (n3 (its A L nB b))) 59 b' = _
        by_cases eb : b' = b
        · rw [eb, A_eq rfl]; unfold liO; rw [if_pos c]
        · rw [A_ne (Or.inr eb)]; exact i3 b' (by omega)
    · have low := c_lowestLine0 N r (B := B) r15 hL ml (fun l' hl' z => l3 l' (by omega) ((m1 l' hl').mp z)) (by omega)
      refine ⟨hk_wA r 59 b (-n3 1), ?_, i1.wA (by decide), ?_, ?_⟩
      · rw [nX3_takeFirst_7]
        simp (maxSteps := 400000) (disch := omega) only [n3_l, n3_add, n3_mul, n3_sub, n3_subn, n3_lt, n3_le, n3_eq, n3_eqn, n3_neq, n3_and, n3_or, n3_shl, n3_i, n3_cl, ↓hbd_0, ↓hbd_1, ↓hbd_2, hk_ob_0, hk_rd_0, hk_rd_1, hk_rd_2, hk_al_0, hk_al_1, h3r_0, h3r_1, hk_wi_0, hk_wj_0, h3w_0, h3w_1, h3v_0, hk_kI, hk_kJ, hk_kA, hk_kB, A_eq, A_ne, A_row, B_eq, B_ne, B_row, I_eq, I_ne, J_eq, J_ne, Option.bind_some, Option.some.injEq, if_true, if_false, eq_self, true_or, or_true, true_and, and_true, false_or, or_false, not_true_eq_false, not_false_eq_true, Classical.not_not, nar_b0, nar_b1, rz_0, rz_1, rz_i, ite01, Nat.add_zero, Nat.zero_add, Nat.one_mul, mul12, reduceIte, ra_z0, Nat.reduceEqDiff, Nat.reduceLT, Nat.reduceLeDiff, Nat.reduceAdd, Nat.reduceMul, Nat.reduceSub, Nat.reduceDiv, Nat.reduceMod, Bool.false_eq_true, false_and, and_false, reduceCtorEq, r13, hb, i2, bf, low, nX3_takeFirst_64]
      · rw [gvS_next, if_neg c]; exact i2
      · intro b' hb'
        by_cases eb : b' = b
        · rw [eb, A_eq rfl]; unfold liO; rw [if_neg c]
        · rw [A_ne (Or.inr eb)]; exact i3 b' (by omega)) nB 0 N (hk_wI κ 40 15 (n3 0)) (by omega) (by omega) ⟨(same.refl _ _ _).wI (by decide), by rw [I_eq]; rfl, fun b' h => by omega⟩
  refine ⟨s', ?_, i1, i2, i3⟩
  have r13 : hk_I s' 1 13 = n3 nB := by rw [i1.2.2.1 1 13 (by decide)]; exact hK.1.1
  have e0 : nX3_takeFirst_7 N N 40 (n3 0) (hp (hk_wI κ 40 15 (n3 0))) = nX3_takeFirst_7 N (m' + 1) 40 (n3 nB) (hp s') := e
  unfold fX3_takeFirst nX3_takeFirst_0
  simp (maxSteps := 400000) (disch := omega) only [n3_l, n3_add, n3_mul, n3_sub, n3_subn, n3_lt, n3_le, n3_eq, n3_eqn, n3_neq, n3_and, n3_or, n3_shl, n3_i, n3_cl, ↓hbd_0, ↓hbd_1, ↓hbd_2, hk_ob_0, hk_rd_0, hk_rd_1, hk_rd_2, hk_al_0, hk_al_1, h3r_0, h3r_1, hk_wi_0, hk_wj_0, h3w_0, h3w_1, h3v_0, hk_kI, hk_kJ, hk_kA, hk_kB, A_eq, A_ne, A_row, B_eq, B_ne, B_row, I_eq, I_ne, J_eq, J_ne, Option.bind_some, Option.some.injEq, if_true, if_false, eq_self, true_or, or_true, true_and, and_true, false_or, or_false, not_true_eq_false, not_false_eq_true, Classical.not_not, nar_b0, nar_b1, rz_0, rz_1, rz_i, ite01, Nat.add_zero, Nat.zero_add, Nat.one_mul, mul12, reduceIte, ra_z0, Nat.reduceEqDiff, Nat.reduceLT, Nat.reduceLeDiff, Nat.reduceAdd, Nat.reduceMul, Nat.reduceSub, Nat.reduceDiv, Nat.reduceMod, Bool.false_eq_true, false_and, and_false, reduceCtorEq]
  rw [e0, nX3_takeFirst_7]
  simp (maxSteps := 400000) (disch := omega) only [n3_l, n3_add, n3_mul, n3_sub, n3_subn, n3_lt, n3_le, n3_eq, n3_eqn, n3_neq, n3_and, n3_or, n3_shl, n3_i, n3_cl, ↓hbd_0, ↓hbd_1, ↓hbd_2, hk_ob_0, hk_rd_0, hk_rd_1, hk_rd_2, hk_al_0, hk_al_1, h3r_0, h3r_1, hk_wi_0, hk_wj_0, h3w_0, h3w_1, h3v_0, hk_kI, hk_kJ, hk_kA, hk_kB, A_eq, A_ne, A_row, B_eq, B_ne, B_row, I_eq, I_ne, J_eq, J_ne, Option.bind_some, Option.some.injEq, if_true, if_false, eq_self, true_or, or_true, true_and, and_true, false_or, or_false, not_true_eq_false, not_false_eq_true, Classical.not_not, nar_b0, nar_b1, rz_0, rz_1, rz_i, ite01, Nat.add_zero, Nat.zero_add, Nat.one_mul, mul12, reduceIte, ra_z0, Nat.reduceEqDiff, Nat.reduceLT, Nat.reduceLeDiff, Nat.reduceAdd, Nat.reduceMul, Nat.reduceSub, Nat.reduceDiv, Nat.reduceMod, Bool.false_eq_true, false_and, and_false, reduceCtorEq, r13, Nat.lt_irrefl]
theorem c_overLine {L q b s B : Nat} {c27 : Nat → Int32 → Int32 → Int32 → Int32 → Int32 → Int32 → ra_H → Option (Int32 × ra_H)} {x2 x3 x4 x5 x6 : Int32} {S : Nat → Int} {W : Nat → Nat} {R : Nat → Bool} {C : Nat → Nat} (h15 : hk_I κ 1 15 = n3 L) (hq : L ≤ q) (h : mC κ q S W R C) (hs : s < 2 ^ L) (hB : B < 8192) (hN : 10000 < N) :
    ∃ κ' R', nX3_goOver_88 N c27 N 40 (n3 b) x2 x3 x4 x5 x6 (n3 s) (n3 B) (n3 0) (hp κ) = nX3_goOver_129 N c27 40 (n3 b) x2 x3 x4 x5 x6 (hp κ') ∧ sameP [] [] κ κ' ∧ mC κ' q S W R' C ∧ ∀ x, R' x = true ↔ R x = true ∨ ∃ l, l < L ∧ B.testBit l = true ∧ x = s ||| 2 ^ l := by
  have hL : L ≤ 12 := by have := h.2.1; omega
  have hql : 2 ^ L ≤ 2 ^ q := Nat.pow_le_pow_right (by omega) hq
  have q2 := q12 h.2.1
  obtain ⟨m', s', e, i1, R', i2, i3⟩ := lpx (fun m l (r : hk_T) => nX3_goOver_88 N c27 m 40 (n3 b) x2 x3 x4 x5 x6 (n3 s) (n3 B) (n3 l) (hp r)) L (fun l r => sameP [] [] κ r ∧ ∃ R', mC r q S W R' C ∧ ∀ x, R' x = true ↔ R x = true ∨ ∃ l', l' < l ∧ B.testBit l' = true ∧ x = s ||| 2 ^ l') (by
    rintro m l r hl ⟨i1, R', i2, i3⟩
    have r15 : hk_I r 1 15 = n3 L := by rw [i1.2.2.1 1 15 (by decide)]; exact h15
    have lt := or_lt hs hl
    have hB2 : B < 2147483648 := by omega
    by_cases c : B.testBit l = true
    · obtain ⟨r1, w1, k1, g1⟩ := i2.wR (i := s ||| 2 ^ l) (x := true) (by omega)
      rw [if_pos rfl] at w1
      refine ⟨r1, ?_, i1.trans k1, _, g1, ?_⟩
      · rw [nX3_goOver_88]
        simp (maxSteps := 400000) (disch := omega) only [n3_l, n3_add, n3_mul, n3_sub, n3_subn, n3_lt, n3_le, n3_eq, n3_eqn, n3_neq, n3_and, n3_or, n3_shl, n3_i, n3_cl, ↓hbd_0, ↓hbd_1, ↓hbd_2, hk_ob_0, hk_rd_0, hk_rd_1, hk_rd_2, hk_al_0, hk_al_1, h3r_0, h3r_1, hk_wi_0, hk_wj_0, h3w_0, h3w_1, h3v_0, hk_kI, hk_kJ, hk_kA, hk_kB, A_eq, A_ne, A_row, B_eq, B_ne, B_row, I_eq, I_ne, J_eq, J_ne, Option.bind_some, Option.some.injEq, if_true, if_false, eq_self, true_or, or_true, true_and, and_true, false_or, or_false, not_true_eq_false, not_false_eq_true, Classical.not_not, nar_b0, nar_b1, rz_0, rz_1, rz_i, ite01, Nat.add_zero, Nat.zero_add, Nat.one_mul, mul12, reduceIte, ra_z0, Nat.reduceEqDiff, Nat.reduceLT, Nat.reduceLeDiff, Nat.reduceAdd, Nat.reduceMul, Nat.reduceSub, Nat.reduceDiv, Nat.reduceMod, Bool.false_eq_true, false_and, and_false, reduceCtorEq, r15, hl, n3_shl, bit_and, c, w1, nX3_goOver_123]
      · intro x
        try dsimp only
        by_cases e : x = s ||| 2 ^ l
        · rw [if_pos e]
          exact ⟨fun _ => Or.inr ⟨l, by omega, c, e⟩, fun _ => rfl⟩
        · rw [if_neg e, i3]
          constructor
          · rintro (z | ⟨l', z1, z2, z3⟩)
            · exact Or.inl z
            · exact Or.inr ⟨l', by omega, z2, z3⟩
          · rintro (z | ⟨l', z1, z2, z3⟩)
            · exact Or.inl z
            · refine Or.inr ⟨l', ?_, z2, z3⟩
              by_cases el : l' = l
              · rw [el] at z3; exact absurd z3 e
              · omega
    · refine ⟨r, ?_, i1, R', i2, ?_⟩
      · rw [nX3_goOver_88]
        simp (maxSteps := 400000) (disch := omega) only [n3_l, n3_add, n3_mul, n3_sub, n3_subn, n3_lt, n3_le, n3_eq, n3_eqn, n3_neq, n3_and, n3_or, n3_shl, n3_i, n3_cl, ↓hbd_0, ↓hbd_1, ↓hbd_2, hk_ob_0, hk_rd_0, hk_rd_1, hk_rd_2, hk_al_0, hk_al_1, h3r_0, h3r_1, hk_wi_0, hk_wj_0, h3w_0, h3w_1, h3v_0, hk_kI, hk_kJ, hk_kA, hk_kB, A_eq, A_ne, A_row, B_eq, B_ne, B_row, I_eq, I_ne, J_eq, J_ne, Option.bind_some, Option.some.injEq, if_true, if_false, eq_self, true_or, or_true, true_and, and_true, false_or, or_false, not_true_eq_false, not_false_eq_true, Classical.not_not, nar_b0, nar_b1, rz_0, rz_1, rz_i, ite01, Nat.add_zero, Nat.zero_add, Nat.one_mul, mul12, reduceIte, ra_z0, Nat.reduceEqDiff, Nat.reduceLT, Nat.reduceLeDiff, Nat.reduceAdd, Nat.reduceMul, Nat.reduceSub, Nat.reduceDiv, Nat.reduceMod, Bool.false_eq_true, false_and, and_false, reduceCtorEq, r15, hl, n3_shl, bit_and, c, nX3_goOver_123]
      · intro x
        rw [i3]
        constructor
        · rintro (z | ⟨l', z1, z2, z3⟩)
          · exact Or.inl z
          · exact Or.inr ⟨l', by omega, z2, z3⟩
        · rintro (z | ⟨l', z1, z2, z3⟩)
          · exact Or.inl z
          · refine Or.inr ⟨l', ?_, z2, z3⟩
            by_cases el : l' = l
            · rw [el] at z2; exact absurd z2 c
            · omega) L 0 N κ (by omega) (by omega) ⟨sameP.refl _ _ _, R, h, fun x => ⟨fun z => Or.inl z, fun z => by
        rcases z with z | ⟨l', z, -⟩
        · exact z
        · omega⟩⟩
  refine ⟨s', R', ?_, i1, i2, i3⟩
  have r15 : hk_I s' 1 15 = n3 L := by rw [i1.2.2.1 1 15 (by decide)]; exact h15
  have e0 : nX3_goOver_88 N c27 N 40 (n3 b) x2 x3 x4 x5 x6 (n3 s) (n3 B) (n3 0) (hp κ) = nX3_goOver_88 N c27 (m' + 1) 40 (n3 b) x2 x3 x4 x5 x6 (n3 s) (n3 B) (n3 L) (hp s') := e
  rw [e0, nX3_goOver_88]
  simp (maxSteps := 400000) (disch := omega) only [n3_l, n3_add, n3_mul, n3_sub, n3_subn, n3_lt, n3_le, n3_eq, n3_eqn, n3_neq, n3_and, n3_or, n3_shl, n3_i, n3_cl, ↓hbd_0, ↓hbd_1, ↓hbd_2, hk_ob_0, hk_rd_0, hk_rd_1, hk_rd_2, hk_al_0, hk_al_1, h3r_0, h3r_1, hk_wi_0, hk_wj_0, h3w_0, h3w_1, h3v_0, hk_kI, hk_kJ, hk_kA, hk_kB, A_eq, A_ne, A_row, B_eq, B_ne, B_row, I_eq, I_ne, J_eq, J_ne, Option.bind_some, Option.some.injEq, if_true, if_false, eq_self, true_or, or_true, true_and, and_true, false_or, or_false, not_true_eq_false, not_false_eq_true, Classical.not_not, nar_b0, nar_b1, rz_0, rz_1, rz_i, ite01, Nat.add_zero, Nat.zero_add, Nat.one_mul, mul12, reduceIte, ra_z0, Nat.reduceEqDiff, Nat.reduceLT, Nat.reduceLeDiff, Nat.reduceAdd, Nat.reduceMul, Nat.reduceSub, Nat.reduceDiv, Nat.reduceMod, Bool.false_eq_true, false_and, and_false, reduceCtorEq, r15, Nat.lt_irrefl]
end
