/-! from behind to the first book: beginBehindAll, weighBook -/
theorem nar_ab : ∀ a, a < 64 → ∀ b, b < 128 → vp_nar .short ((Int32.toInt16 (n3 (128 * a + b))).toInt32) = n3 (128 * a + b) := by decide +kernel
theorem nar_s {x : Nat} (h : x < 8192) : vp_nar .short ((Int32.toInt16 (n3 x)).toInt32) = n3 x := by
  have := nar_ab (x / 128) (by omega) (x % 128) (by omega)
  rw [show 128 * (x / 128) + x % 128 = x by omega] at this
  exact this
theorem shl_ab : ∀ b, b < 40 → ∀ L, L < 13 → n3 b <<< n3 (L &&& 31) = n3 (b * 2 ^ L) := by decide +kernel
theorem pc_le {O : Nat} : 2 ^ pcw 13 O ≤ 8192 := (Nat.pow_le_pow_right (by omega) (pcw_le 13 O) : 2 ^ pcw 13 O ≤ 2 ^ 13)
section
variable (N : Nat) (κ : hk_T)
theorem c_begin {A : Nat → Nat → Int} {U V : Nat → Int} {nB L q : Nat} {S : Nat → Int} {W : Nat → Nat} {R : Nat → Bool} {C : Nat → Nat} (hB : hk_I κ 1 13 = n3 nB) (h40 : nB ≤ 40) (hq : L ≤ q) (h : mC κ q S W R C)
    (h50 : hk_A κ 50 nB = n3 (mayM A U V L nB)) (h51 : hk_A κ 51 nB = n3 (musM A U V L nB nB)) (hN : 10000 < N) :
    ∃ κ' S' W' R', fX3_beginBehindAll N 40 (hp κ) = some (hp κ') ∧ sameP [] [] κ κ' ∧ mC κ' q S' W' R' C ∧ (∀ s, lev A U V L nB nB s → S' s = 0 ∧ W' s = 1 ∧ R' s = false) ∧ ∀ s, R' s = true → R s = true := by
  have hL : L ≤ 12 := by have := h.2.1; omega
  have hql : 2 ^ L ≤ 2 ^ q := Nat.pow_le_pow_right (by omega) hq
  have q2 := q12 h.2.1
  have ho := opM_lt2 (a := A) (u := U) (v := V) (n := nB) hL nB
  have oa := c_openAt N κ (b := nB) h40 h50 h51
  have bc := f_bitCount N (hp κ) (x := opM A U V L nB nB) (by omega)
  have pl := pcw_le 13 (opM A U V L nB nB)
  have p8 := pc_le (O := opM A U V L nB nB)
  have hm := musM_lt (a := A) (u := U) (v := V) (L := L) (n := nB) nB
  obtain ⟨m', ⟨s', pt⟩, e, i1, -, S', W', R', i2, i3, i4⟩ := lpx (fun m j (s : hk_T × Int32) => nX3_beginBehindAll_35 N m 40 (n3 (musM A U V L nB nB)) (n3 (opM A U V L nB nB)) s.2 (n3 (2 ^ pcw 13 (opM A U V L nB nB) - j)) (hp s.1)) (2 ^ pcw 13 (opM A U V L nB nB)) (fun j s => sameP [] [] κ s.1 ∧ (j < 2 ^ pcw 13 (opM A U V L nB nB) → s.2 = n3 (dep 32 (opM A U V L nB nB) j)) ∧ ∃ S' W' R', mC s.1 q S' W' R' C ∧ (∀ x, R' x = true → R x = true) ∧ ∀ j', j' < j → S' (sJ A U V L nB nB j') = 0 ∧ W' (sJ A U V L nB nB j') = 1 ∧ R' (sJ A U V L nB nB j') = false) (by
    rintro m j ⟨r, pt⟩ hj ⟨i1, i2, S', W', R', i3, i4, i5⟩
    try dsimp only at i1 i2 i3 ⊢
    have hpt := i2 hj
    have ix : n3 (musM A U V L nB nB) ||| pt = n3 (sJ A U V L nB nB j) := by rw [hpt, n3_or]; rfl
    have lt := lev_lt (sJ_lev (a := A) (u := U) (v := V) (n := nB) hL nB j)
    obtain ⟨r1, w1, k1, g1⟩ := i3.wS (i := sJ A U V L nB nB j) (x := 0) (by omega) (by omega)
    obtain ⟨r2, w2, k2, g2⟩ := g1.wW (i := sJ A U V L nB nB j) (x := 1) (by omega) (by omega)
    obtain ⟨r3, w3, k3, g3⟩ := g2.wR (i := sJ A U V L nB nB j) (x := false) (by omega)
    rw [if_neg (by decide)] at w3
    have z0 : z3 0 = n3 0 := rfl
    rw [z0] at w1
    have ed : 2 ^ pcw 13 (opM A U V L nB nB) - (j + 1) = 2 ^ pcw 13 (opM A U V L nB nB) - j - 1 := by omega
    have cz : ¬ 2 ^ pcw 13 (opM A U V L nB nB) - j ≤ 0 := by omega
    refine ⟨(r3, (pt - n3 (opM A U V L nB nB)) &&& n3 (opM A U V L nB nB)), ?_, i1.trans (k1.trans (k2.trans k3)), ?_, _, _, _, g3, ?_, ?_⟩
    · try dsimp only
      rw [nX3_beginBehindAll_35, ed]
      simp (maxSteps := 400000) (disch := omega) only [n3_l, n3_add, n3_mul, n3_sub, n3_subn, n3_lt, n3_le, n3_eq, n3_eqn, n3_neq, n3_and, n3_or, n3_shl, n3_i, n3_cl, ↓hbd_0, ↓hbd_1, ↓hbd_2, hk_ob_0, hk_rd_0, hk_rd_1, hk_rd_2, hk_al_0, hk_al_1, h3r_0, h3r_1, hk_wi_0, hk_wj_0, h3w_0, h3w_1, h3v_0, hk_kI, hk_kJ, hk_kA, hk_kB, A_eq, A_ne, A_row, B_eq, B_ne, B_row, I_eq, I_ne, J_eq, J_ne, Option.bind_some, Option.some.injEq, if_true, if_false, eq_self, true_or, or_true, true_and, and_true, false_or, or_false, not_true_eq_false, not_false_eq_true, Classical.not_not, nar_b0, nar_b1, rz_0, rz_1, rz_i, ite01, Nat.add_zero, Nat.zero_add, Nat.one_mul, mul12, reduceIte, ra_z0, Nat.reduceEqDiff, Nat.reduceLT, Nat.reduceLeDiff, Nat.reduceAdd, Nat.reduceMul, Nat.reduceSub, Nat.reduceDiv, Nat.reduceMod, Bool.false_eq_true, false_and, and_false, reduceCtorEq, ix, w1, w2, w3, cz]
    · intro hj'
      try dsimp only
      rw [hpt]
      exact n3_part ho hj'
    · intro x hx
      try dsimp only at hx
      split at hx
      · cases hx
      · exact i4 x hx
    · intro j' hj'
      try dsimp only
      by_cases e : j' = j
      · rw [e, if_pos rfl, if_pos rfl, if_pos rfl]; exact ⟨rfl, rfl, rfl⟩
      · have hne : ¬ sJ A U V L nB nB j' = sJ A U V L nB nB j := fun z => e (sJ_inj hL (by omega) hj z)
        rw [if_neg hne, if_neg hne, if_neg hne]
        exact i5 j' (by omega)) (2 ^ pcw 13 (opM A U V L nB nB)) 0 N (κ, n3 0) (by omega) (by omega) ⟨sameP.refl _ _ _, fun _ => by show n3 0 = _; rw [dep_zero], S, W, R, h, fun _ h => h, fun j' h => by omega⟩
  try dsimp only at i1 i2
  refine ⟨s', S', W', R', ?_, i1, i2, ?_, i3⟩
  · have e0 : nX3_beginBehindAll_35 N N 40 (n3 (musM A U V L nB nB)) (n3 (opM A U V L nB nB)) (n3 0) (n3 (2 ^ pcw 13 (opM A U V L nB nB))) (hp κ) = nX3_beginBehindAll_35 N (m' + 1) 40 (n3 (musM A U V L nB nB)) (n3 (opM A U V L nB nB)) pt (n3 (2 ^ pcw 13 (opM A U V L nB nB) - 2 ^ pcw 13 (opM A U V L nB nB))) (hp s') := e
    have oa' : fX3_openAt N 40 (n3 nB) (hp κ) = some (n3 (opM A U V L nB nB), hp κ) := oa
    unfold fX3_beginBehindAll nX3_beginBehindAll_0
    simp (maxSteps := 400000) (disch := omega) only [n3_l, n3_add, n3_mul, n3_sub, n3_subn, n3_lt, n3_le, n3_eq, n3_eqn, n3_neq, n3_and, n3_or, n3_shl, n3_i, n3_cl, ↓hbd_0, ↓hbd_1, ↓hbd_2, hk_ob_0, hk_rd_0, hk_rd_1, hk_rd_2, hk_al_0, hk_al_1, h3r_0, h3r_1, hk_wi_0, hk_wj_0, h3w_0, h3w_1, h3v_0, hk_kI, hk_kJ, hk_kA, hk_kB, A_eq, A_ne, A_row, B_eq, B_ne, B_row, I_eq, I_ne, J_eq, J_ne, Option.bind_some, Option.some.injEq, if_true, if_false, eq_self, true_or, or_true, true_and, and_true, false_or, or_false, not_true_eq_false, not_false_eq_true, Classical.not_not, nar_b0, nar_b1, rz_0, rz_1, rz_i, ite01, Nat.add_zero, Nat.zero_add, Nat.one_mul, mul12, reduceIte, ra_z0, Nat.reduceEqDiff, Nat.reduceLT, Nat.reduceLeDiff, Nat.reduceAdd, Nat.reduceMul, Nat.reduceSub, Nat.reduceDiv, Nat.reduceMod, Bool.false_eq_true, false_and, and_false, reduceCtorEq, hB, h51, oa', bc, n3_shl]
    rw [e0, Nat.sub_self, nX3_beginBehindAll_35]
    simp (maxSteps := 400000) (disch := omega) only [n3_l, n3_add, n3_mul, n3_sub, n3_subn, n3_lt, n3_le, n3_eq, n3_eqn, n3_neq, n3_and, n3_or, n3_shl, n3_i, n3_cl, ↓hbd_0, ↓hbd_1, ↓hbd_2, hk_ob_0, hk_rd_0, hk_rd_1, hk_rd_2, hk_al_0, hk_al_1, h3r_0, h3r_1, hk_wi_0, hk_wj_0, h3w_0, h3w_1, h3v_0, hk_kI, hk_kJ, hk_kA, hk_kB, A_eq, A_ne, A_row, B_eq, B_ne, B_row, I_eq, I_ne, J_eq, J_ne, Option.bind_some, Option.some.injEq, if_true, if_false, eq_self, true_or, or_true, true_and, and_true, false_or, or_false, not_true_eq_false, not_false_eq_true, Classical.not_not, nar_b0, nar_b1, rz_0, rz_1, rz_i, ite01, Nat.add_zero, Nat.zero_add, Nat.one_mul, mul12, reduceIte, ra_z0, Nat.reduceEqDiff, Nat.reduceLT, Nat.reduceLeDiff, Nat.reduceAdd, Nat.reduceMul, Nat.reduceSub, Nat.reduceDiv, Nat.reduceMod, Bool.false_eq_true, false_and, and_false, reduceCtorEq]
  · intro s hs
    obtain ⟨j, hj, e⟩ := lev_sJ hL hs
    rw [e]
    exact i4 j hj
end
/-- weighSet, of the four cells -/
theorem mC.ws {N : Nat} {κ : hk_T} {q : Nat} {S : Nat → Int} {W : Nat → Nat} {R : Nat → Bool} {C : Nat → Nat} (h : mC κ q S W R C) {L s ms sz : Nat} {g : Nat → Nat} {wg : Nat → Int} (hq : L ≤ q) (hs : s < 2 ^ L) (hms : ms < 2 ^ L) (hsz : sz ≤ L) (hg : ∀ i, i < sz → g i < L ∧ hk_A κ 52 i = n3 (2 ^ g i) ∧ hk_A κ 53 i = z3 (wg (g i))) (hwg : ∀ l, -2000 ≤ wg l ∧ wg l ≤ 2000)
    {r : Int × Nat × Nat} (hr : wsR S W wg g sz ms s = r) (hr1 : -2000000 ≤ r.1 ∧ r.1 ≤ 2000000) (hr2 : r.2.1 ≤ 1000000000) (hN : 1000 < N) :
    ∃ κ', fX3_weighSet N 40 (n3 s) (n3 sz) (n3 ms) (hp κ) = some (n3 r.2.2, hp κ') ∧ sameP [] [] κ κ' ∧ mC κ' q (fun j => if j = s then r.1 else S j) (fun j => if j = s then r.2.1 else W j) R C := by
  have hq0 := h
  have q2 := q12 h.2.1
  obtain ⟨h1, h2, ⟨c8, c9, c10, c11⟩, h4, h5⟩ := h
  have hql : 2 ^ L ≤ 2 ^ q := Nat.pow_le_pow_right (by omega) hq
  have key := c_weighSet N κ (d8 := hk_P κ 8) (d9 := hk_P κ 9) rfl rfl (by omega) (by omega) (by omega) c8 c9 (by omega) hql q2 hs hms hsz hg h4 h5 hwg hN
  rw [hr] at key
  refine ⟨_, key, ((sameP.refl _ _ _).wD (by unfold pL; simp)).wD (by unfold pL; simp), h1, h2, ⟨?_, ?_, ?_, ?_⟩, ?_, ?_⟩
  · show hk_D (hk_wD (hk_wD κ (hk_P κ 8) _) (hk_P κ 9) _) (hk_P κ 8) = _
    rw [D_ne _ (by omega), D_eq]
    congr 1
    funext j
    try dsimp only
    by_cases e : j = s
    · rw [if_pos e, if_pos e]
    · rw [if_neg e, if_neg e]
  · show hk_D (hk_wD (hk_wD κ (hk_P κ 8) _) (hk_P κ 9) _) (hk_P κ 9) = _
    rw [D_eq]
    congr 1
    funext j
    try dsimp only
    by_cases e : j = s
    · rw [if_pos e, if_pos e]
    · rw [if_neg e, if_neg e]
  · show hk_D (hk_wD (hk_wD κ (hk_P κ 8) _) (hk_P κ 9) _) (hk_P κ 10) = _
    rw [D_ne _ (by omega), D_ne _ (by omega)]; exact c10
  · show hk_D (hk_wD (hk_wD κ (hk_P κ 8) _) (hk_P κ 9) _) (hk_P κ 11) = _
    rw [D_ne _ (by omega), D_ne _ (by omega)]; exact c11
  · intro j
    show -2000000 ≤ (if j = s then r.1 else S j) ∧ (if j = s then r.1 else S j) ≤ 2000000
    split
    · exact hr1
    · exact h4 j
  · intro j
    show (if j = s then r.2.1 else W j) ≤ 1000000000
    split
    · exact hr2
    · exact h5 j
def usB (A : Nat → Nat → Int) (U V : Nat → Int) (l b : Nat) : Bool := decide (A l b = U l + V b)
theorem usB_iff {A : Nat → Nat → Int} {U V : Nat → Int} {l b : Nat} : usB A U V l b = true ↔ A l b = U l + V b := by unfold usB; exact decide_eq_true_iff
section
variable (N : Nat) (κ : hk_T)
theorem c_bookLoop {A : Nat → Nat → Int} {U V : Nat → Int} {nB L q b k sz : Nat} {g : Nat → Nat} {S : Nat → Int} {W : Nat → Nat} {R : Nat → Bool} {C : Nat → Nat} (hk : b + 1 + k = nB) (h40 : nB ≤ 40) (hq : L ≤ q) (h : mC κ q S W R C)
    (h51 : hk_A κ 51 (b + 1) = n3 (musM A U V L nB (b + 1))) (hA : ∀ l b, -2000 ≤ A l b ∧ A l b ≤ 2000) (hl : LL (fun l => l < L ∧ usB A U V l b = true) (fun l => l) sz g) (hsz : sz ≤ L) (hg : ∀ i, i < sz → hk_A κ 52 i = n3 (2 ^ g i) ∧ hk_A κ 53 i = z3 (A (g i) b))
    (hT : ∀ s, lev A U V L nB (b + 1) s → S s = (cT A (usB A U V) (musM A U V L nB) L nB k s).1 ∧ W s = (cT A (usB A U V) (musM A U V L nB) L nB k s).2.1) (hN : 10000 < N) :
    ∃ κ' S' W' R' C', nX3_weighBook_43 N N 40 (n3 b) (n3 sz) (n3 (musM A U V L nB b)) (n3 (opM A U V L nB b)) (n3 (b * 2 ^ L)) (n3 0) (n3 (2 ^ pcw 13 (opM A U V L nB b))) (hp κ) = some (hp κ') ∧ sameP [] [] κ κ' ∧ mC κ' q S' W' R' C' ∧
      (∀ s, lev A U V L nB b s → S' s = (cT A (usB A U V) (musM A U V L nB) L nB (k + 1) s).1 ∧ W' s = (cT A (usB A U V) (musM A U V L nB) L nB (k + 1) s).2.1 ∧ R' s = false ∧ C' (b * 2 ^ L + s) = (cT A (usB A U V) (musM A U V L nB) L nB (k + 1) s).2.2) ∧
      (∀ s, R' s = true → R s = true) ∧ ∀ i, (i < b * 2 ^ L ∨ (b + 1) * 2 ^ L ≤ i) → C' i = C i := by
  have hL : L ≤ 12 := by have := h.2.1; omega
  have hql : 2 ^ L ≤ 2 ^ q := Nat.pow_le_pow_right (by omega) hq
  have q2 := q12 h.2.1
  have ho := opM_lt2 (a := A) (u := U) (v := V) (n := nB) hL b
  have p8 := pc_le (O := opM A U V L nB b)
  have hm := musM_lt (a := A) (u := U) (v := V) (L := L) (n := nB) (b + 1)
  have eb : nB - (k + 1) = b := by omega
  have ec : nB - k = b + 1 := by omega
  have b1 : b * 2 ^ L ≤ 39 * 2 ^ L := Nat.mul_le_mul_right _ (by omega)
  have b2 : (b + 1) * 2 ^ L = b * 2 ^ L + 2 ^ L := Nat.succ_mul _ _
  obtain ⟨m', ⟨s', pt⟩, e, i1, -, S', W', R', C', i2, i3, -, i5, i6⟩ := lpx (fun m j (s : hk_T × Int32) => nX3_weighBook_43 N m 40 (n3 b) (n3 sz) (n3 (musM A U V L nB b)) (n3 (opM A U V L nB b)) (n3 (b * 2 ^ L)) s.2 (n3 (2 ^ pcw 13 (opM A U V L nB b) - j)) (hp s.1)) (2 ^ pcw 13 (opM A U V L nB b)) (fun j s => sameP [] [] κ s.1 ∧ (j < 2 ^ pcw 13 (opM A U V L nB b) → s.2 = n3 (dep 32 (opM A U V L nB b) j)) ∧ ∃ S' W' R' C', mC s.1 q S' W' R' C' ∧
      (∀ j', j' < j → S' (sJ A U V L nB b j') = (cT A (usB A U V) (musM A U V L nB) L nB (k + 1) (sJ A U V L nB b j')).1 ∧ W' (sJ A U V L nB b j') = (cT A (usB A U V) (musM A U V L nB) L nB (k + 1) (sJ A U V L nB b j')).2.1 ∧ R' (sJ A U V L nB b j') = false ∧ C' (b * 2 ^ L + sJ A U V L nB b j') = (cT A (usB A U V) (musM A U V L nB) L nB (k + 1) (sJ A U V L nB b j')).2.2) ∧
      (∀ x, (∀ j', j' < j → x ≠ sJ A U V L nB b j') → S' x = S x ∧ W' x = W x) ∧ (∀ x, R' x = true → R x = true) ∧ ∀ i, (i < b * 2 ^ L ∨ (b + 1) * 2 ^ L ≤ i) → C' i = C i) (by
    rintro m j ⟨r, pt⟩ hj ⟨i1, i2, S', W', R', C', i3, i4, i5, i6, i7⟩
    try dsimp only at i1 i2 i3 ⊢
    have hpt := i2 hj
    have ix : n3 (musM A U V L nB b) ||| pt = n3 (sJ A U V L nB b j) := by rw [hpt, n3_or]; rfl
    have lv := sJ_lev (a := A) (u := U) (v := V) (n := nB) hL b j
    have lt := lev_lt lv
    have nv1 : ∀ j', j' < j → sJ A U V L nB b j ≠ sJ A U V L nB b j' := by
      intro j' hj' z
      have := sJ_inj hL hj (by omega) z
      omega
    have nv2 : ∀ l, ∀ j', j' < j → sJ A U V L nB b j ||| 2 ^ l ≠ sJ A U V L nB b j' := by
      intro l j' hj' z
      have := sJ_sub (a := A) (u := U) (v := V) (n := nB) hL (j' := j') hj (fun l' hl' => by rw [← z, Nat.testBit_or, hl']; rfl)
      omega
    have w := @wsR_cT A (usB A U V) (musM A U V L nB) L nB k (sJ A U V L nB b j) sz g S' W'
    rw [eb, ec] at w
    have w0 := w hl (fun hm => by
      obtain ⟨t1, t2⟩ := hT _ (lev_next (by omega) lv hm)
      obtain ⟨t3, t4⟩ := i5 _ nv1
      exact ⟨t3.trans t1, t4.trans t2⟩) (fun l hl hu hs hm => by
      obtain ⟨t1, t2⟩ := hT _ (lev_line (by omega) lv hl (usB_iff.mp hu) hm)
      obtain ⟨t3, t4⟩ := i5 _ (nv2 l)
      exact ⟨t3.trans t1, t4.trans t2⟩)
    have bl := cT_lo (a := A) (us := usB A U V) (mst := musM A U V L nB) (n := nB) hL (k + 1) (sJ A U V L nB b j)
    have bh := cT_le (a := A) (us := usB A U V) (mst := musM A U V L nB) (n := nB) hL (k + 1) (sJ A U V L nB b j)
    have bh2 := mS_hi (a := A) (L := L) (n := nB) (fun l b => (hA l b).2) (k + 1) (sJ A U V L nB b j)
    have bw := cT_ways A (usB A U V) (musM A U V L nB) L nB hL (k + 1) (sJ A U V L nB b j)
    have bm := cT_msk (a := A) (us := usB A U V) (mst := musM A U V L nB) (L := L) (n := nB) hL k (sJ A U V L nB b j)
    have r51 : hk_A r 51 (b + 1) = n3 (musM A U V L nB (b + 1)) := by rw [i1.1 51 (by decide)]; exact h51
    obtain ⟨r1, w1, k1, g1⟩ := i3.ws (N := N) (L := L) (ms := musM A U V L nB (b + 1)) (sz := sz) (g := g) (wg := fun l => A l b) hq lt hm hsz (fun i hi => ⟨(hl.1 i hi).1, by rw [i1.1 52 (by decide), i1.1 53 (by decide)]; exact hg i hi⟩) (fun l => hA l b) w0 ⟨by omega, by omega⟩ bw (by omega)
    obtain ⟨r2, w2, k2, g2⟩ := g1.wC (i := b * 2 ^ L + sJ A U V L nB b j) (x := (cT A (usB A U V) (musM A U V L nB) L nB (k + 1) (sJ A U V L nB b j)).2.2) (by omega)
    obtain ⟨r3, w3, k3, g3⟩ := g2.wR (i := sJ A U V L nB b j) (x := false) (by omega)
    rw [if_neg (by decide)] at w3
    have e11 : hk_P r 11 = hk_P r1 11 := by rw [k1.2.2.2.2.1]
    have ed : 2 ^ pcw 13 (opM A U V L nB b) - (j + 1) = 2 ^ pcw 13 (opM A U V L nB b) - j - 1 := by omega
    have cz : ¬ 2 ^ pcw 13 (opM A U V L nB b) - j ≤ 0 := by omega
    refine ⟨(r3, (pt - n3 (opM A U V L nB b)) &&& n3 (opM A U V L nB b)), ?_, i1.trans (k1.trans (k2.trans k3)), ?_, _, _, _, _, g3, ?_, ?_, ?_, ?_⟩
    · try dsimp only
      rw [nX3_weighBook_43, ed]
      simp (maxSteps := 400000) (disch := omega) only [n3_l, n3_add, n3_mul, n3_sub, n3_subn, n3_lt, n3_le, n3_eq, n3_eqn, n3_neq, n3_and, n3_or, n3_shl, n3_i, n3_cl, ↓hbd_0, ↓hbd_1, ↓hbd_2, hk_ob_0, hk_rd_0, hk_rd_1, hk_rd_2, hk_al_0, hk_al_1, h3r_0, h3r_1, hk_wi_0, hk_wj_0, h3w_0, h3w_1, h3v_0, hk_kI, hk_kJ, hk_kA, hk_kB, A_eq, A_ne, A_row, B_eq, B_ne, B_row, I_eq, I_ne, J_eq, J_ne, Option.bind_some, Option.some.injEq, if_true, if_false, eq_self, true_or, or_true, true_and, and_true, false_or, or_false, not_true_eq_false, not_false_eq_true, Classical.not_not, nar_b0, nar_b1, rz_0, rz_1, rz_i, ite01, Nat.add_zero, Nat.zero_add, Nat.one_mul, mul12, reduceIte, ra_z0, Nat.reduceEqDiff, Nat.reduceLT, Nat.reduceLeDiff, Nat.reduceAdd, Nat.reduceMul, Nat.reduceSub, Nat.reduceDiv, Nat.reduceMod, Bool.false_eq_true, false_and, and_false, reduceCtorEq, ix, cz, r51, w1, e11, nar_s bm, w2, w3]
    · intro hj'
      try dsimp only
      rw [hpt]
      exact n3_part ho hj'
    · intro j' hj'
      try dsimp only
      by_cases e : j' = j
      · rw [e, if_pos rfl, if_pos rfl, if_pos rfl, if_pos rfl]; exact ⟨rfl, rfl, rfl, rfl⟩
      · have hne : ¬ sJ A U V L nB b j' = sJ A U V L nB b j := fun z => e (sJ_inj hL (by omega) hj z)
        have hne2 : ¬ b * 2 ^ L + sJ A U V L nB b j' = b * 2 ^ L + sJ A U V L nB b j := by omega
        rw [if_neg hne, if_neg hne, if_neg hne, if_neg hne2]
        exact i4 j' (by omega)
    · intro x hx
      try dsimp only
      rw [if_neg (hx j (by omega)), if_neg (hx j (by omega))]
      exact i5 x (fun j' h => hx j' (by omega))
    · intro x hx
      try dsimp only at hx
      split at hx
      · cases hx
      · exact i6 x hx
    · intro i hi
      try dsimp only
      rw [if_neg (by omega)]
      exact i7 i hi) (2 ^ pcw 13 (opM A U V L nB b)) 0 N (κ, n3 0) (by omega) (by omega) ⟨sameP.refl _ _ _, fun _ => by show n3 0 = _; rw [dep_zero], S, W, R, C, h, fun j' h => by omega, fun x _ => ⟨rfl, rfl⟩, fun _ h => h, fun _ _ => rfl⟩
  try dsimp only at i1 i2
  refine ⟨s', S', W', R', C', ?_, i1, i2, ?_, i5, i6⟩
  · have e0 : nX3_weighBook_43 N N 40 (n3 b) (n3 sz) (n3 (musM A U V L nB b)) (n3 (opM A U V L nB b)) (n3 (b * 2 ^ L)) (n3 0) (n3 (2 ^ pcw 13 (opM A U V L nB b))) (hp κ) = nX3_weighBook_43 N (m' + 1) 40 (n3 b) (n3 sz) (n3 (musM A U V L nB b)) (n3 (opM A U V L nB b)) (n3 (b * 2 ^ L)) pt (n3 (2 ^ pcw 13 (opM A U V L nB b) - 2 ^ pcw 13 (opM A U V L nB b))) (hp s') := e
    rw [e0, Nat.sub_self, nX3_weighBook_43]
    simp (maxSteps := 400000) (disch := omega) only [n3_l, n3_add, n3_mul, n3_sub, n3_subn, n3_lt, n3_le, n3_eq, n3_eqn, n3_neq, n3_and, n3_or, n3_shl, n3_i, n3_cl, ↓hbd_0, ↓hbd_1, ↓hbd_2, hk_ob_0, hk_rd_0, hk_rd_1, hk_rd_2, hk_al_0, hk_al_1, h3r_0, h3r_1, hk_wi_0, hk_wj_0, h3w_0, h3w_1, h3v_0, hk_kI, hk_kJ, hk_kA, hk_kB, A_eq, A_ne, A_row, B_eq, B_ne, B_row, I_eq, I_ne, J_eq, J_ne, Option.bind_some, Option.some.injEq, if_true, if_false, eq_self, true_or, or_true, true_and, and_true, false_or, or_false, not_true_eq_false, not_false_eq_true, Classical.not_not, nar_b0, nar_b1, rz_0, rz_1, rz_i, ite01, Nat.add_zero, Nat.zero_add, Nat.one_mul, mul12, reduceIte, ra_z0, Nat.reduceEqDiff, Nat.reduceLT, Nat.reduceLeDiff, Nat.reduceAdd, Nat.reduceMul, Nat.reduceSub, Nat.reduceDiv, Nat.reduceMod, Bool.false_eq_true, false_and, and_false, reduceCtorEq]
  · intro s hs
    obtain ⟨j, hj, e⟩ := lev_sJ hL hs
    rw [e]
    exact i3 j hj
end
