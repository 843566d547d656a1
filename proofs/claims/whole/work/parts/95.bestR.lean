/-! best: the reference -/
theorem how_nst {T : Nat → tauT} {F SD HI : Nat → Int32} {R : Nat → Nat → Option Nat} {c : Nat → Nat} {n nT fi sc y : Nat} (hfi : fi < nT) (hsc : sc < nT) (hR : ∀ t b, t < nT → b < n → rsO SD HI F b (seatX (T t) (fx F b)) = R t b) (hc' : ∀ b, b < n → F (12 * b + 2) = n3 (c b)) (hc2 : ∀ b, c b ≤ 199) (hy : y ≤ 200) :
    cnt (fun b => howG (mkF F) (seF T F fi sc y) (rtB SD HI F) b = 4) n = nst R c n fi sc y := by
  have hm : ∀ b, mkF F b = false → seF T F fi sc y b = none := by
    intro b h
    exact seF_0 (by simpa [mkF] using h)
  have hs : ∀ b s, rsG (seF T F fi sc y) (rtB SD HI F) b = some s → s < 5346 := by
    intro b s h
    unfold rsG at h
    cases hq : seF T F fi sc y b with
    | none => rw [hq] at h; cases h
    | some s' =>
      rw [hq] at h
      dsimp only at h
      split at h
      · have e : s' = s := Option.some.inj h
        rw [← e]; exact seF_lt hq
      · cases h
  rw [occ_first hs (fun b => howG_4 hm) n]
  unfold nst
  refine occ_cg (fun s _ => hc_cg (fun b hb => ?_) s)
  rw [rsG_rsO]
  unfold seF
  have e : F (12 * b + 2) < n3 y ↔ c b < y := by
    rw [hc' b hb]
    exact n3_lt (by have := hc2 b; omega) (by omega)
  by_cases g : c b < y
  · rw [if_pos g, if_pos (e.mpr g)]; exact hR fi b hfi hb
  · rw [if_neg g, if_neg (fun z => g (e.mp z))]; exact hR sc b hsc hb
theorem stB_some (a b y n : Nat) (o : bsT) : ∃ t, stB a b y n o = some t := by
  cases o with
  | none => exact ⟨_, rfl⟩
  | some q =>
    obtain ⟨m', f, s, yr, k⟩ := q
    unfold stB
    dsimp only
    split
    · split
      · exact ⟨_, rfl⟩
      · exact ⟨_, rfl⟩
    · exact ⟨_, rfl⟩
theorem pairF_some (R : Nat → Nat → Option Nat) (c : Nat → Nat) (n a b : Nat) (o : bsT) : ∃ t, pairF R c n a b o = some t := by
  unfold pairF
  rw [show 201 = 200 + 1 from rfl, fo_last]
  exact stB_some _ _ _ _ _
theorem bestF_some (R : Nat → Nat → Option Nat) (c : Nat → Nat) (n : Nat) {nT : Nat} (h : 0 < nT) : ∃ t, bestF R c n nT = some t := by
  obtain ⟨k, hk⟩ : ∃ k, nT = k + 1 := ⟨nT - 1, by omega⟩
  unfold bestF
  rw [hk, fo_last, rowF_eq, fo_last]
  exact pairF_some _ _ _ _ _ _
def bv0 (o : bsT) : Int32 := match o with | none => -n3 1 | some (m, _, _, _, _) => n3 m
def bv1 (o : bsT) : Int32 := match o with | none => n3 0 | some (_, f, _, _, _) => n3 f
def bv2 (o : bsT) : Int32 := match o with | none => n3 0 | some (_, _, s, _, _) => n3 s
def bv3 (o : bsT) : Int32 := match o with | none => n3 0 | some (_, _, _, y, _) => n3 y
def bv4 (o : bsT) : Int32 := match o with | none => n3 0 | some (_, _, _, _, k) => n3 k
section
variable (N : Nat) (κ : hk_T)
/-- one year -/
theorem r_bestY {w : Int32} {a b y n m : Nat} {o : bsT} {κ1 : hk_T} {c50 : Nat → Int32 → Int32 → Int32 → Int32 → Int32 → Int32 → Int32 → ra_H → Option (Int32 × ra_H)} {c66 : Nat → Int32 → Int32 → Int32 → Int32 → Int32 → Int32 → Int32 → Int32 → ra_H → Option (Int32 × ra_H)} (ho : oOk o) (hn : n ≤ 5346) (hy : y ≤ 200) (he : fX12_standing N 69 (n3 a) (n3 b) (n3 y) (hp κ) = some (n3 n, hp κ1)) :
    nX12_best_82 N c50 c66 (m + 1) 69 w (bv0 o) (bv1 o) (bv2 o) (bv3 o) (bv4 o) (n3 a) (n3 b) (n3 y) (hp κ) = nX12_best_82 N c50 c66 m 69 w (bv0 (stB a b y n o)) (bv1 (stB a b y n o)) (bv2 (stB a b y n o)) (bv3 (stB a b y n o)) (bv4 (stB a b y n o)) (n3 a) (n3 b) (n3 (y + 1)) (hp κ1) := by
  rw [nX12_best_82]
  cases o with
  | none =>
    have c : ¬ n3 n ≤ -n3 1 := by rw [i_le, n3_toInt (by omega), n3_ntoInt (by omega)]; omega
    have e0 : bv0 none = -n3 1 := rfl
    have e5 : stB a b y n none = some (n, a, b, y, 1) := rfl
    have f0 : bv0 (some (n, a, b, y, 1)) = n3 n := rfl
    have f1 : bv1 (some (n, a, b, y, 1)) = n3 a := rfl
    have f2 : bv2 (some (n, a, b, y, 1)) = n3 b := rfl
    have f3 : bv3 (some (n, a, b, y, 1)) = n3 y := rfl
    have f4 : bv4 (some (n, a, b, y, 1)) = n3 1 := rfl
    rw [e0, e5, f0, f1, f2, f3, f4]
    simp (maxSteps := 400000) (disch := omega) only [n3_l, n3_add, n3_mul, n3_sub, n3_subn, n3_lt, n3_le, n3_eq, n3_eqn, n3_neq, n3_and, n3_or, n3_shl, n3_i, n3_cl, ↓hbd_0, ↓hbd_1, ↓hbd_2, hk_ob_0, hk_rd_0, hk_rd_1, hk_rd_2, hk_al_0, hk_al_1, h3r_0, h3r_1, hk_wi_0, hk_wj_0, h3w_0, h3w_1, h3v_0, hk_kI, hk_kJ, hk_kA, hk_kB, A_eq, A_ne, A_row, B_eq, B_ne, B_row, I_eq, I_ne, J_eq, J_ne, Option.bind_some, Option.some.injEq, if_true, if_false, eq_self, true_or, or_true, true_and, and_true, false_or, or_false, not_true_eq_false, not_false_eq_true, Classical.not_not, nar_b0, nar_b1, rz_0, rz_1, rz_i, ite01, Nat.add_zero, Nat.zero_add, Nat.one_mul, mul12, reduceIte, ra_z0, Nat.reduceEqDiff, Nat.reduceLT, Nat.reduceLeDiff, Nat.reduceAdd, Nat.reduceMul, Nat.reduceSub, Nat.reduceDiv, Nat.reduceMod, Bool.false_eq_true, false_and, and_false, reduceCtorEq, hy, he, c, nX12_best_125, nX12_best_138]
  | some t =>
    obtain ⟨mm, f, s, yr, k⟩ := t
    have hm := ho mm (f, s, yr, k) rfl
    have e0 : bv0 (some (mm, f, s, yr, k)) = n3 mm := rfl
    unfold stB
    dsimp only
    by_cases c : n ≤ mm
    · rw [if_pos c]
      by_cases c2 : n = mm
      · rw [if_pos c2]
        have f4 : bv4 (some (mm, f, s, yr, k + 1)) = n3 (k + 1) := rfl
        have g4 : bv4 (some (mm, f, s, yr, k)) = n3 k := rfl
        have g0 : bv0 (some (mm, f, s, yr, k + 1)) = n3 mm := rfl
        have g1 : bv1 (some (mm, f, s, yr, k + 1)) = bv1 (some (mm, f, s, yr, k)) := rfl
        have g2 : bv2 (some (mm, f, s, yr, k + 1)) = bv2 (some (mm, f, s, yr, k)) := rfl
        have g3 : bv3 (some (mm, f, s, yr, k + 1)) = bv3 (some (mm, f, s, yr, k)) := rfl
        rw [f4, g4, g0, g1, g2, g3, e0]
        subst c2
        simp (maxSteps := 400000) (disch := omega) only [n3_l, n3_add, n3_mul, n3_sub, n3_subn, n3_lt, n3_le, n3_eq, n3_eqn, n3_neq, n3_and, n3_or, n3_shl, n3_i, n3_cl, ↓hbd_0, ↓hbd_1, ↓hbd_2, hk_ob_0, hk_rd_0, hk_rd_1, hk_rd_2, hk_al_0, hk_al_1, h3r_0, h3r_1, hk_wi_0, hk_wj_0, h3w_0, h3w_1, h3v_0, hk_kI, hk_kJ, hk_kA, hk_kB, A_eq, A_ne, A_row, B_eq, B_ne, B_row, I_eq, I_ne, J_eq, J_ne, Option.bind_some, Option.some.injEq, if_true, if_false, eq_self, true_or, or_true, true_and, and_true, false_or, or_false, not_true_eq_false, not_false_eq_true, Classical.not_not, nar_b0, nar_b1, rz_0, rz_1, rz_i, ite01, Nat.add_zero, Nat.zero_add, Nat.one_mul, mul12, reduceIte, ra_z0, Nat.reduceEqDiff, Nat.reduceLT, Nat.reduceLeDiff, Nat.reduceAdd, Nat.reduceMul, Nat.reduceSub, Nat.reduceDiv, Nat.reduceMod, Bool.false_eq_true, false_and, and_false, reduceCtorEq, hy, he, Nat.le_refl, nX12_best_125, nX12_best_138]
      · rw [if_neg c2, e0]
        have z0 : bv4 (some (mm, f, s, yr, k)) + n3 0 = bv4 (some (mm, f, s, yr, k)) := Int32.add_zero _
        simp (maxSteps := 400000) (disch := omega) only [n3_l, n3_add, n3_mul, n3_sub, n3_subn, n3_lt, n3_le, n3_eq, n3_eqn, n3_neq, n3_and, n3_or, n3_shl, n3_i, n3_cl, ↓hbd_0, ↓hbd_1, ↓hbd_2, hk_ob_0, hk_rd_0, hk_rd_1, hk_rd_2, hk_al_0, hk_al_1, h3r_0, h3r_1, hk_wi_0, hk_wj_0, h3w_0, h3w_1, h3v_0, hk_kI, hk_kJ, hk_kA, hk_kB, A_eq, A_ne, A_row, B_eq, B_ne, B_row, I_eq, I_ne, J_eq, J_ne, Option.bind_some, Option.some.injEq, if_true, if_false, eq_self, true_or, or_true, true_and, and_true, false_or, or_false, not_true_eq_false, not_false_eq_true, Classical.not_not, nar_b0, nar_b1, rz_0, rz_1, rz_i, ite01, Nat.add_zero, Nat.zero_add, Nat.one_mul, mul12, reduceIte, ra_z0, Nat.reduceEqDiff, Nat.reduceLT, Nat.reduceLeDiff, Nat.reduceAdd, Nat.reduceMul, Nat.reduceSub, Nat.reduceDiv, Nat.reduceMod, Bool.false_eq_true, false_and, and_false, reduceCtorEq, hy, he, c, c2, nX12_best_125, nX12_best_138, z0]
    · rw [if_neg c]
      have f0 : bv0 (some (n, a, b, y, 1)) = n3 n := rfl
      have f1 : bv1 (some (n, a, b, y, 1)) = n3 a := rfl
      have f2 : bv2 (some (n, a, b, y, 1)) = n3 b := rfl
      have f3 : bv3 (some (n, a, b, y, 1)) = n3 y := rfl
      have f4 : bv4 (some (n, a, b, y, 1)) = n3 1 := rfl
      rw [e0, f0, f1, f2, f3, f4]
      simp (maxSteps := 400000) (disch := omega) only [n3_l, n3_add, n3_mul, n3_sub, n3_subn, n3_lt, n3_le, n3_eq, n3_eqn, n3_neq, n3_and, n3_or, n3_shl, n3_i, n3_cl, ↓hbd_0, ↓hbd_1, ↓hbd_2, hk_ob_0, hk_rd_0, hk_rd_1, hk_rd_2, hk_al_0, hk_al_1, h3r_0, h3r_1, hk_wi_0, hk_wj_0, h3w_0, h3w_1, h3v_0, hk_kI, hk_kJ, hk_kA, hk_kB, A_eq, A_ne, A_row, B_eq, B_ne, B_row, I_eq, I_ne, J_eq, J_ne, Option.bind_some, Option.some.injEq, if_true, if_false, eq_self, true_or, or_true, true_and, and_true, false_or, or_false, not_true_eq_false, not_false_eq_true, Classical.not_not, nar_b0, nar_b1, rz_0, rz_1, rz_i, ite01, Nat.add_zero, Nat.zero_add, Nat.one_mul, mul12, reduceIte, ra_z0, Nat.reduceEqDiff, Nat.reduceLT, Nat.reduceLeDiff, Nat.reduceAdd, Nat.reduceMul, Nat.reduceSub, Nat.reduceDiv, Nat.reduceMod, Bool.false_eq_true, false_and, and_false, reduceCtorEq, hy, he, c, nX12_best_125, nX12_best_138]
/-- seats found, and what else the reference's history needs -/
def rV (κ : hk_T) (n nT : Nat) (T : Nat → tauT) (Q : Nat → Int32) : Prop := ∀ t b, t < nT → b < n → hk_A κ 84 (40 * t + b) = seatR (seatX (T t) (fx Q b)) ∧ hk_A κ 85 (40 * t + b) = (if (rsO (rSD Q) (rHI Q) Q b (seatX (T t) (fx Q b))) = none then n3 0 else n3 1)
theorem r_bestPair {n nT u a b : Nat} {T : Nat → tauT} {R : Nat → Nat → Option Nat} {c : Nat → Nat} {w : Int32} {o : bsT} {c50 : Nat → Int32 → Int32 → Int32 → Int32 → Int32 → Int32 → Int32 → ra_H → Option (Int32 × ra_H)} {c66 : Nat → Int32 → Int32 → Int32 → Int32 → Int32 → Int32 → Int32 → Int32 → ra_H → Option (Int32 × ra_H)}
    (h : rH κ n nT u T) (hv : rV κ n nT T (hk_A κ 71)) (hu : u < 900000000) (ha : a < nT) (hb : b < nT) (hR : ∀ t b, t < nT → b < n → rsO (rSD (hk_A κ 71)) (rHI (hk_A κ 71)) (hk_A κ 71) b (seatX (T t) (fx (hk_A κ 71) b)) = R t b) (hc' : ∀ b, b < n → hk_A κ 71 (12 * b + 2) = n3 (c b)) (hc2 : ∀ b, c b ≤ 199) (ho : oOk o) (hN : 100000 < N) :
    ∃ κ', nX12_best_82 N c50 c66 N 69 w (bv0 o) (bv1 o) (bv2 o) (bv3 o) (bv4 o) (n3 a) (n3 b) (n3 0) (hp κ) = c66 69 w (bv0 (pairF R c n a b o)) (bv1 (pairF R c n a b o)) (bv2 (pairF R c n a b o)) (bv3 (pairF R c n a b o)) (bv4 (pairF R c n a b o)) (n3 a) (n3 (b + 1)) (hp κ') ∧ same [86, 87, 88] [(69, 38)] κ κ' ∧ rH κ' n nT (u + 201) T ∧ oOk (pairF R c n a b o) := by
  obtain ⟨m', ⟨s', o'⟩, e, i1, i2, i3, i4⟩ := lpx (fun m y (s : hk_T × bsT) => nX12_best_82 N c50 c66 m 69 w (bv0 s.2) (bv1 s.2) (bv2 s.2) (bv3 s.2) (bv4 s.2) (n3 a) (n3 b) (n3 y) (hp s.1)) 201 (fun y s => same [86, 87, 88] [(69, 38)] κ s.1 ∧ rH s.1 n nT (u + y) T ∧ s.2 = fo (fun y => stB a b y (nst R c n a b y)) 0 y o ∧ oOk s.2) (by
    rintro m y ⟨r, o1⟩ hy ⟨i1, i2, i3, i4⟩
    dsimp only at i1 i2 i3 i4 ⊢
    have e71 : hk_A r 71 = hk_A κ 71 := i1.1 71 (by decide)
    obtain ⟨r1, f1, f2, f3, -⟩ := r_one N r (fi := a) (sc := b) (y := y) i2 (by omega) ha hb hN (by
      intro t b' g1 g2
      rw [i1.1 84 (by decide), i1.1 85 (by decide), e71]
      exact hv t b' g1 g2)
    rw [e71, how_nst ha hb hR hc' hc2 (by omega)] at f1
    have nb : nst R c n a b y ≤ 5346 := occ_le _
    refine ⟨(r1, stB a b y (nst R c n a b y) o1), ?_, i1.trans f2, f3, ?_, stB_ok nb i4⟩
    · exact r_bestY N r i4 nb (by omega) f1
    · dsimp only
      rw [fo_last, Nat.zero_add, i3]) 201 0 N (κ, o) (by omega) (by omega) ⟨same.refl _ _ _, h, rfl, ho⟩
  dsimp only at i1 i2 i3 i4
  have e0 : nX12_best_82 N c50 c66 N 69 w (bv0 o) (bv1 o) (bv2 o) (bv3 o) (bv4 o) (n3 a) (n3 b) (n3 0) (hp κ) = nX12_best_82 N c50 c66 (m' + 1) 69 w (bv0 o') (bv1 o') (bv2 o') (bv3 o') (bv4 o') (n3 a) (n3 b) (n3 201) (hp s') := e
  have i3' : o' = pairF R c n a b o := i3
  rw [← i3']
  refine ⟨s', ?_, i1, i2, i4⟩
  have c201 : ¬ 201 ≤ 200 := by omega
  rw [e0, nX12_best_82]
  simp (maxSteps := 400000) (disch := omega) only [n3_l, n3_add, n3_mul, n3_sub, n3_subn, n3_lt, n3_le, n3_eq, n3_eqn, n3_neq, n3_and, n3_or, n3_shl, n3_i, n3_cl, ↓hbd_0, ↓hbd_1, ↓hbd_2, hk_ob_0, hk_rd_0, hk_rd_1, hk_rd_2, hk_al_0, hk_al_1, h3r_0, h3r_1, hk_wi_0, hk_wj_0, h3w_0, h3w_1, h3v_0, hk_kI, hk_kJ, hk_kA, hk_kB, A_eq, A_ne, A_row, B_eq, B_ne, B_row, I_eq, I_ne, J_eq, J_ne, Option.bind_some, Option.some.injEq, if_true, if_false, eq_self, true_or, or_true, true_and, and_true, false_or, or_false, not_true_eq_false, not_false_eq_true, Classical.not_not, nar_b0, nar_b1, rz_0, rz_1, rz_i, ite01, Nat.add_zero, Nat.zero_add, Nat.one_mul, mul12, reduceIte, ra_z0, Nat.reduceEqDiff, Nat.reduceLT, Nat.reduceLeDiff, Nat.reduceAdd, Nat.reduceMul, Nat.reduceSub, Nat.reduceDiv, Nat.reduceMod, Bool.false_eq_true, false_and, and_false, reduceCtorEq, c201]
set_option maxRecDepth 100000 in
theorem r_best {n nT u w : Nat} {T : Nat → tauT} {R : Nat → Nat → Option Nat} {c : Nat → Nat} (h : rH κ n nT u T) (hu : u < 800000000) (hT : 0 < nT) (hw : w ≤ 4) (hR : ∀ t b, t < nT → b < n → rsO (rSD (hk_A κ 71)) (rHI (hk_A κ 71)) (hk_A κ 71) b (seatX (T t) (fx (hk_A κ 71) b)) = R t b) (hc' : ∀ b, b < n → hk_A κ 71 (12 * b + 2) = n3 (c b)) (hc2 : ∀ b, c b ≤ 199) (hN : 100000 < N) :
    ∃ κ' o, fX12_best N 69 (n3 w) (hp κ) = some (bsV (bestF R c n nT) w, hp κ') ∧ bestF R c n nT = some o ∧ same [82, 83, 84, 85, 86, 87, 88] [(69, 0), (69, 27), (69, 30), (69, 33), (69, 38)] κ κ' ∧ ∃ u', u' ≤ u + 12864 ∧ rH κ' n nT u' T := by
  have h0 : rH (hk_wI κ 69 0 (n3 0)) n nT u T := by
    obtain ⟨k1, k2, k3, k4, k5, k6, k7, k8⟩ := h
    exact ⟨k1, k2, k3, k4, k5, k6, by rw [I_ne (Or.inr (by decide))]; exact k7, k8⟩
  obtain ⟨κ1, e1, s1, g1, v1⟩ := r_find N (hk_wI κ 69 0 (n3 0)) h0 hN
  have e71 : hk_A κ1 71 = hk_A κ 71 := s1.1 71 (by decide)
  have v1' : rV κ1 n nT T (hk_A κ1 71) := by rw [e71]; exact v1
  have h4 := h.2.2.2.1
  obtain ⟨m', ⟨s', o'⟩, e, i1, ⟨u1, i2, i3⟩, i4, i5⟩ := lpx (fun m a (s : hk_T × bsT) => nX12_best_50 N m 69 (n3 w) (bv0 s.2) (bv1 s.2) (bv2 s.2) (bv3 s.2) (bv4 s.2) (n3 a) (hp s.1)) nT (fun a s => same [86, 87, 88] [(69, 38)] κ1 s.1 ∧ (∃ u', u' ≤ u + a * 1608 ∧ rH s.1 n nT u' T) ∧ s.2 = fo (rowF R c n nT) 0 a none ∧ oOk s.2) (by
    rintro m a ⟨r, o1⟩ ha ⟨i1, ⟨u1, i2, i3⟩, i4, i5⟩
    dsimp only at i1 i2 i3 i4 i5 ⊢
    have r481 : hk_A r 71 481 = n3 nT := i3.2.2.1
    obtain ⟨m2, ⟨s2, o2⟩, e2, j1, ⟨u2, j2, j3'⟩, j4, j5⟩ := lpx (fun m' b (s : hk_T × bsT) => nX12_best_66 N (nX12_best_50 N m) m' 69 (n3 w) (bv0 s.2) (bv1 s.2) (bv2 s.2) (bv3 s.2) (bv4 s.2) (n3 a) (n3 b) (hp s.1)) nT (fun b s => same [86, 87, 88] [(69, 38)] κ1 s.1 ∧ (∃ u', u' ≤ u + a * 1608 + b * 201 ∧ rH s.1 n nT u' T) ∧ s.2 = fo (pairF R c n a) 0 b o1 ∧ oOk s.2) (by
      rintro m' b ⟨r', o3⟩ hb ⟨j1, ⟨u2, j2, j3'⟩, j4, j5⟩
      dsimp only at j1 j2 j3' j4 j5 ⊢
      have q481 : hk_A r' 71 481 = n3 nT := j3'.2.2.1
      have q71 : hk_A r' 71 = hk_A κ 71 := by rw [j1.1 71 (by decide)]; exact e71
      obtain ⟨r1, f1, f2, f3, f4⟩ := r_bestPair N r' (u := u2) (a := a) (b := b) (R := R) (c := c) (w := n3 w) (o := o3) (c50 := nX12_best_50 N m) (c66 := nX12_best_66 N (nX12_best_50 N m) m') j3' (by
        intro t b' k1 k2
        rw [j1.1 84 (by decide), j1.1 85 (by decide), j1.1 71 (by decide)]
        exact v1' t b' k1 k2) (by omega) ha hb (by rw [q71]; exact hR) (by rw [q71]; exact hc') hc2 j5 hN
      refine ⟨(r1, pairF R c n a b o3), ?_, j1.trans f2, ⟨u2 + 201, by omega, f3⟩, ?_, f4⟩
      · rw [nX12_best_66]
        simp (maxSteps := 400000) (disch := omega) only [n3_l, n3_add, n3_mul, n3_sub, n3_subn, n3_lt, n3_le, n3_eq, n3_eqn, n3_neq, n3_and, n3_or, n3_shl, n3_i, n3_cl, ↓hbd_0, ↓hbd_1, ↓hbd_2, hk_ob_0, hk_rd_0, hk_rd_1, hk_rd_2, hk_al_0, hk_al_1, h3r_0, h3r_1, hk_wi_0, hk_wj_0, h3w_0, h3w_1, h3v_0, hk_kI, hk_kJ, hk_kA, hk_kB, A_eq, A_ne, A_row, B_eq, B_ne, B_row, I_eq, I_ne, J_eq, J_ne, Option.bind_some, Option.some.injEq, if_true, if_false, eq_self, true_or, or_true, true_and, and_true, false_or, or_false, not_true_eq_false, not_false_eq_true, Classical.not_not, nar_b0, nar_b1, rz_0, rz_1, rz_i, ite01, Nat.add_zero, Nat.zero_add, Nat.one_mul, mul12, reduceIte, ra_z0, Nat.reduceEqDiff, Nat.reduceLT, Nat.reduceLeDiff, Nat.reduceAdd, Nat.reduceMul, Nat.reduceSub, Nat.reduceDiv, Nat.reduceMod, Bool.false_eq_true, false_and, and_false, reduceCtorEq, q481, hb]
        exact f1
      · dsimp only
        rw [fo_last, Nat.zero_add, j4]) nT 0 N (r, o1) (by omega) (by omega) ⟨i1, ⟨u1, by omega, i3⟩, rfl, i5⟩
    dsimp only at j1 j2 j3' j4 j5
    have e3 : nX12_best_66 N (nX12_best_50 N m) N 69 (n3 w) (bv0 o1) (bv1 o1) (bv2 o1) (bv3 o1) (bv4 o1) (n3 a) (n3 0) (hp r) = nX12_best_66 N (nX12_best_50 N m) (m2 + 1) 69 (n3 w) (bv0 o2) (bv1 o2) (bv2 o2) (bv3 o2) (bv4 o2) (n3 a) (n3 nT) (hp s2) := e2
    have q481 : hk_A s2 71 481 = n3 nT := j3'.2.2.1
    refine ⟨(s2, o2), ?_, j1, ⟨u2, ?_, j3'⟩, ?_, j5⟩
    · rw [nX12_best_50]
      simp (maxSteps := 400000) (disch := omega) only [n3_l, n3_add, n3_mul, n3_sub, n3_subn, n3_lt, n3_le, n3_eq, n3_eqn, n3_neq, n3_and, n3_or, n3_shl, n3_i, n3_cl, ↓hbd_0, ↓hbd_1, ↓hbd_2, hk_ob_0, hk_rd_0, hk_rd_1, hk_rd_2, hk_al_0, hk_al_1, h3r_0, h3r_1, hk_wi_0, hk_wj_0, h3w_0, h3w_1, h3v_0, hk_kI, hk_kJ, hk_kA, hk_kB, A_eq, A_ne, A_row, B_eq, B_ne, B_row, I_eq, I_ne, J_eq, J_ne, Option.bind_some, Option.some.injEq, if_true, if_false, eq_self, true_or, or_true, true_and, and_true, false_or, or_false, not_true_eq_false, not_false_eq_true, Classical.not_not, nar_b0, nar_b1, rz_0, rz_1, rz_i, ite01, Nat.add_zero, Nat.zero_add, Nat.one_mul, mul12, reduceIte, ra_z0, Nat.reduceEqDiff, Nat.reduceLT, Nat.reduceLeDiff, Nat.reduceAdd, Nat.reduceMul, Nat.reduceSub, Nat.reduceDiv, Nat.reduceMod, Bool.false_eq_true, false_and, and_false, reduceCtorEq, r481, ha]
      rw [e3, nX12_best_66]
      simp (maxSteps := 400000) (disch := omega) only [n3_l, n3_add, n3_mul, n3_sub, n3_subn, n3_lt, n3_le, n3_eq, n3_eqn, n3_neq, n3_and, n3_or, n3_shl, n3_i, n3_cl, ↓hbd_0, ↓hbd_1, ↓hbd_2, hk_ob_0, hk_rd_0, hk_rd_1, hk_rd_2, hk_al_0, hk_al_1, h3r_0, h3r_1, hk_wi_0, hk_wj_0, h3w_0, h3w_1, h3v_0, hk_kI, hk_kJ, hk_kA, hk_kB, A_eq, A_ne, A_row, B_eq, B_ne, B_row, I_eq, I_ne, J_eq, J_ne, Option.bind_some, Option.some.injEq, if_true, if_false, eq_self, true_or, or_true, true_and, and_true, false_or, or_false, not_true_eq_false, not_false_eq_true, Classical.not_not, nar_b0, nar_b1, rz_0, rz_1, rz_i, ite01, Nat.add_zero, Nat.zero_add, Nat.one_mul, mul12, reduceIte, ra_z0, Nat.reduceEqDiff, Nat.reduceLT, Nat.reduceLeDiff, Nat.reduceAdd, Nat.reduceMul, Nat.reduceSub, Nat.reduceDiv, Nat.reduceMod, Bool.false_eq_true, false_and, and_false, reduceCtorEq, q481, Nat.lt_irrefl]
    · omega
    · dsimp only
      rw [fo_last, Nat.zero_add, rowF_eq, j4, i4]) nT 0 N (κ1, none) (by omega) (by omega) ⟨same.refl _ _ _, ⟨u, by omega, g1⟩, rfl, oOk_none⟩
  dsimp only at i1 i2 i3 i4 i5
  have i4' : o' = bestF R c n nT := i4
  have e4 : nX12_best_50 N N 69 (n3 w) (-n3 1) (n3 0) (n3 0) (n3 0) (n3 0) (n3 0) (hp κ1) = nX12_best_50 N (m' + 1) 69 (n3 w) (bv0 o') (bv1 o') (bv2 o') (bv3 o') (bv4 o') (n3 nT) (hp s') := e
  have q481 : hk_A s' 71 481 = n3 nT := i3.2.2.1
  obtain ⟨t, ht⟩ := bestF_some R c n hT
  have hx : o' = some t := by rw [i4', ht]
  rw [ht]
  refine ⟨s', t, ?_, rfl, ?_, ⟨u1, by omega, i3⟩⟩
  · have hv : vIn 0 4 (n3 w) = true := vIn_n3 (lo := 0) (hi := 4) (by omega) hw (by omega)
    have o481 : hk_A (hk_wI κ 69 0 (n3 0)) 71 481 = n3 nT := h.2.2.1
    have cT : ¬ nT = 0 := by omega
    rw [hx] at e4
    have st : fX12_best N 69 (n3 w) (hp κ) = nX12_best_50 N N 69 (n3 w) (-n3 1) (n3 0) (n3 0) (n3 0) (n3 0) (n3 0) (hp κ1) := by
      unfold fX12_best nX12_best_0
      simp (maxSteps := 400000) (disch := omega) only [n3_l, n3_add, n3_mul, n3_sub, n3_subn, n3_lt, n3_le, n3_eq, n3_eqn, n3_neq, n3_and, n3_or, n3_shl, n3_i, n3_cl, ↓hbd_0, ↓hbd_1, ↓hbd_2, hk_ob_0, hk_rd_0, hk_rd_1, hk_rd_2, hk_al_0, hk_al_1, h3r_0, h3r_1, hk_wi_0, hk_wj_0, h3w_0, h3w_1, h3v_0, hk_kI, hk_kJ, hk_kA, hk_kB, A_eq, A_ne, A_row, B_eq, B_ne, B_row, I_eq, I_ne, J_eq, J_ne, Option.bind_some, Option.some.injEq, if_true, if_false, eq_self, true_or, or_true, true_and, and_true, false_or, or_false, not_true_eq_false, not_false_eq_true, Classical.not_not, nar_b0, nar_b1, rz_0, rz_1, rz_i, ite01, Nat.add_zero, Nat.zero_add, Nat.one_mul, mul12, reduceIte, ra_z0, Nat.reduceEqDiff, Nat.reduceLT, Nat.reduceLeDiff, Nat.reduceAdd, Nat.reduceMul, Nat.reduceSub, Nat.reduceDiv, Nat.reduceMod, Bool.false_eq_true, false_and, and_false, reduceCtorEq, r_in32, j_l, hv, o481, cT, e1]
    rw [st, e4]
    obtain ⟨mm, f, s, y, k⟩ := t
    have f0 : bv0 (some (mm, f, s, y, k)) = n3 mm := rfl
    have f1 : bv1 (some (mm, f, s, y, k)) = n3 f := rfl
    have f2 : bv2 (some (mm, f, s, y, k)) = n3 s := rfl
    have f3 : bv3 (some (mm, f, s, y, k)) = n3 y := rfl
    have f4 : bv4 (some (mm, f, s, y, k)) = n3 k := rfl
    rw [nX12_best_50, f0, f1, f2, f3, f4]
    unfold bsV
    dsimp only
    rcases (by omega : w = 0 ∨ w = 1 ∨ w = 2 ∨ w = 3 ∨ w = 4) with e | e | e | e | e <;> subst e <;> simp (maxSteps := 400000) (disch := omega) only [n3_l, n3_add, n3_mul, n3_sub, n3_subn, n3_lt, n3_le, n3_eq, n3_eqn, n3_neq, n3_and, n3_or, n3_shl, n3_i, n3_cl, ↓hbd_0, ↓hbd_1, ↓hbd_2, hk_ob_0, hk_rd_0, hk_rd_1, hk_rd_2, hk_al_0, hk_al_1, h3r_0, h3r_1, hk_wi_0, hk_wj_0, h3w_0, h3w_1, h3v_0, hk_kI, hk_kJ, hk_kA, hk_kB, A_eq, A_ne, A_row, B_eq, B_ne, B_row, I_eq, I_ne, J_eq, J_ne, Option.bind_some, Option.some.injEq, if_true, if_false, eq_self, true_or, or_true, true_and, and_true, false_or, or_false, not_true_eq_false, not_false_eq_true, Classical.not_not, nar_b0, nar_b1, rz_0, rz_1, rz_i, ite01, Nat.add_zero, Nat.zero_add, Nat.one_mul, mul12, reduceIte, ra_z0, Nat.reduceEqDiff, Nat.reduceLT, Nat.reduceLeDiff, Nat.reduceAdd, Nat.reduceMul, Nat.reduceSub, Nat.reduceDiv, Nat.reduceMod, Bool.false_eq_true, false_and, and_false, reduceCtorEq, q481, Nat.lt_irrefl, nX12_best_198]
  · exact (((same.refl _ _ _).wI (by decide)).trans (s1.weak (by decide) (by decide))).trans (i1.weak (by decide) (by decide))
theorem r_best_x {nT : Nat} {w : Int32} (h481 : hk_A κ 71 481 = n3 nT) (hT8 : nT ≤ 8) (h : ¬ (vIn 0 4 w = true ∧ 0 < nT)) : fX12_best N 69 w (hp κ) = some (-n3 1, hp (hk_wI κ 69 0 (n3 0))) := by
  have o481 : hk_A (hk_wI κ 69 0 (n3 0)) 71 481 = n3 nT := h481
  unfold fX12_best nX12_best_0
  by_cases hv : vIn 0 4 w = true
  · have cT : nT = 0 := by
      rcases Nat.eq_zero_or_pos nT with e | e
      · exact e
      · exact absurd ⟨hv, e⟩ h
    subst cT
    simp (maxSteps := 400000) (disch := omega) only [n3_l, n3_add, n3_mul, n3_sub, n3_subn, n3_lt, n3_le, n3_eq, n3_eqn, n3_neq, n3_and, n3_or, n3_shl, n3_i, n3_cl, ↓hbd_0, ↓hbd_1, ↓hbd_2, hk_ob_0, hk_rd_0, hk_rd_1, hk_rd_2, hk_al_0, hk_al_1, h3r_0, h3r_1, hk_wi_0, hk_wj_0, h3w_0, h3w_1, h3v_0, hk_kI, hk_kJ, hk_kA, hk_kB, A_eq, A_ne, A_row, B_eq, B_ne, B_row, I_eq, I_ne, J_eq, J_ne, Option.bind_some, Option.some.injEq, if_true, if_false, eq_self, true_or, or_true, true_and, and_true, false_or, or_false, not_true_eq_false, not_false_eq_true, Classical.not_not, nar_b0, nar_b1, rz_0, rz_1, rz_i, ite01, Nat.add_zero, Nat.zero_add, Nat.one_mul, mul12, reduceIte, ra_z0, Nat.reduceEqDiff, Nat.reduceLT, Nat.reduceLeDiff, Nat.reduceAdd, Nat.reduceMul, Nat.reduceSub, Nat.reduceDiv, Nat.reduceMod, Bool.false_eq_true, false_and, and_false, reduceCtorEq, r_in32, j_l, hv, o481, nX12_best_28]
  · simp (maxSteps := 400000) (disch := omega) only [n3_l, n3_add, n3_mul, n3_sub, n3_subn, n3_lt, n3_le, n3_eq, n3_eqn, n3_neq, n3_and, n3_or, n3_shl, n3_i, n3_cl, ↓hbd_0, ↓hbd_1, ↓hbd_2, hk_ob_0, hk_rd_0, hk_rd_1, hk_rd_2, hk_al_0, hk_al_1, h3r_0, h3r_1, hk_wi_0, hk_wj_0, h3w_0, h3w_1, h3v_0, hk_kI, hk_kJ, hk_kA, hk_kB, A_eq, A_ne, A_row, B_eq, B_ne, B_row, I_eq, I_ne, J_eq, J_ne, Option.bind_some, Option.some.injEq, if_true, if_false, eq_self, true_or, or_true, true_and, and_true, false_or, or_false, not_true_eq_false, not_false_eq_true, Classical.not_not, nar_b0, nar_b1, rz_0, rz_1, rz_i, ite01, Nat.add_zero, Nat.zero_add, Nat.one_mul, mul12, reduceIte, ra_z0, Nat.reduceEqDiff, Nat.reduceLT, Nat.reduceLeDiff, Nat.reduceAdd, Nat.reduceMul, Nat.reduceSub, Nat.reduceDiv, Nat.reduceMod, Bool.false_eq_true, false_and, and_false, reduceCtorEq, r_in32, j_l, hv, nX12_best_28]
end
