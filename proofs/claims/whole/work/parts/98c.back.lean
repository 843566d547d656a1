/-! back: the class; image, back: the reference -/
def bkT (κ : hk_T) (I : Nat → Int32) (R : Nat → Nat → Int32) (Q : Nat → Option Nat) : hk_T := hk_of (fun k j => if k = 1 ∧ 13 ≤ j then I j else hk_I κ k j) (hk_J κ) (fun k i => if 2 ≤ k ∧ k ≤ 14 ∧ k ≠ 6 then R (k - 2) i else hk_A κ k i) (hk_B κ) (fun k i => if k = 6 then Q i else hk_Q κ k i) (hk_P κ) (hk_D κ) (hk_n κ) (hk_s κ) (hk_x κ)
theorem hp_bkT {κ : hk_T} {h : ra_H} {I : Nat → Int32} {R : Nat → Nat → Int32} {Q : Nat → Option Nat} (e : hol h 1 I R Q) (e2 : ∀ k, k < 1 ∨ 1 + 13 < k → h.1 k = (hp κ).1 k) (e3 : h.2 = (hp κ).2) : hp (bkT κ I R Q) = h := by
  refine Prod.ext (funext fun k => ?_) e3.symm
  by_cases c : k < 1 ∨ 1 + 13 < k
  · rw [e2 k c]
    show hk_c (bkT κ I R Q) k = hk_c κ k
    refine hk_c_cg (fun j c' => ?_) (fun t n => ?_) rfl
    · unfold hk_v
      split
      · show Value.int (if k = 1 ∧ 13 ≤ j then I j else hk_I κ k j) = _
        rw [if_neg (by omega)]
        rfl
      · rfl
      · rfl
      · rfl
    · have ea : (bkT κ I R Q).2.2.1 k = κ.2.2.1 k := by
        funext i
        show (if 2 ≤ k ∧ k ≤ 14 ∧ k ≠ 6 then _ else hk_A κ k i) = _
        rw [if_neg (by omega)]
        rfl
      have eq : (bkT κ I R Q).2.2.2.2.1 k = κ.2.2.2.2.1 k := by
        funext i
        show (if k = 6 then _ else hk_Q κ k i) = _
        rw [if_neg (by omega)]
        rfl
      unfold hk_ar
      rw [ea, eq]
      rfl
  · have r : ∀ i, i < 13 → i ≠ 4 → h.1 (1 + 1 + i) = .inl (0, hoL i, .inl (R i)) := e.2.1
    have c' : k = 1 ∨ k = 2 ∨ k = 3 ∨ k = 4 ∨ k = 5 ∨ k = 6 ∨ k = 7 ∨ k = 8 ∨ k = 9 ∨ k = 10 ∨ k = 11 ∨ k = 12 ∨ k = 13 ∨ k = 14 := by omega
    rcases c' with rfl | rfl | rfl | rfl | rfl | rfl | rfl | rfl | rfl | rfl | rfl | rfl | rfl | rfl
    · rw [e.1]; rfl
    · rw [r 0 (by omega) (by omega)]; rfl
    · rw [r 1 (by omega) (by omega)]; rfl
    · rw [r 2 (by omega) (by omega)]; rfl
    · rw [r 3 (by omega) (by omega)]; rfl
    · rw [show h.1 6 = _ from e.2.2]; rfl
    · rw [r 5 (by omega) (by omega)]; rfl
    · rw [r 6 (by omega) (by omega)]; rfl
    · rw [r 7 (by omega) (by omega)]; rfl
    · rw [r 8 (by omega) (by omega)]; rfl
    · rw [r 9 (by omega) (by omega)]; rfl
    · rw [r 10 (by omega) (by omega)]; rfl
    · rw [r 11 (by omega) (by omega)]; rfl
    · rw [r 12 (by omega) (by omega)]; rfl
section
variable (N : Nat) (κ : hk_T)
theorem c_backK {k a : Nat} {I : Nat → Int32} {R : Nat → Nat → Int32} {Q : Nat → Option Nat} (hk : k < 2) (hQ : hk_Q κ 15 k = some a) (ha : 101 ≤ a) (hi : imgC (hk_D κ) a I R Q) (hq : ∀ t q, t < 8 → Q t = some q → ra_isOb (hp κ) q 4 = true) (hN : 1000 < N) : ∃ κ', fX11_back N 0 (n3 k) (hp κ) = some (n3 0, hp κ') ∧ same [25] [(0, 10), (23, 9), (23, 10), (40, 12), (61, 4)] (bkT κ I (fun i => va_cpy (R i) (hk_A κ (2 + i)) 0 0 (hoL i)) (fun x => if x < 8 then Q x else hk_Q κ 6 x)) κ' ∧ hk_I κ' 0 10 = n3 0 ∧ hk_I κ' 23 9 = n3 0 ∧ hk_I κ' 23 10 = n3 0 ∧ hk_I κ' 40 12 = n3 0 ∧ hk_I κ' 61 4 = n3 0 ∧ ∀ i, i < 320 → hk_A κ' 25 i = n3 0 := by
  have l0 : ¬ n3 k < (0 : Int32) := fun z => by have := (n3_lt (a := k) (b := 0) (by omega) (by omega)).mp z; omega
  have l2 : n3 k < (2 : Int32) := (n3_lt (a := k) (b := 2) (by omega) (by omega)).mpr hk
  have f1 : ra_fR (hp κ) 11 0 1 = some 15 := rfl
  have f0 : ra_fR (hp κ) 11 0 0 = some 1 := rfl
  have f4 : ∀ κ, ra_fR (hp κ) 11 0 4 = some 23 := fun κ => rfl
  have f6 : ∀ κ, ra_fR (hp κ) 11 0 6 = some 40 := fun κ => rfl
  have f7 : ∀ κ, ra_fR (hp κ) 11 0 7 = some 61 := fun κ => rfl
  have an : ra_aN (hp κ) 15 (n3 k) = some (some a) := by
    rw [← hQ]
    simp (maxSteps := 400000) (disch := omega) only [n3_l, n3_add, n3_mul, n3_sub, n3_subn, n3_lt, n3_le, n3_eq, n3_eqn, n3_neq, n3_and, n3_or, n3_shl, n3_i, n3_cl, ↓hbd_0, ↓hbd_1, ↓hbd_2, hk_ob_0, hk_rd_0, hk_rd_1, hk_rd_2, hk_al_0, hk_al_1, h3r_0, h3r_1, hk_wi_0, hk_wj_0, h3w_0, h3w_1, h3v_0, hk_kI, hk_kJ, hk_kA, hk_kB, A_eq, A_ne, A_row, B_eq, B_ne, B_row, I_eq, I_ne, J_eq, J_ne, Option.bind_some, Option.some.injEq, if_true, if_false, eq_self, true_or, or_true, true_and, and_true, false_or, or_false, not_true_eq_false, not_false_eq_true, Classical.not_not, nar_b0, nar_b1, rz_0, rz_1, rz_i, ite01, Nat.add_zero, Nat.zero_add, Nat.one_mul, mul12, reduceIte, ra_z0, Nat.reduceEqDiff, Nat.reduceLT, Nat.reduceLeDiff, Nat.reduceAdd, Nat.reduceMul, Nat.reduceSub, Nat.reduceDiv, Nat.reduceMod, Bool.false_eq_true, false_and, and_false, reduceCtorEq]
  obtain ⟨h', e1, e2, e3, e4⟩ := f_takeOver N (now_hol κ) (hi.hol ha) (Or.inl (by omega)) hq hN
  have er := hp_bkT (κ := κ) e2 e3 e4
  obtain ⟨κ1, k1⟩ : ∃ κ1, κ1 = bkT κ I (fun i => va_cpy (R i) (hk_A κ (2 + i)) 0 0 (hoL i)) (fun x => if x < 8 then Q x else hk_Q κ 6 x) := ⟨_, rfl⟩
  rw [← k1] at er ⊢
  rw [← er] at e1
  obtain ⟨κ2, c1, c2, c3, c4, c5⟩ := c_forgetAll N κ1 hN
  have m3 := c_forgetMatches N κ2
  have m4 := c_forgetStack N (hk_wI κ2 40 12 (n3 0))
  have ac : fX11_accept N 0 (0 : Int32) (hp (hk_wI (hk_wI κ2 40 12 (n3 0)) 61 4 (n3 0))) = some (n3 0, hp (hk_wI (hk_wI (hk_wI κ2 40 12 (n3 0)) 61 4 (n3 0)) 0 10 (n3 0))) := c_accept N _ (n3 0)
  refine ⟨hk_wI (hk_wI (hk_wI κ2 40 12 (n3 0)) 61 4 (n3 0)) 0 10 (n3 0), ?_, (((c2.weak (by decide) (by decide)).wI (by decide)).wI (by decide)).wI (by decide), I_eq, ?_, ?_, ?_, ?_, c3⟩
  · have ob : fX11_back N 0 (n3 k) (hp κ) = nX11_back_0 N 0 (n3 k) (hp κ) := rfl
    rw [ob]
    unfold nX11_back_0
    rw [if_neg l0, if_pos l2, f1, Option.bind_some, an, Option.bind_some]
    dsimp only
    rw [f0, Option.bind_some, Option.bind_some, an, Option.bind_some]
    dsimp only
    rw [e1, Option.bind_some, f4, Option.bind_some, c1, Option.bind_some, f6, Option.bind_some, m3, Option.bind_some, f7, Option.bind_some, m4, Option.bind_some, ac, Option.bind_some]
  · rw [I_ne (by decide), I_ne (by decide), I_ne (by decide)]; exact c4
  · rw [I_ne (by decide), I_ne (by decide), I_ne (by decide)]; exact c5
  · rw [I_ne (by decide), I_ne (by decide), I_eq]
  · rw [I_ne (by decide), I_eq]
theorem c_backK_y {k : Nat} (hk : k < 2) (hQ : hk_Q κ 15 k = none) : fX11_back N 0 (n3 k) (hp κ) = some (-n3 2, hp (cRef κ 2)) := by
  have l0 : ¬ n3 k < (0 : Int32) := fun z => by have := (n3_lt (a := k) (b := 0) (by omega) (by omega)).mp z; omega
  have l2 : n3 k < (2 : Int32) := (n3_lt (a := k) (b := 2) (by omega) (by omega)).mpr hk
  have f1 : ra_fR (hp κ) 11 0 1 = some 15 := rfl
  have an : ra_aN (hp κ) 15 (n3 k) = some none := by
    rw [← hQ]
    simp (maxSteps := 400000) (disch := omega) only [n3_l, n3_add, n3_mul, n3_sub, n3_subn, n3_lt, n3_le, n3_eq, n3_eqn, n3_neq, n3_and, n3_or, n3_shl, n3_i, n3_cl, ↓hbd_0, ↓hbd_1, ↓hbd_2, hk_ob_0, hk_rd_0, hk_rd_1, hk_rd_2, hk_al_0, hk_al_1, h3r_0, h3r_1, hk_wi_0, hk_wj_0, h3w_0, h3w_1, h3v_0, hk_kI, hk_kJ, hk_kA, hk_kB, A_eq, A_ne, A_row, B_eq, B_ne, B_row, I_eq, I_ne, J_eq, J_ne, Option.bind_some, Option.some.injEq, if_true, if_false, eq_self, true_or, or_true, true_and, and_true, false_or, or_false, not_true_eq_false, not_false_eq_true, Classical.not_not, nar_b0, nar_b1, rz_0, rz_1, rz_i, ite01, Nat.add_zero, Nat.zero_add, Nat.one_mul, mul12, reduceIte, ra_z0, Nat.reduceEqDiff, Nat.reduceLT, Nat.reduceLeDiff, Nat.reduceAdd, Nat.reduceMul, Nat.reduceSub, Nat.reduceDiv, Nat.reduceMod, Bool.false_eq_true, false_and, and_false, reduceCtorEq]
  have rf : fX11_refuse N 0 (-2 : Int32) (hp κ) = _ := c_refuse N κ 2 (by omega) (by omega)
  have ob : fX11_back N 0 (n3 k) (hp κ) = nX11_back_0 N 0 (n3 k) (hp κ) := rfl
  rw [ob]
  unfold nX11_back_0
  rw [if_neg l0, if_pos l2, f1, Option.bind_some, an, Option.bind_some]
  dsimp only
  rw [rf, Option.bind_some]
  rfl
theorem c_img_x {x : Int32} (h : ¬ vIn 0 1 x = true) : fX11_image N 0 x (hp κ) = some (-n3 1, hp (cRef κ 1)) ∧ fX11_back N 0 x (hp κ) = some (-n3 1, hp (cRef κ 1)) := by
  have rf : fX11_refuse N 0 (-1 : Int32) (hp κ) = _ := c_refuse N κ 1 (by omega) (by omega)
  have hv : ¬ (0 ≤ x.toInt ∧ x.toInt ≤ 1) := fun z => h (vIn_iff.mpr z)
  have o1 : fX11_image N 0 x (hp κ) = nX11_image_0 N 0 x (hp κ) := rfl
  have o2 : fX11_back N 0 x (hp κ) = nX11_back_0 N 0 x (hp κ) := rfl
  rw [o1, o2]
  unfold nX11_image_0 nX11_back_0 nX11_image_9 nX11_back_9
  rw [rf, Option.bind_some]
  by_cases c : x < (0 : Int32)
  · rw [if_pos c, if_pos c]
    exact ⟨rfl, rfl⟩
  · have c2 : ¬ x < (2 : Int32) := by
      intro z
      have a1 := i_lt.mp z
      have a2 : ¬ x.toInt < (0 : Int32).toInt := fun q => c (i_lt.mpr q)
      have b1 : (2 : Int32).toInt = 2 := by decide
      have b2 : (0 : Int32).toInt = 0 := by decide
      omega
    rw [if_neg c, if_neg c, if_neg c2, if_neg c2]
    exact ⟨rfl, rfl⟩
theorem r_img_x {x : Int32} (h : ¬ vIn 0 1 x = true) : fX12_image N 69 x (hp κ) = some (-n3 1, hp (rRef κ 1)) ∧ fX12_back N 69 x (hp κ) = some (-n3 1, hp (rRef κ 1)) := by
  have te := r_telln N (hk_wI κ 69 0 (n3 0)) 1 (by omega) (by omega)
  have e0 : (0 : Int64).toInt = 0 := by decide
  have e1 : (1 : Int64).toInt = 1 := by decide
  have iv := r_in32 N x (0 : Int64) (1 : Int64) (hp (hk_wI κ 69 0 (n3 0)))
  rw [e0, e1, if_neg h] at iv
  constructor
  · simp (maxSteps := 400000) (disch := omega) only [n3_l, n3_add, n3_mul, n3_sub, n3_subn, n3_lt, n3_le, n3_eq, n3_eqn, n3_neq, n3_and, n3_or, n3_shl, n3_i, n3_cl, ↓hbd_0, ↓hbd_1, ↓hbd_2, hk_ob_0, hk_rd_0, hk_rd_1, hk_rd_2, hk_al_0, hk_al_1, h3r_0, h3r_1, hk_wi_0, hk_wj_0, h3w_0, h3w_1, h3v_0, hk_kI, hk_kJ, hk_kA, hk_kB, A_eq, A_ne, A_row, B_eq, B_ne, B_row, I_eq, I_ne, J_eq, J_ne, Option.bind_some, Option.some.injEq, if_true, if_false, eq_self, true_or, or_true, true_and, and_true, false_or, or_false, not_true_eq_false, not_false_eq_true, Classical.not_not, nar_b0, nar_b1, rz_0, rz_1, rz_i, ite01, Nat.add_zero, Nat.zero_add, Nat.one_mul, mul12, reduceIte, ra_z0, Nat.reduceEqDiff, Nat.reduceLT, Nat.reduceLeDiff, Nat.reduceAdd, Nat.reduceMul, Nat.reduceSub, Nat.reduceDiv, Nat.reduceMod, Bool.false_eq_true, false_and, and_false, reduceCtorEq, fX12_image, nX12_image_0, iv, te, rRef]
  · simp (maxSteps := 400000) (disch := omega) only [n3_l, n3_add, n3_mul, n3_sub, n3_subn, n3_lt, n3_le, n3_eq, n3_eqn, n3_neq, n3_and, n3_or, n3_shl, n3_i, n3_cl, ↓hbd_0, ↓hbd_1, ↓hbd_2, hk_ob_0, hk_rd_0, hk_rd_1, hk_rd_2, hk_al_0, hk_al_1, h3r_0, h3r_1, hk_wi_0, hk_wj_0, h3w_0, h3w_1, h3v_0, hk_kI, hk_kJ, hk_kA, hk_kB, A_eq, A_ne, A_row, B_eq, B_ne, B_row, I_eq, I_ne, J_eq, J_ne, Option.bind_some, Option.some.injEq, if_true, if_false, eq_self, true_or, or_true, true_and, and_true, false_or, or_false, not_true_eq_false, not_false_eq_true, Classical.not_not, nar_b0, nar_b1, rz_0, rz_1, rz_i, ite01, Nat.add_zero, Nat.zero_add, Nat.one_mul, mul12, reduceIte, ra_z0, Nat.reduceEqDiff, Nat.reduceLT, Nat.reduceLeDiff, Nat.reduceAdd, Nat.reduceMul, Nat.reduceSub, Nat.reduceDiv, Nat.reduceMod, Bool.false_eq_true, false_and, and_false, reduceCtorEq, fX12_back, nX12_back_0, iv, te, rRef]
theorem r_image {k : Nat} (hk : k < 2) (hN : 10000 < N) : ∃ κ', fX12_image N 69 (n3 k) (hp κ) = some (n3 0, hp κ') ∧ same [72, 73] [(69, 0), (69, 1)] κ κ' ∧ hk_I κ' 69 1 = n3 0 ∧ (∀ x, x < 7960 → hk_A κ' 72 (7960 * k + x) = hk_A κ 71 x) ∧ (∀ y, ¬ (7960 * k ≤ y ∧ y < 7960 * k + 7960) → hk_A κ' 72 y = hk_A κ 72 y) ∧ ∀ y, hk_A κ' 73 y = if y = k then n3 1 else hk_A κ 73 y := by
  have e0 : (0 : Int64).toInt = 0 := by decide
  have e1 : (1 : Int64).toInt = 1 := by decide
  have iv := r_in32 N (n3 k) (0 : Int64) (1 : Int64) (hp (hk_wI κ 69 0 (n3 0)))
  rw [e0, e1, if_pos (vIn_iff.mpr (by rw [n3_toInt (by omega)]; omega))] at iv
  have loop : ∀ r s m κ1, r + s = 7960 → r < m → same [72] [(69, 0)] κ κ1 → (∀ x, x < s → hk_A κ1 72 (7960 * k + x) = hk_A κ 71 x) → (∀ y, ¬ (7960 * k ≤ y ∧ y < 7960 * k + s) → hk_A κ1 72 y = hk_A κ 72 y) → ∃ κ', nX12_image_23 N m 69 (n3 k) (n3 s) (hp κ1) = some (n3 0, hp κ') ∧ same [72, 73] [(69, 0), (69, 1)] κ κ' ∧ hk_I κ' 69 1 = n3 0 ∧ (∀ x, x < 7960 → hk_A κ' 72 (7960 * k + x) = hk_A κ 71 x) ∧ (∀ y, ¬ (7960 * k ≤ y ∧ y < 7960 * k + 7960) → hk_A κ' 72 y = hk_A κ 72 y) ∧ ∀ y, hk_A κ' 73 y = if y = k then n3 1 else hk_A κ 73 y := by
    intro r
    induction r with
    | zero =>
      intro s m κ1 hs hm s1 a1 a2
      obtain ⟨m, rfl⟩ : ∃ q, m = q + 1 := ⟨m - 1, by omega⟩
      have e : s = 7960 := by omega
      subst e
      have te := r_tell3 N (hk_wA κ1 73 k (n3 1)) (v := 0) (by omega)
      refine ⟨hk_wI (hk_wA κ1 73 k (n3 1)) 69 1 (n3 0), ?_, ((s1.weak (by decide) (by decide)).wA (by decide)).wI (by decide), I_eq, fun x hx => ?_, fun y hy => ?_, fun y => ?_⟩
      · rw [nX12_image_23]
        simp (maxSteps := 400000) (disch := omega) only [n3_l, n3_add, n3_mul, n3_sub, n3_subn, n3_lt, n3_le, n3_eq, n3_eqn, n3_neq, n3_and, n3_or, n3_shl, n3_i, n3_cl, ↓hbd_0, ↓hbd_1, ↓hbd_2, hk_ob_0, hk_rd_0, hk_rd_1, hk_rd_2, hk_al_0, hk_al_1, h3r_0, h3r_1, hk_wi_0, hk_wj_0, h3w_0, h3w_1, h3v_0, hk_kI, hk_kJ, hk_kA, hk_kB, A_eq, A_ne, A_row, B_eq, B_ne, B_row, I_eq, I_ne, J_eq, J_ne, Option.bind_some, Option.some.injEq, if_true, if_false, eq_self, true_or, or_true, true_and, and_true, false_or, or_false, not_true_eq_false, not_false_eq_true, Classical.not_not, nar_b0, nar_b1, rz_0, rz_1, rz_i, ite01, Nat.add_zero, Nat.zero_add, Nat.one_mul, mul12, reduceIte, ra_z0, Nat.reduceEqDiff, Nat.reduceLT, Nat.reduceLeDiff, Nat.reduceAdd, Nat.reduceMul, Nat.reduceSub, Nat.reduceDiv, Nat.reduceMod, Bool.false_eq_true, false_and, and_false, reduceCtorEq, Nat.lt_irrefl, te]
      · show hk_A (hk_wA κ1 73 k (n3 1)) 72 _ = _
        rw [A_row (by decide)]
        exact a1 x hx
      · show hk_A (hk_wA κ1 73 k (n3 1)) 72 _ = _
        rw [A_row (by decide)]
        exact a2 y hy
      · show hk_A (hk_wA κ1 73 k (n3 1)) 73 y = _
        by_cases c : y = k
        · rw [if_pos c, A_eq c]
        · rw [if_neg c, A_ne (Or.inr c), s1.1 73 (by decide)]
    | succ r ih =>
      intro s m κ1 hs hm s1 a1 a2
      obtain ⟨m, rfl⟩ : ∃ q, m = q + 1 := ⟨m - 1, by omega⟩
      have cs : s < 7960 := by omega
      have r71 : hk_A κ1 71 = hk_A κ 71 := s1.1 71 (by decide)
      obtain ⟨κ', e, b⟩ := ih (s + 1) m (hk_wA κ1 72 (7960 * k + s) (hk_A κ 71 s)) (by omega) (by omega) (s1.wA (by decide)) (fun x hx => by
        by_cases ex : x = s
        · subst ex; rw [A_eq rfl]
        · rw [A_ne (Or.inr (by omega))]; exact a1 x (by omega)) (fun y hy => by
        rw [A_ne (Or.inr (by omega))]; exact a2 y (by omega))
      refine ⟨κ', ?_, b⟩
      rw [← e, nX12_image_23]
      simp (maxSteps := 400000) (disch := omega) only [n3_l, n3_add, n3_mul, n3_sub, n3_subn, n3_lt, n3_le, n3_eq, n3_eqn, n3_neq, n3_and, n3_or, n3_shl, n3_i, n3_cl, ↓hbd_0, ↓hbd_1, ↓hbd_2, hk_ob_0, hk_rd_0, hk_rd_1, hk_rd_2, hk_al_0, hk_al_1, h3r_0, h3r_1, hk_wi_0, hk_wj_0, h3w_0, h3w_1, h3v_0, hk_kI, hk_kJ, hk_kA, hk_kB, A_eq, A_ne, A_row, B_eq, B_ne, B_row, I_eq, I_ne, J_eq, J_ne, Option.bind_some, Option.some.injEq, if_true, if_false, eq_self, true_or, or_true, true_and, and_true, false_or, or_false, not_true_eq_false, not_false_eq_true, Classical.not_not, nar_b0, nar_b1, rz_0, rz_1, rz_i, ite01, Nat.add_zero, Nat.zero_add, Nat.one_mul, mul12, reduceIte, ra_z0, Nat.reduceEqDiff, Nat.reduceLT, Nat.reduceLeDiff, Nat.reduceAdd, Nat.reduceMul, Nat.reduceSub, Nat.reduceDiv, Nat.reduceMod, Bool.false_eq_true, false_and, and_false, reduceCtorEq, cs, r71]
  obtain ⟨κ', e, b⟩ := loop 7960 0 N (hk_wI κ 69 0 (n3 0)) (by omega) (by omega) ((same.refl _ _ _).wI (by decide)) (fun x hx => absurd hx (by omega)) (fun _ _ => rfl)
  refine ⟨κ', ?_, b⟩
  rw [← e]
  simp (maxSteps := 400000) (disch := omega) only [n3_l, n3_add, n3_mul, n3_sub, n3_subn, n3_lt, n3_le, n3_eq, n3_eqn, n3_neq, n3_and, n3_or, n3_shl, n3_i, n3_cl, ↓hbd_0, ↓hbd_1, ↓hbd_2, hk_ob_0, hk_rd_0, hk_rd_1, hk_rd_2, hk_al_0, hk_al_1, h3r_0, h3r_1, hk_wi_0, hk_wj_0, h3w_0, h3w_1, h3v_0, hk_kI, hk_kJ, hk_kA, hk_kB, A_eq, A_ne, A_row, B_eq, B_ne, B_row, I_eq, I_ne, J_eq, J_ne, Option.bind_some, Option.some.injEq, if_true, if_false, eq_self, true_or, or_true, true_and, and_true, false_or, or_false, not_true_eq_false, not_false_eq_true, Classical.not_not, nar_b0, nar_b1, rz_0, rz_1, rz_i, ite01, Nat.add_zero, Nat.zero_add, Nat.one_mul, mul12, reduceIte, ra_z0, Nat.reduceEqDiff, Nat.reduceLT, Nat.reduceLeDiff, Nat.reduceAdd, Nat.reduceMul, Nat.reduceSub, Nat.reduceDiv, Nat.reduceMod, Bool.false_eq_true, false_and, and_false, reduceCtorEq, fX12_image, nX12_image_0, iv]
theorem r_back {k : Nat} (hk : k < 2) (h73 : hk_A κ 73 k = n3 1) (hN : 10000 < N) : ∃ κ', fX12_back N 69 (n3 k) (hp κ) = some (n3 0, hp κ') ∧ same [71] [(69, 0), (69, 1)] κ κ' ∧ hk_I κ' 69 1 = n3 0 ∧ ∀ x, x < 7960 → hk_A κ' 71 x = hk_A κ 72 (7960 * k + x) := by
  have e0 : (0 : Int64).toInt = 0 := by decide
  have e1 : (1 : Int64).toInt = 1 := by decide
  have iv := r_in32 N (n3 k) (0 : Int64) (1 : Int64) (hp (hk_wI κ 69 0 (n3 0)))
  rw [e0, e1, if_pos (vIn_iff.mpr (by rw [n3_toInt (by omega)]; omega))] at iv
  have loop : ∀ r s m κ1, r + s = 7960 → r < m → same [71] [(69, 0)] κ κ1 → (∀ x, x < s → hk_A κ1 71 x = hk_A κ 72 (7960 * k + x)) → ∃ κ', nX12_back_39 N m 69 (n3 k) (n3 s) (hp κ1) = some (n3 0, hp κ') ∧ same [71] [(69, 0), (69, 1)] κ κ' ∧ hk_I κ' 69 1 = n3 0 ∧ ∀ x, x < 7960 → hk_A κ' 71 x = hk_A κ 72 (7960 * k + x) := by
    intro r
    induction r with
    | zero =>
      intro s m κ1 hs hm s1 a1
      obtain ⟨m, rfl⟩ : ∃ q, m = q + 1 := ⟨m - 1, by omega⟩
      have e : s = 7960 := by omega
      subst e
      have te := r_tell3 N κ1 (v := 0) (by omega)
      refine ⟨hk_wI κ1 69 1 (n3 0), ?_, (s1.weak (by decide) (by decide)).wI (by decide), I_eq, a1⟩
      rw [nX12_back_39]
      simp (maxSteps := 400000) (disch := omega) only [n3_l, n3_add, n3_mul, n3_sub, n3_subn, n3_lt, n3_le, n3_eq, n3_eqn, n3_neq, n3_and, n3_or, n3_shl, n3_i, n3_cl, ↓hbd_0, ↓hbd_1, ↓hbd_2, hk_ob_0, hk_rd_0, hk_rd_1, hk_rd_2, hk_al_0, hk_al_1, h3r_0, h3r_1, hk_wi_0, hk_wj_0, h3w_0, h3w_1, h3v_0, hk_kI, hk_kJ, hk_kA, hk_kB, A_eq, A_ne, A_row, B_eq, B_ne, B_row, I_eq, I_ne, J_eq, J_ne, Option.bind_some, Option.some.injEq, if_true, if_false, eq_self, true_or, or_true, true_and, and_true, false_or, or_false, not_true_eq_false, not_false_eq_true, Classical.not_not, nar_b0, nar_b1, rz_0, rz_1, rz_i, ite01, Nat.add_zero, Nat.zero_add, Nat.one_mul, mul12, reduceIte, ra_z0, Nat.reduceEqDiff, Nat.reduceLT, Nat.reduceLeDiff, Nat.reduceAdd, Nat.reduceMul, Nat.reduceSub, Nat.reduceDiv, Nat.reduceMod, Bool.false_eq_true, false_and, and_false, reduceCtorEq, Nat.lt_irrefl, te]
    | succ r ih =>
      intro s m κ1 hs hm s1 a1
      obtain ⟨m, rfl⟩ : ∃ q, m = q + 1 := ⟨m - 1, by omega⟩
      have cs : s < 7960 := by omega
      have r72 : hk_A κ1 72 = hk_A κ 72 := s1.1 72 (by decide)
      obtain ⟨κ', e, b⟩ := ih (s + 1) m (hk_wA κ1 71 s (hk_A κ 72 (7960 * k + s))) (by omega) (by omega) (s1.wA (by decide)) (fun x hx => by
        by_cases ex : x = s
        · subst ex; rw [A_eq rfl]
        · rw [A_ne (Or.inr (by omega))]; exact a1 x (by omega))
      refine ⟨κ', ?_, b⟩
      rw [← e, nX12_back_39]
      simp (maxSteps := 400000) (disch := omega) only [n3_l, n3_add, n3_mul, n3_sub, n3_subn, n3_lt, n3_le, n3_eq, n3_eqn, n3_neq, n3_and, n3_or, n3_shl, n3_i, n3_cl, ↓hbd_0, ↓hbd_1, ↓hbd_2, hk_ob_0, hk_rd_0, hk_rd_1, hk_rd_2, hk_al_0, hk_al_1, h3r_0, h3r_1, hk_wi_0, hk_wj_0, h3w_0, h3w_1, h3v_0, hk_kI, hk_kJ, hk_kA, hk_kB, A_eq, A_ne, A_row, B_eq, B_ne, B_row, I_eq, I_ne, J_eq, J_ne, Option.bind_some, Option.some.injEq, if_true, if_false, eq_self, true_or, or_true, true_and, and_true, false_or, or_false, not_true_eq_false, not_false_eq_true, Classical.not_not, nar_b0, nar_b1, rz_0, rz_1, rz_i, ite01, Nat.add_zero, Nat.zero_add, Nat.one_mul, mul12, reduceIte, ra_z0, Nat.reduceEqDiff, Nat.reduceLT, Nat.reduceLeDiff, Nat.reduceAdd, Nat.reduceMul, Nat.reduceSub, Nat.reduceDiv, Nat.reduceMod, Bool.false_eq_true, false_and, and_false, reduceCtorEq, cs, r72]
  obtain ⟨κ', e, b⟩ := loop 7960 0 N (hk_wI κ 69 0 (n3 0)) (by omega) (by omega) ((same.refl _ _ _).wI (by decide)) (fun x hx => absurd hx (by omega))
  refine ⟨κ', ?_, b⟩
  rw [← e]
  have h73' : hk_A (hk_wI κ 69 0 (n3 0)) 73 k = n3 1 := h73
  simp (maxSteps := 400000) (disch := omega) only [n3_l, n3_add, n3_mul, n3_sub, n3_subn, n3_lt, n3_le, n3_eq, n3_eqn, n3_neq, n3_and, n3_or, n3_shl, n3_i, n3_cl, ↓hbd_0, ↓hbd_1, ↓hbd_2, hk_ob_0, hk_rd_0, hk_rd_1, hk_rd_2, hk_al_0, hk_al_1, h3r_0, h3r_1, hk_wi_0, hk_wj_0, h3w_0, h3w_1, h3v_0, hk_kI, hk_kJ, hk_kA, hk_kB, A_eq, A_ne, A_row, B_eq, B_ne, B_row, I_eq, I_ne, J_eq, J_ne, Option.bind_some, Option.some.injEq, if_true, if_false, eq_self, true_or, or_true, true_and, and_true, false_or, or_false, not_true_eq_false, not_false_eq_true, Classical.not_not, nar_b0, nar_b1, rz_0, rz_1, rz_i, ite01, Nat.add_zero, Nat.zero_add, Nat.one_mul, mul12, reduceIte, ra_z0, Nat.reduceEqDiff, Nat.reduceLT, Nat.reduceLeDiff, Nat.reduceAdd, Nat.reduceMul, Nat.reduceSub, Nat.reduceDiv, Nat.reduceMod, Bool.false_eq_true, false_and, and_false, reduceCtorEq, fX12_back, nX12_back_0, iv, h73']
theorem r_back_y {k : Nat} (hk : k < 2) (h73 : hk_A κ 73 k = n3 0) : fX12_back N 69 (n3 k) (hp κ) = some (-n3 2, hp (rRef κ 2)) := by
  have e0 : (0 : Int64).toInt = 0 := by decide
  have e1 : (1 : Int64).toInt = 1 := by decide
  have iv := r_in32 N (n3 k) (0 : Int64) (1 : Int64) (hp (hk_wI κ 69 0 (n3 0)))
  rw [e0, e1, if_pos (vIn_iff.mpr (by rw [n3_toInt (by omega)]; omega))] at iv
  have te := r_telln N (hk_wI κ 69 0 (n3 0)) 2 (by omega) (by omega)
  simp (maxSteps := 400000) (disch := omega) only [n3_l, n3_add, n3_mul, n3_sub, n3_subn, n3_lt, n3_le, n3_eq, n3_eqn, n3_neq, n3_and, n3_or, n3_shl, n3_i, n3_cl, ↓hbd_0, ↓hbd_1, ↓hbd_2, hk_ob_0, hk_rd_0, hk_rd_1, hk_rd_2, hk_al_0, hk_al_1, h3r_0, h3r_1, hk_wi_0, hk_wj_0, h3w_0, h3w_1, h3v_0, hk_kI, hk_kJ, hk_kA, hk_kB, A_eq, A_ne, A_row, B_eq, B_ne, B_row, I_eq, I_ne, J_eq, J_ne, Option.bind_some, Option.some.injEq, if_true, if_false, eq_self, true_or, or_true, true_and, and_true, false_or, or_false, not_true_eq_false, not_false_eq_true, Classical.not_not, nar_b0, nar_b1, rz_0, rz_1, rz_i, ite01, Nat.add_zero, Nat.zero_add, Nat.one_mul, mul12, reduceIte, ra_z0, Nat.reduceEqDiff, Nat.reduceLT, Nat.reduceLeDiff, Nat.reduceAdd, Nat.reduceMul, Nat.reduceSub, Nat.reduceDiv, Nat.reduceMod, Bool.false_eq_true, false_and, and_false, reduceCtorEq, fX12_back, nX12_back_0, iv, h73, te, rRef]
end
