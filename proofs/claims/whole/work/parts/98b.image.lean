/-! image, back: the class -/
def hk_raw (κ : hk_T) (h : ra_H) : hk_T := (κ.1, κ.2.1, κ.2.2.1, κ.2.2.2.1, κ.2.2.2.2.1, κ.2.2.2.2.2.1, h.1, h.2)
theorem hp_raw {κ : hk_T} {h : ra_H} (e : ∀ k, k < 101 → h.1 k = (hp κ).1 k) : hp (hk_raw κ h) = h := by
  refine Prod.ext (funext fun k => ?_) rfl
  by_cases c : k < 101
  · rw [e k c]
    show hk_c (hk_raw κ h) k = hk_c κ k
    have hm : ∀ (fs : List Nat) (i : Nat), hk_mk (hk_raw κ h) k i fs = hk_mk κ k i fs := by
      intro fs
      induction fs with
      | nil => intro i; rfl
      | cons c l ih =>
        intro i
        rw [hk_mk, hk_mk, ih]
        rfl
    unfold hk_c
    cases hs : hk_sh[k]? with
    | none =>
      have := List.getElem?_eq_none_iff.mp hs
      have l : hk_sh.length = 101 := rfl
      omega
    | some r =>
      obtain ⟨c, n, fs⟩ := r
      dsimp only
      rw [hm]
      rfl
  · show hk_c (hk_raw κ h) k = h.1 k
    exact hk_late (κ := hk_raw κ h) (by omega)
/-- an image as it lies -/
def imgC (D : Nat → ra_C) (a : Nat) (I : Nat → Int32) (R : Nat → Nat → Int32) (Q : Nat → Option Nat) : Prop := D a = .inr (2, hoF a I) ∧ (∀ i, i < 13 → i ≠ 4 → D (a + 1 + i) = .inl (0, hoL i, .inl (R i))) ∧ D (a + 5) = .inl (4, 8, .inr (.inr (.inr (.inr Q))))
theorem imgC.hol {κ : hk_T} {a : Nat} {I : Nat → Int32} {R : Nat → Nat → Int32} {Q : Nat → Option Nat} (ha : 101 ≤ a) (h : imgC (hk_D κ) a I R Q) : hol (hp κ) a I R Q := ⟨by rw [d_at κ ha]; exact h.1, fun i hi h4 => by rw [d_at κ (by omega)]; exact h.2.1 i hi h4, by rw [d_at κ (by omega)]; exact h.2.2⟩
theorem hol.img {κ : hk_T} {a : Nat} {I : Nat → Int32} {R : Nat → Nat → Int32} {Q : Nat → Option Nat} (ha : 101 ≤ a) (h : hol (hp κ) a I R Q) : imgC (hk_D κ) a I R Q := ⟨by rw [← d_at κ ha]; exact h.1, fun i hi h4 => by rw [← d_at κ (by omega)]; exact h.2.1 i hi h4, by rw [← d_at κ (by omega)]; exact h.2.2⟩
theorem imgC.cg {D D' : Nat → ra_C} {a : Nat} {I : Nat → Int32} {R : Nat → Nat → Int32} {Q : Nat → Option Nat} (h : imgC D a I R Q) (e : ∀ k, a ≤ k → k ≤ a + 13 → D' k = D k) : imgC D' a I R Q := ⟨by rw [e _ (by omega) (by omega)]; exact h.1, fun i hi h4 => by rw [e _ (by omega) (by omega)]; exact h.2.1 i hi h4, by rw [e _ (by omega) (by omega)]; exact h.2.2⟩
theorem now_hol (κ : hk_T) : hol (hp κ) 1 (hk_I κ 1) (fun i => hk_A κ (2 + i)) (hk_Q κ 6) := by
  refine ⟨rfl, fun i hi h4 => ?_, rfl⟩
  have c : i = 0 ∨ i = 1 ∨ i = 2 ∨ i = 3 ∨ i = 5 ∨ i = 6 ∨ i = 7 ∨ i = 8 ∨ i = 9 ∨ i = 10 ∨ i = 11 ∨ i = 12 := by omega
  rcases c with rfl | rfl | rfl | rfl | rfl | rfl | rfl | rfl | rfl | rfl | rfl | rfl <;> rfl
section
variable (N : Nat) (κ : hk_T)
/-- into the image at a -/
theorem c_image37 {k a : Nat} {I : Nat → Int32} {R : Nat → Nat → Int32} {Q : Nat → Option Nat} (hk : k < 2) (hQ : hk_Q κ 15 k = some a) (ha : 101 ≤ a) (hi : imgC (hk_D κ) a I R Q) (hq : ∀ t q, t < 8 → hk_Q κ 6 t = some q → ra_isOb (hp κ) q 4 = true) (hN : 1000 < N) : ∃ κ', nX11_image_37 N 0 (n3 k) (hp κ) = some (n3 0, hp κ') ∧ imgC (hk_D κ') a (hk_I κ 1) (fun i => va_cpy (hk_A κ (2 + i)) (R i) 0 0 (hoL i)) (fun x => if x < 8 then hk_Q κ 6 x else Q x) ∧ (∀ q, 101 ≤ q → (q < a ∨ a + 13 < q) → hk_D κ' q = hk_D κ q) ∧ hk_A κ' = hk_A κ ∧ hk_B κ' = hk_B κ ∧ (∀ k j, (k, j) ≠ (0, 10) → hk_I κ' k j = hk_I κ k j) ∧ hk_I κ' 0 10 = n3 0 ∧ hk_J κ' = hk_J κ ∧ hk_Q κ' = hk_Q κ ∧ hk_P κ' = hk_P κ ∧ hk_n κ' = hk_n κ ∧ hk_s κ' = hk_s κ ∧ hk_x κ' = hk_x κ := by
  obtain ⟨h', e1, e2, e3, e4⟩ := f_takeOver N (hi.hol ha) (now_hol κ) (Or.inr (by omega)) hq hN
  have er : hp (hk_raw κ h') = h' := hp_raw (fun q hq => e3 q (by omega))
  rw [← er] at e1 e2
  obtain ⟨κ1, k1⟩ : ∃ κ1, κ1 = hk_raw κ h' := ⟨_, rfl⟩
  rw [← k1] at e1 e2
  have ac : fX11_accept N 0 (0 : Int32) (hp κ1) = some (n3 0, hp (hk_wI κ1 0 10 (n3 0))) := c_accept N κ1 (n3 0)
  have f1 : ra_fR (hp κ) 11 0 1 = some 15 := rfl
  have f0 : ra_fR (hp κ) 11 0 0 = some 1 := rfl
  have an : ra_aN (hp κ) 15 (n3 k) = some (some a) := by
    rw [← hQ]
    simp (maxSteps := 400000) (disch := omega) only [n3_l, n3_add, n3_mul, n3_sub, n3_subn, n3_lt, n3_le, n3_eq, n3_eqn, n3_neq, n3_and, n3_or, n3_shl, n3_i, n3_cl, ↓hbd_0, ↓hbd_1, ↓hbd_2, hk_ob_0, hk_rd_0, hk_rd_1, hk_rd_2, hk_al_0, hk_al_1, h3r_0, h3r_1, hk_wi_0, hk_wj_0, h3w_0, h3w_1, h3v_0, hk_kI, hk_kJ, hk_kA, hk_kB, A_eq, A_ne, A_row, B_eq, B_ne, B_row, I_eq, I_ne, J_eq, J_ne, Option.bind_some, Option.some.injEq, if_true, if_false, eq_self, true_or, or_true, true_and, and_true, false_or, or_false, not_true_eq_false, not_false_eq_true, Classical.not_not, nar_b0, nar_b1, rz_0, rz_1, rz_i, ite01, Nat.add_zero, Nat.zero_add, Nat.one_mul, mul12, reduceIte, ra_z0, Nat.reduceEqDiff, Nat.reduceLT, Nat.reduceLeDiff, Nat.reduceAdd, Nat.reduceMul, Nat.reduceSub, Nat.reduceDiv, Nat.reduceMod, Bool.false_eq_true, false_and, and_false, reduceCtorEq]
  refine ⟨hk_wI κ1 0 10 (n3 0), ?_, ?_, fun q q1 q2 => ?_, ?_, ?_, fun k j hkj => ?_, I_eq, ?_, ?_, ?_, ?_, ?_, ?_⟩
  · unfold nX11_image_37
    rw [f1, Option.bind_some, an, Option.bind_some]
    dsimp only
    rw [f0, Option.bind_some, e1, Option.bind_some, ac, Option.bind_some]
  · exact e2.img (κ := κ1) ha
  · show hk_D κ1 q = _
    have : (hp κ1).1 q = (hp κ).1 q := by
      rw [k1, er]
      exact e3 q q2
    rw [d_at κ1 q1, d_at κ q1] at this
    exact this
  · rw [k1]; rfl
  · rw [k1]; rfl
  · have e : hk_I (hk_wI κ1 0 10 (n3 0)) k j = hk_I κ1 k j := by
      refine I_ne ?_
      by_cases e : k = 0
      · exact Or.inr (fun e2 => hkj (by rw [e, e2]))
      · exact Or.inl e
    rw [e, k1]
    rfl
  · rw [k1]; rfl
  · rw [k1]; rfl
  · rw [k1]; rfl
  · rw [k1]
    show h'.2.1 = _
    rw [e4]
    rfl
  · rw [k1]
    show h'.2.2.1 = _
    rw [e4]
    rfl
  · rw [k1]
    show h'.2.2.2 = _
    rw [e4]
    rfl
theorem c_image1 {k a : Nat} (hk : k < 2) (hQ : hk_Q κ 15 k = some a) : fX11_image N 0 (n3 k) (hp κ) = nX11_image_37 N 0 (n3 k) (hp κ) := by
  have l0 : ¬ n3 k < (0 : Int32) := fun z => by have := (n3_lt (a := k) (b := 0) (by omega) (by omega)).mp z; omega
  have l2 : n3 k < (2 : Int32) := (n3_lt (a := k) (b := 2) (by omega) (by omega)).mpr hk
  have f1 : ra_fR (hp κ) 11 0 1 = some 15 := rfl
  have an : ra_aN (hp κ) 15 (n3 k) = some (some a) := by
    rw [← hQ]
    simp (maxSteps := 400000) (disch := omega) only [n3_l, n3_add, n3_mul, n3_sub, n3_subn, n3_lt, n3_le, n3_eq, n3_eqn, n3_neq, n3_and, n3_or, n3_shl, n3_i, n3_cl, ↓hbd_0, ↓hbd_1, ↓hbd_2, hk_ob_0, hk_rd_0, hk_rd_1, hk_rd_2, hk_al_0, hk_al_1, h3r_0, h3r_1, hk_wi_0, hk_wj_0, h3w_0, h3w_1, h3v_0, hk_kI, hk_kJ, hk_kA, hk_kB, A_eq, A_ne, A_row, B_eq, B_ne, B_row, I_eq, I_ne, J_eq, J_ne, Option.bind_some, Option.some.injEq, if_true, if_false, eq_self, true_or, or_true, true_and, and_true, false_or, or_false, not_true_eq_false, not_false_eq_true, Classical.not_not, nar_b0, nar_b1, rz_0, rz_1, rz_i, ite01, Nat.add_zero, Nat.zero_add, Nat.one_mul, mul12, reduceIte, ra_z0, Nat.reduceEqDiff, Nat.reduceLT, Nat.reduceLeDiff, Nat.reduceAdd, Nat.reduceMul, Nat.reduceSub, Nat.reduceDiv, Nat.reduceMod, Bool.false_eq_true, false_and, and_false, reduceCtorEq]
  have ob : fX11_image N 0 (n3 k) (hp κ) = nX11_image_0 N 0 (n3 k) (hp κ) := rfl
  rw [ob]
  unfold nX11_image_0
  rw [if_neg l0, if_pos l2, f1, Option.bind_some, an, Option.bind_some]
theorem c_image0 {k : Nat} (hk : k < 2) (hQ : hk_Q κ 15 k = none) (hn : 101 ≤ hk_n κ) (hN : 1000 < N) : ∃ κ1, fX11_image N 0 (n3 k) (hp κ) = nX11_image_37 N 0 (n3 k) (hp κ1) ∧ hk_Q κ1 15 k = some (hk_n κ) ∧ (∀ r i, (r, i) ≠ (15, k) → hk_Q κ1 r i = hk_Q κ r i) ∧ imgC (hk_D κ1) (hk_n κ) hoI hoR (fun _ => none) ∧ (∀ q, 101 ≤ q → q < hk_n κ → hk_D κ1 q = hk_D κ q) ∧ hk_A κ1 = hk_A κ ∧ hk_B κ1 = hk_B κ ∧ hk_I κ1 = hk_I κ ∧ hk_J κ1 = hk_J κ ∧ hk_P κ1 = hk_P κ ∧ hk_n κ1 = hk_n κ + 14 ∧ hk_s κ1 = hk_s κ + 846 ∧ hk_x κ1 = hk_x κ := by
  have l0 : ¬ n3 k < (0 : Int32) := fun z => by have := (n3_lt (a := k) (b := 0) (by omega) (by omega)).mp z; omega
  have l2 : n3 k < (2 : Int32) := (n3_lt (a := k) (b := 2) (by omega) (by omega)).mpr hk
  have f1 : ra_fR (hp κ) 11 0 1 = some 15 := rfl
  have an : ra_aN (hp κ) 15 (n3 k) = some none := by
    rw [← hQ]
    simp (maxSteps := 400000) (disch := omega) only [n3_l, n3_add, n3_mul, n3_sub, n3_subn, n3_lt, n3_le, n3_eq, n3_eqn, n3_neq, n3_and, n3_or, n3_shl, n3_i, n3_cl, ↓hbd_0, ↓hbd_1, ↓hbd_2, hk_ob_0, hk_rd_0, hk_rd_1, hk_rd_2, hk_al_0, hk_al_1, h3r_0, h3r_1, hk_wi_0, hk_wj_0, h3w_0, h3w_1, h3v_0, hk_kI, hk_kJ, hk_kA, hk_kB, A_eq, A_ne, A_row, B_eq, B_ne, B_row, I_eq, I_ne, J_eq, J_ne, Option.bind_some, Option.some.injEq, if_true, if_false, eq_self, true_or, or_true, true_and, and_true, false_or, or_false, not_true_eq_false, not_false_eq_true, Classical.not_not, nar_b0, nar_b1, rz_0, rz_1, rz_i, ite01, Nat.add_zero, Nat.zero_add, Nat.one_mul, mul12, reduceIte, ra_z0, Nat.reduceEqDiff, Nat.reduceLT, Nat.reduceLeDiff, Nat.reduceAdd, Nat.reduceMul, Nat.reduceSub, Nat.reduceDiv, Nat.reduceMod, Bool.false_eq_true, false_and, and_false, reduceCtorEq]
  obtain ⟨κa, ea⟩ : ∃ κa, κa = hk_new κ (.inr (2, ra_df 2)) 20 := ⟨_, rfl⟩
  have m1 : ra_mk (hp κ) (.inr (2, ra_df 2)) 20 = hp κa := by rw [ea]; exact hk_mk_new hn _ _
  obtain ⟨h', e1, e2, e3, e4, e5, e6⟩ := f_holdings N (h := hp κa) (a := hk_n κ) (by rw [d_at κa hn, ea]; exact D_new κ) (by rw [ea]; rfl) hN
  have er : hp (hk_raw κa h') = h' := hp_raw (fun q hq => e3 q (by omega))
  rw [← er] at e1 e2
  obtain ⟨κb, kb⟩ : ∃ κb, κb = hk_raw κa h' := ⟨_, rfl⟩
  rw [← kb] at e1 e2
  have im := e2.img (κ := κb) hn
  have io : ra_isOb (hp κb) (hk_n κ) 2 = true := by
    unfold ra_isOb
    rw [e2.1]
    rfl
  have wq := hk_aWR15 (κ := κb) (t := k) (q := hk_n κ) hk io
  refine ⟨hk_wQ κb 15 k (some (hk_n κ)), ?_, ?_, fun r i hri => ?_, im, fun q q1 hq => ?_, ?_, ?_, ?_, ?_, ?_, ?_, ?_, ?_⟩
  · have ob : fX11_image N 0 (n3 k) (hp κ) = nX11_image_0 N 0 (n3 k) (hp κ) := rfl
    rw [ob]
    unfold nX11_image_0
    rw [if_neg l0, if_pos l2, f1, Option.bind_some, an, Option.bind_some]
    dsimp only
    rw [Option.bind_some]
    show (fX2_init N (hk_n κ) (ra_mk (hp κ) (.inr (2, ra_df 2)) 20)).bind (fun h6 => (ra_aWR h6 15 (n3 k) (hk_n κ)).bind fun h7 => nX11_image_37 N 0 (n3 k) h7) = _
    rw [m1, e1, Option.bind_some, wq, Option.bind_some]
  · exact if_pos ⟨rfl, rfl⟩
  · show (if r = 15 ∧ i = k then _ else hk_Q κb r i) = _
    rw [if_neg (fun z => hri (by rw [z.1, z.2])), kb, ea]
    rfl
  · show hk_D κb q = _
    rw [kb]
    show h'.1 q = _
    rw [e3 q (by omega), d_at κa (by omega), ea]
    exact D_old κ (by omega)
  · show hk_A κb = _
    rw [kb, ea]; rfl
  · show hk_B κb = _
    rw [kb, ea]; rfl
  · show hk_I κb = _
    rw [kb, ea]; rfl
  · show hk_J κb = _
    rw [kb, ea]; rfl
  · show hk_P κb = _
    rw [kb, ea]; rfl
  · show hk_n κb = _
    rw [kb]
    exact e4
  · show hk_s κb = _
    rw [kb]
    show h'.2.2.1 = _
    rw [e5, ea]
    show hk_s κ + 20 + 826 = _
    omega
  · show hk_x κb = _
    rw [kb]
    show h'.2.2.2 = _
    rw [e6, ea]
    rfl
end
