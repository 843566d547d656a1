/-! questions without a trace -/
theorem vB {n : Nat} {x : Int32} (h : vIn 0 (n - 1) x = true) : ∃ b, b < n ∧ x = n3 b := by
  obtain ⟨h1, h2⟩ := vIn_iff.mp h
  exact ⟨x.toInt.toNat, by omega, n3_of (by omega)⟩
theorem vK {lo hi : Nat} {x : Int32} (h : vIn lo hi x = true) : ∃ k, lo ≤ k ∧ k ≤ hi ∧ x = n3 k := vIn_ex h
section
variable (N : Nat) {L c : Nat} {xs : Nat → Int32} {κ : hk_T}
theorem k_status (h : Inv L xs c κ) : callOk L xs c κ (fX11_status N 0) (fX12_status N 69) := by
  have e := h
  obtain ⟨n, nT, nL, nS, T, h1, h2, h3, h4, h5, h8, h9, h10, h11, h12⟩ := e
  exact callOk.ask h (c_status N κ) (r_status N κ) h8.1
theorem r_faultQ : fX12_fault N 69 (hp κ) = some (hk_I κ 69 13, hp (hk_wI κ 69 0 (n3 0))) := by
  simp (maxSteps := 400000) (disch := omega) only [n3_l, n3_add, n3_mul, n3_sub, n3_subn, n3_lt, n3_le, n3_eq, n3_eqn, n3_neq, n3_and, n3_or, n3_shl, n3_i, n3_cl, ↓hbd_0, ↓hbd_1, ↓hbd_2, hk_ob_0, hk_rd_0, hk_rd_1, hk_rd_2, hk_al_0, hk_al_1, h3r_0, h3r_1, hk_wi_0, hk_wj_0, h3w_0, h3w_1, h3v_0, hk_kI, hk_kJ, hk_kA, hk_kB, A_eq, A_ne, A_row, B_eq, B_ne, B_row, I_eq, I_ne, J_eq, J_ne, Option.bind_some, Option.some.injEq, if_true, if_false, eq_self, true_or, or_true, true_and, and_true, false_or, or_false, not_true_eq_false, not_false_eq_true, Classical.not_not, nar_b0, nar_b1, rz_0, rz_1, rz_i, ite01, Nat.add_zero, Nat.zero_add, Nat.one_mul, mul12, reduceIte, ra_z0, Nat.reduceEqDiff, Nat.reduceLT, Nat.reduceLeDiff, Nat.reduceAdd, Nat.reduceMul, Nat.reduceSub, Nat.reduceDiv, Nat.reduceMod, Bool.false_eq_true, false_and, and_false, reduceCtorEq, fX12_fault, nX12_fault_0]
theorem k_rebound (h : Inv L xs c κ) : callOk L xs c κ (fX11_rebound N 0) (fX12_rebound N 69) := by
  have e := h
  obtain ⟨n, nT, nL, nS, T, h1, h2, h3, h4, h5, h8, h9, h10, h11, h12⟩ := e
  exact callOk.ask h (c_rebound N κ) (r_rebound N κ) h8.2.1
theorem k_fault (h : Inv L xs c κ) : callOk L xs c κ (fX11_fault N 0) (fX12_fault N 69) := by
  have e := h
  obtain ⟨n, nT, nL, nS, T, h1, h2, h3, h4, h5, h8, h9, h10, h11, h12⟩ := e
  exact callOk.ask h (c_fault N κ) (r_faultQ N) h8.2.2.1
theorem k_of (h : Inv L xs c κ) (b f : Int32) : callOk L xs c κ (fX11_of N 0 b f) (fX12_of N 69 b f) := by
  have e := h
  obtain ⟨n, nT, nL, nS, T, h1, h2, h3, h4, h5, h8, h9, h10, h11, h12⟩ := e
  have g1 := h3.1.1.1
  have n40 := h3.1.1.2.1
  have g2 := h3.1.1.2.2
  have ti : (hk_I κ 1 13).toInt = n := by rw [g1, n3_toInt (by omega)]
  exact callOk.ask h (c_of N κ b f (by omega)) (r_of N κ b f (by omega) (g2.trans g1.symm) (fun i hi => h3.2.2.1.1 i (by omega))) rfl
theorem k_fights (h : Inv L xs c κ) (hN : 1000 < N) (w i : Int32) : callOk L xs c κ (fX11_fights N 0 w i) (fX12_fights N 69 w i) := by
  have e := h
  obtain ⟨n, nT, nL, nS, T, h1, h2, h3, h4, h5, h8, h9, h10, h11, h12⟩ := e
  refine callOk.ask h (c_fights N κ h3.1.2.2.1.1 h3.1.2.2.1.2.1 hN) (r_fights N κ h3.1.2.2.1.2.2 h3.1.2.2.1.2.1 hN) ?_
  congr 2
  refine st2I_congr (fun a b ha hb => ?_) _
  obtain ⟨a1, a2, a3, a4, a5, a6, -⟩ := h3.2.2.2.2.2.1.1 a ha
  obtain ⟨b1, b2, b3, b4, b5, b6, -⟩ := h3.2.2.2.2.2.1.1 b hb
  rw [a1, a4, a5, a6, b1, b4, b5, b6]
theorem hr_m {F M : Nat → Int32} {n b f : Nat} (h : hrF F M n) (hb : b < n) (hf : f < 12) : M (12 * b + f) = F (12 * b + f) := h.1 _ (by omega)
theorem k_twice (h : Inv L xs c κ) (hN : 1000 < N) (w i : Int32) : callOk L xs c κ (fX11_twice N 0 w i) (fX12_twice N 69 w i) := by
  have e := h
  obtain ⟨n, nT, nL, nS, T, h1, h2, h3, h4, h5, h8, h9, h10, h11, h12⟩ := e
  have hF : hrF (hk_A κ 2) (hk_A κ 71) n := h3.2.2.1
  refine callOk.ask h (c_twice N κ h3.1.1.1 h3.1.1.2.1 hN) (r_twice N κ h3.1.1.2.2 h3.1.1.2.1 hN) ?_
  congr 2
  refine st2I_congr (fun a b ha hb => ?_) _
  rw [hF.1 (12 * a) (by omega), hF.1 (12 * b) (by omega), hF.1 (12 * a + 1) (by omega), hF.1 (12 * b + 1) (by omega)]
theorem k_runs (h : Inv L xs c κ) (hN : 1000 < N) (l : Int32) : callOk L xs c κ (fX11_runs N 0 l) (fX12_runs N 69 l) := by
  have e := h
  obtain ⟨n, nT, nL, nS, T, h1, h2, h3, h4, h5, h8, h9, h10, h11, h12⟩ := e
  have hF : hrF (hk_A κ 2) (hk_A κ 71) n := h3.2.2.1
  refine callOk.ask h (c_runs N κ h3.1.1.1 h3.1.1.2.1 (fun b hb => ?_) hN) (r_runs N κ h3.1.1.2.2 h3.1.1.2.1 hN) ?_
  · obtain ⟨k, k1, k2, k3⟩ := vK (lo := 0) (hi := 2) (hF.2.2 b hb).2.2.2.2.1
    rw [k3]
    have e1 : n3 0 < n3 k ↔ 0 < k := n3_lt (by omega) (by omega)
    have e2 : n3 k = n3 0 ↔ k = 0 := n3_eq (by omega) (by omega)
    rw [e1]
    constructor
    · intro z z2
      have := e2.mp z2
      omega
    · intro z
      by_cases q : k = 0
      · exact absurd (e2.mpr q) z
      · omega
  · congr 1
    refine sm_congr n 0 (fun a _ ha => sm_congr n 0 (fun b _ hb => ?_))
    unfold runG
    rw [hF.1 (12 * a) (by omega), hF.1 (12 * b) (by omega), hF.1 (12 * a + 1) (by omega), hF.1 (12 * b + 1) (by omega), hF.1 (12 * a + 5) (by omega), hF.1 (12 * b + 5) (by omega), hF.1 (12 * a + 6) (by omega), hF.1 (12 * b + 6) (by omega)]
theorem k_next (h : Inv L xs c κ) (hN : 1000 < N) : callOk L xs c κ (fX11_next N 0) (fX12_next N 69) := by
  have e := h
  obtain ⟨n, nT, nL, nS, T, h1, h2, h3, h4, h5, h8, h9, h10, h11, h12⟩ := e
  have hF : hrF (hk_A κ 2) (hk_A κ 71) n := h3.2.2.1
  have hH : hrH (hk_A κ 12) (hk_A κ 13) (hk_A κ 14) (hk_A κ 71) := h3.2.2.2.2.1
  have nn : ∀ x, x < 12 → hk_A κ 12 x = n3 (hk_A κ 12 x).toInt.toNat ∧ hk_A κ 13 x = n3 (hk_A κ 13 x).toInt.toNat ∧ hk_A κ 14 x = n3 (hk_A κ 14 x).toInt.toNat ∧ (hk_A κ 12 x).toInt.toNat ≤ 5000 ∧ (hk_A κ 13 x).toInt.toNat ≤ (hk_A κ 12 x).toInt.toNat ∧ (hk_A κ 14 x).toInt.toNat ≤ 100 ∧ hk_A κ 71 (610 + 3 * x) = hk_A κ 12 x ∧ hk_A κ 71 (610 + 3 * x + 1) = hk_A κ 13 x ∧ hk_A κ 71 (610 + 3 * x + 2) = hk_A κ 14 x := by
    intro x hx
    obtain ⟨a, l, d, a1, a2, a3, a4, a5, a6, a7, a8, a9, a10⟩ := hH x hx
    have t1 : (hk_A κ 12 x).toInt.toNat = a := by rw [a1, n3_toInt (by omega)]; omega
    have t2 : (hk_A κ 13 x).toInt.toNat = l := by rw [a2, n3_toInt (by omega)]; omega
    have t3 : (hk_A κ 14 x).toInt.toNat = d := by rw [a3, n3_toInt (by omega)]; omega
    rw [t1, t2, t3]
    exact ⟨a1, a2, a3, a7, a8, a10, a4.trans a1.symm, a5.trans a2.symm, a6.trans a3.symm⟩
  refine callOk.ask h (c_next N κ (a := fun x => (hk_A κ 12 x).toInt.toNat) (l := fun x => (hk_A κ 13 x).toInt.toNat) (c := fun x => (hk_A κ 14 x).toInt.toNat) h3.1.1.1 h3.1.1.2.1 hN (fun x hx => ?_)) (r_next N κ (a := fun x => (hk_A κ 12 x).toInt.toNat) (l := fun x => (hk_A κ 13 x).toInt.toNat) (c := fun x => (hk_A κ 14 x).toInt.toNat) h3.1.1.2.2 h3.1.1.2.1 hN (fun x hx => ?_)) ?_
  · obtain ⟨b1, b2, b3, b4, b5, b6, -⟩ := nn x hx
    exact ⟨b1, b2, b3, b4, b5, b6⟩
  · obtain ⟨b1, b2, b3, b4, b5, b6, b7, b8, b9⟩ := nn x hx
    exact ⟨b7.trans b1, b8.trans b2, b9.trans b3, b4, b5, b6⟩
  · congr 1
    refine fo_congr _ _ _ (fun x s _ hx => ?_)
    have e : cnt (fun b => hk_A κ 2 (12 * b + 11) = n3 x) n = cnt (fun b => hk_A κ 71 (12 * b + 11) = n3 x) n := cnt_congr n (fun b hb => by rw [hF.1 (12 * b + 11) (by omega)])
    unfold nxS
    dsimp only
    simp only [e]
theorem k_expect (h : Inv L xs c κ) (hN : 1000 < N) (x : Int32) : callOk L xs c κ (fX11_expect N 0 x) (fX12_expect N 69 x) := by
  have e := h
  obtain ⟨n, nT, nL, nS, T, h1, h2, h3, h4, h5, h8, h9, h10, h11, h12⟩ := e
  have hF : hrF (hk_A κ 2) (hk_A κ 71) n := h3.2.2.1
  have hH : hrH (hk_A κ 12) (hk_A κ 13) (hk_A κ 14) (hk_A κ 71) := h3.2.2.2.2.1
  by_cases v : vIn 0 11 x = true
  · obtain ⟨k, k1, k2, rfl⟩ := vK (lo := 0) (hi := 11) v
    obtain ⟨a, l, d, a1, a2, a3, a4, a5, a6, a7, a8, a9, a10⟩ := hH k (by omega)
    by_cases l0 : l = 0
    · subst l0
      exact callOk.ask h (c_expect0 N κ h1 (by omega) a2) (r_expect0 N κ (by omega) a5) rfl
    · refine callOk.ask h (c_expect N κ h1 h3.1.1.1 h3.1.1.2.1 (by omega) a1 a2 a7 a8 (by omega) hN) (r_expect N κ h3.1.1.2.2 h3.1.1.2.1 (by omega) a4 a5 a7 a8 (by omega) hN) ?_
      rw [cnt_congr (P := fun b => hk_A κ 2 (12 * b + 11) = n3 k) (Q := fun b => hk_A κ 71 (12 * b + 11) = n3 k) n (fun b hb => by rw [hF.1 (12 * b + 11) (by omega)])]
  · exact callOk.ask h (c_expectn N κ h1 v) (r_expectn N κ v) rfl
end
