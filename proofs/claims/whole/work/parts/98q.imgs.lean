/-! back: a call -/
theorem cpy_in {f g : Nat → Int32} {n x : Nat} (h : x < n) : va_cpy f g 0 0 n x = f x := by
  unfold va_cpy
  rw [if_pos ⟨Nat.zero_le _, by omega⟩, Nat.zero_add, Nat.sub_zero]
theorem tOne.ob {κ : hk_T} {q : Nat} {τ : tauT} (h : tOne κ q τ) : 101 ≤ q ∧ ra_isOb (hp κ) q 4 = true := by
  obtain ⟨c, h', b, g, -⟩ := h
  exact ⟨g.1, d_isOb g.1 g.2.2.2.2.1 rfl⟩
theorem tTab.q {κ : hk_T} {Q Q' : Nat → Option Nat} {M : Nat → Int32} {nT : Nat} {T : Nat → tauT} (h : tTab κ Q M nT T) (h8 : nT ≤ 8) (e : ∀ t, t < 8 → Q' t = Q t) : tTab κ Q' M nT T := ⟨fun t ht => by rw [e t (by omega)]; exact h.1 t ht, fun t q ht g => h.2 t q ht (by rw [← e t ht]; exact g)⟩
section
variable {κ : hk_T} {I : Nat → Int32} {R : Nat → Nat → Int32} {Q : Nat → Option Nat}
theorem bk_A {k : Nat} (h : ¬ (2 ≤ k ∧ k ≤ 14 ∧ k ≠ 6)) : hk_A (bkT κ I R Q) k = hk_A κ k := funext fun i => if_neg h
theorem bk_R {i : Nat} (h : i < 13) (h4 : i ≠ 4) : hk_A (bkT κ I R Q) (2 + i) = R i := funext fun x => (if_pos ⟨by omega, by omega, by omega⟩).trans (by rw [Nat.add_sub_cancel_left])
theorem bk_I {k j : Nat} (h : k ≠ 1) : hk_I (bkT κ I R Q) k j = hk_I κ k j := if_neg fun z => h z.1
theorem bk_1 {j : Nat} (h : 13 ≤ j) : hk_I (bkT κ I R Q) 1 j = I j := if_pos ⟨rfl, h⟩
theorem bk_Q {k : Nat} (h : k ≠ 6) : hk_Q (bkT κ I R Q) k = hk_Q κ k := funext fun i => if_neg h
theorem bk_6 : hk_Q (bkT κ I R Q) 6 = Q := rfl
end
section
variable (N : Nat) {L c : Nat} {xs : Nat → Int32} {κ : hk_T}
theorem k_back (h : Inv L xs c κ) (hN : 10000 < N) (x : Int32) : callOk L xs c κ (fX11_back N 0 x) (fX12_back N 69 x) := by
  by_cases v : vIn 0 1 x = true
  case neg => exact callOk.ref h (c_img_x N κ v).2 (r_img_x N _ v).2
  obtain ⟨k, hk, rfl⟩ := vB (n := 2) v
  have h0 := h
  obtain ⟨n, nT, nL, nS, T, h1, h2, h3, h4, h5, h8, h9, h10, h11, h12⟩ := h0
  have im : imOk κ k := by
    by_cases e : k = 0
    · rw [e]; exact h5.1
    · rw [show k = 1 by omega]; exact h5.2.1
  rcases im with ⟨i1, i2⟩ | ⟨a, I, R, Q, n', nT', nL', nS', T', i1, i2, i3, i4, i5, i6, i7, i8⟩
  · exact callOk.ref h (c_backK_y N κ (by omega) i1) (r_back_y N _ (by omega) (by rw [(same.cRef κ 2).1 73 (by decide)]; exact i2))
  have t8 : nT' ≤ 8 := i7.1.2.1.2.1
  obtain ⟨κ1, e1, sa, a1, a2, a3, a4, a5, a6⟩ := c_backK N κ (by omega) i1 i3 i6 (fun t q ht e => by
    obtain ⟨τ, g⟩ := i8.2 t q ht e
    exact g.ob.2) (by omega)
  obtain ⟨κ2, e2, sb, b1, b2⟩ := r_back N κ1 (k := k) (by omega) (by rw [sa.1 73 (by decide), bk_A (by decide)]; exact i2) hN
  have A2 : ∀ k, k ∉ [25, 71] → ¬ (2 ≤ k ∧ k ≤ 14 ∧ k ≠ 6) → hk_A κ2 k = hk_A κ k := fun k g1 g2 => by
    have z1 : k ≠ 25 := fun e => g1 (by rw [e]; decide)
    have z2 : k ≠ 71 := fun e => g1 (by rw [e]; decide)
    rw [sb.1 k (fun z => z2 (List.mem_singleton.mp z)), sa.1 k (fun z => z1 (List.mem_singleton.mp z)), bk_A g2]
  have I2 : ∀ k j, k ≠ 1 → (k, j) ∉ [(0, 10), (23, 9), (23, 10), (40, 12), (61, 4)] → (k, j) ∉ [(69, 0), (69, 1)] → hk_I κ2 k j = hk_I κ k j := fun k j g0 g1 g2 => by rw [sb.2.2.1 k j g2, sa.2.2.1 k j g1, bk_I g0]
  have B2 : ∀ k, k ∉ [25, 71] → hk_B κ2 k = hk_B κ k := fun k g1 => by
    have z1 : k ≠ 25 := fun e => g1 (by rw [e]; decide)
    have z2 : k ≠ 71 := fun e => g1 (by rw [e]; decide)
    rw [sb.2.1 k (fun z => z2 (List.mem_singleton.mp z)), sa.2.1 k (fun z => z1 (List.mem_singleton.mp z))]
    rfl
  have Q15 : hk_Q κ2 15 = hk_Q κ 15 := by rw [sb.2.2.2.1, sa.2.2.2.1, bk_Q (by decide)]
  have Q6 : hk_Q κ2 6 = fun x => if x < 8 then Q x else hk_Q κ 6 x := by rw [sb.2.2.2.1, sa.2.2.2.1, bk_6]
  have P2 : hk_P κ2 = hk_P κ := by rw [sb.2.2.2.2.1, sa.2.2.2.2.1]; rfl
  have D2 : hk_D κ2 = hk_D κ := by rw [sb.2.2.2.2.2.1, sa.2.2.2.2.2.1]; rfl
  have n2 : hk_n κ2 = hk_n κ := by rw [sb.2.2.2.2.2.2.1, sa.2.2.2.2.2.2.1]; rfl
  have s2 : hk_s κ2 = hk_s κ := by rw [sb.2.2.2.2.2.2.2.1, sa.2.2.2.2.2.2.2.1]; rfl
  have x1 : hk_x κ1 = hk_x κ := by rw [sa.2.2.2.2.2.2.2.2]; rfl
  have x2 : hk_x κ2 = hk_x κ := by rw [sb.2.2.2.2.2.2.2.2, x1]
  have pl : pL κ2 = pL κ := by
    show [hk_P κ2 8, hk_P κ2 9, hk_P κ2 10, hk_P κ2 11] = [hk_P κ 8, hk_P κ 9, hk_P κ 10, hk_P κ 11]
    rw [P2]
  have e2' : ∀ k, k ∈ pL κ2 → k ∈ pL κ ∨ hk_n κ ≤ k := fun k z => Or.inl (by rw [← pl]; exact z)
  have e3' : ∀ i a, i < 2 → hk_Q κ2 15 i = some a → hk_Q κ 15 i = some a ∨ hk_n κ ≤ a := fun i a _ e => Or.inl (by rw [← Q15]; exact e)
  have ow : ∀ k, tOwn κ k → hk_D κ2 k = hk_D κ k := fun k _ => by rw [D2]
  have nle : hk_n κ ≤ hk_n κ2 := Nat.le_of_eq n2.symm
  have m72 : hk_A κ2 72 = hk_A κ 72 := A2 72 (by decide) (by decide)
  have m71 : ∀ x, x < 7960 → hk_A κ2 71 x = hk_A κ 72 (7960 * k + x) := fun x hx => by rw [b2 x hx, sa.1 72 (by decide), bk_A (by decide)]
  refine ⟨n3 0, κ1, κ2, e1, e2, x1, InvC.inv (n := n') (nT := nT') (nL := nL') (nS := nS') (T := T') ⟨by rw [x2]; exact h1, ?_, i7.cg (fun j g _ => ?_) (fun i x g g4 hx => ?_) (fun x hx => m71 x (by omega)), ?_, ⟨?_, ?_, ?_⟩, ⟨?_, ?_, ?_, fun j hj => ?_⟩, ?_, ?_, ?_, ⟨?_, ?_, Or.inl ?_, Or.inl ?_, Or.inl ?_, Or.inl ?_⟩⟩⟩
  · obtain ⟨r1, r2, z, r3, r4⟩ := h2
    exact ⟨by rw [n2]; exact r1, by rw [n2]; omega, z, r3.cg P2 D2 n2, roSt (y := 0) (Nat.le_of_eq s2) (by decide) r4⟩
  · rw [sb.2.2.1 1 j (by simp), sa.2.2.1 1 j (by simp), bk_1 g]
  · rw [sb.1 (2 + i) (fun z => by have := List.mem_singleton.mp z; omega), sa.1 (2 + i) (fun z => by have := List.mem_singleton.mp z; omega), bk_R g g4]
    exact cpy_in hx
  · rw [Q6]
    exact (i8.cg t8 nle e2' e3' ow (fun x _ hx => m71 x hx)).q t8 (fun t ht => if_pos ht)
  · exact h5.1.cg (by omega) (by rw [Q15]) nle e2' e3' ow (fun a k _ _ _ g _ => by rw [D2]) (fun x _ => by rw [m72]) (by rw [A2 73 (by decide) (by decide)])
  · exact h5.2.1.cg (by omega) (by rw [Q15]) nle e2' e3' ow (fun a k _ _ _ g _ => by rw [D2]) (fun x _ => by rw [m72]) (by rw [A2 73 (by decide) (by decide)])
  · intro a b
    rw [Q15]
    exact h5.2.2 a b
  · rw [sb.2.2.1 0 10 (by decide), a1, b1]
  · rw [I2 0 11 (by decide) (by decide) (by decide), I2 69 6 (by decide) (by decide) (by decide)]; exact h8.2.1
  · rw [I2 0 12 (by decide) (by decide) (by decide), I2 69 13 (by decide) (by decide) (by decide)]; exact h8.2.2.1
  · rw [A2 68 (by decide) (by decide), A2 70 (by decide) (by decide)]; exact h8.2.2.2 j hj
  · obtain ⟨B, len, ct, rt⟩ := h9
    exact ⟨B, len, ⟨ct.1, by rw [I2 16 1 (by decide) (by decide) (by decide)]; exact ct.2.1, by rw [A2 17 (by decide) (by decide)]; exact ct.2.2⟩, ⟨rt.1, by rw [I2 69 8 (by decide) (by decide) (by decide)]; exact rt.2.1, by rw [A2 74 (by decide) (by decide)]; exact rt.2.2⟩⟩
  · unfold woI
    rw [I2 66 1 (by decide) (by decide) (by decide), I2 69 56 (by decide) (by decide) (by decide), A2 67 (by decide) (by decide), A2 100 (by decide) (by decide)]
    exact h10
  · obtain ⟨w1, u, w2, w3, w4⟩ := h11
    refine ⟨?_, u, by omega, by rw [I2 69 38 (by decide) (by decide) (by decide)]; exact w3, by rw [A2 86 (by decide) (by decide)]; exact w4⟩
    unfold rWd
    rw [B2 80 (by decide), B2 81 (by decide)]
    exact w1
  · intro t b ht hb ne
    have n40 := i7.1.1.2.1
    rw [sb.1 25 (by decide)] at ne
    exact absurd (a6 _ (by omega)) ne
  · rw [A2 27 (by decide) (by decide)]
    exact h12.2.1
  · rw [sb.2.2.1 23 9 (by decide)]; exact a2
  · rw [sb.2.2.1 23 10 (by decide)]; exact a3
  · rw [sb.2.2.1 40 12 (by decide)]; exact a4
  · rw [sb.2.2.1 61 4 (by decide)]; exact a5
end
