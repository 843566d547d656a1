/-! image: a call -/
section
variable (N : Nat) {L c : Nat} {xs : Nat → Int32} {κ : hk_T}
theorem c_imageK {k nT : Nat} {T : Nat → tauT} {M : Nat → Int32} (hk : k < 2) (hn : 101 ≤ hk_n κ) (hm : imOk κ k) (ht : tTab κ (hk_Q κ 6) M nT T) (hN : 1000 < N) : ∃ (a : Nat) (R0 : Nat → Nat → Int32) (Q0 : Nat → Option Nat) (κ1 : hk_T), fX11_image N 0 (n3 k) (hp κ) = some (n3 0, hp κ1) ∧ hk_Q κ1 15 k = some a ∧ (∀ r i, (r, i) ≠ (15, k) → hk_Q κ1 r i = hk_Q κ r i) ∧ imgC (hk_D κ1) a (hk_I κ 1) (fun i => va_cpy (hk_A κ (2 + i)) (R0 i) 0 0 (hoL i)) (fun x => if x < 8 then hk_Q κ 6 x else Q0 x) ∧ 101 ≤ a ∧ (∀ q, 101 ≤ q → q < hk_n κ → (q < a ∨ a + 13 < q) → hk_D κ1 q = hk_D κ q) ∧ hk_A κ1 = hk_A κ ∧ hk_B κ1 = hk_B κ ∧ (∀ k j, (k, j) ≠ (0, 10) → hk_I κ1 k j = hk_I κ k j) ∧ hk_I κ1 0 10 = n3 0 ∧ hk_P κ1 = hk_P κ ∧ a + 13 < hk_n κ1 ∧ hk_n κ ≤ hk_n κ1 ∧ hk_n κ1 ≤ hk_n κ + 14 ∧ hk_s κ1 ≤ hk_s κ + 846 ∧ hk_x κ1 = hk_x κ ∧ (hk_Q κ 15 k = some a ∧ (∀ q, q ∈ pL κ → ¬ (a ≤ q ∧ q ≤ a + 13)) ∨ hk_Q κ 15 k = none ∧ a = hk_n κ) := by
  rcases hm with ⟨i1, i2⟩ | ⟨a, I, R, Q, n', nT', nL', nS', T', i1, i2, i3, i4, i5, i6, i7, i8⟩
  · obtain ⟨κ0, e0, q0, qq, im, dd, A0, B0, I0, J0, P0, n0, s0, x0⟩ := c_image0 N κ hk i1 hn hN
    obtain ⟨κ1, e1, im1, dd1, A1, B1, I1, I1', J1, Q1, P1, n1, s1, x1⟩ := c_image37 N κ0 hk q0 hn im (fun t q ht8 e => by
      rw [qq 6 t (fun z => by cases z)] at e
      obtain ⟨τ, c', h', b, g, ow, -⟩ := ht.2 t q ht8 e
      exact d_isOb g.1 g.2.2.2.2.1 (dd q ow.1 ow.2.1)) hN
    have q6 : hk_Q κ0 6 = hk_Q κ 6 := funext fun t => qq 6 t (fun z => by cases z)
    rw [q6, I0, A0] at im1
    refine ⟨hk_n κ, hoR, fun _ => none, κ1, by rw [e0, e1], by rw [Q1, q0], fun r i g => by rw [Q1, qq r i g], im1, hn, fun q g1 g2 g3 => by rw [dd1 q g1 g3, dd q g1 g2], by rw [A1, A0], by rw [B1, B0], fun k j g => by rw [I1 k j g, I0], I1', by rw [P1, P0], by omega, by omega, by omega, by omega, by rw [x1, x0], Or.inr ⟨i1, rfl⟩⟩
  · obtain ⟨κ1, e1, im1, dd1, A1, B1, I1, I1', J1, Q1, P1, n1, s1, x1⟩ := c_image37 N κ hk i1 i3 i6 (fun t q ht8 e => by
      obtain ⟨τ, g⟩ := ht.2 t q ht8 e
      exact g.ob.2) hN
    exact ⟨a, R, Q, κ1, by rw [c_image1 N κ hk i1, e1], by rw [Q1, i1], fun r i g => by rw [Q1], im1, i3, fun q g1 g2 g3 => dd1 q g1 g3, A1, B1, I1, I1', P1, by omega, by omega, by omega, by omega, x1, Or.inl ⟨i1, i5⟩⟩
theorem k_image (h : Inv L xs c κ) (hN : 10000 < N) (x : Int32) : callOk L xs c κ (fX11_image N 0 x) (fX12_image N 69 x) := by
  by_cases v : vIn 0 1 x = true
  case neg => exact callOk.ref h (c_img_x N κ v).1 (r_img_x N _ v).1
  obtain ⟨k, hk, rfl⟩ := vB (n := 2) v
  have h0 := h
  obtain ⟨n, nT, nL, nS, T, h1, h2, h3, h4, h5, h8, h9, h10, h11, h12⟩ := h0
  have ims : ∀ k, k < 2 → imOk κ k := fun k hk => by
    by_cases e : k = 0
    · rw [e]; exact h5.1
    · rw [show k = 1 by omega]; exact h5.2.1
  have idj : ∀ i j a b, i < 2 → j < 2 → i ≠ j → hk_Q κ 15 i = some a → hk_Q κ 15 j = some b → a + 13 < b ∨ b + 13 < a := fun i j a b hi hj ne ea eb => by
    by_cases e : i = 0
    · have e' : j = 1 := by omega
      subst e; subst e'
      exact h5.2.2 a b ea eb
    · have e1 : i = 1 := by omega
      have e' : j = 0 := by omega
      subst e1; subst e'
      exact (h5.2.2 b a eb ea).symm
  have t8 : nT ≤ 8 := h3.1.2.1.2.1
  obtain ⟨a, R0, Q0, κ1, e1, q0, qq, im1, a101, dd, A1, B1, I1, I1', P1, an, nn, nn', ss, x1, alt⟩ := c_imageK N hk h2.1 (ims k hk) h4 (by omega)
  obtain ⟨κ2, e2, sb, b1, b2, b3, b4⟩ := r_image N κ1 (k := k) hk hN
  have A2 : ∀ k, k ∉ [72, 73] → hk_A κ2 k = hk_A κ k := fun k g => by rw [sb.1 k g, A1]
  have I2 : ∀ k j, (k, j) ∉ [(0, 10), (69, 0), (69, 1)] → hk_I κ2 k j = hk_I κ k j := fun k j g => by
    rw [sb.2.2.1 k j (fun z => g (List.mem_cons_of_mem _ z)), I1 k j (fun z => g (by rw [z]; exact List.mem_cons_self))]
  have Q2 : hk_Q κ2 = hk_Q κ1 := sb.2.2.2.1
  have P2 : hk_P κ2 = hk_P κ := by rw [sb.2.2.2.2.1, P1]
  have D2 : hk_D κ2 = hk_D κ1 := sb.2.2.2.2.2.1
  have n2 : hk_n κ2 = hk_n κ1 := sb.2.2.2.2.2.2.1
  have s2 : hk_s κ2 ≤ hk_s κ + 846 := by rw [sb.2.2.2.2.2.2.2.1]; exact ss
  have x2 : hk_x κ2 = hk_x κ := by rw [sb.2.2.2.2.2.2.2.2, x1]
  have pl : pL κ2 = pL κ := by
    show [hk_P κ2 8, hk_P κ2 9, hk_P κ2 10, hk_P κ2 11] = [hk_P κ 8, hk_P κ 9, hk_P κ 10, hk_P κ 11]
    rw [P2]
  have roomL : ∀ k, k ∈ pL κ → k < hk_n κ := by
    obtain ⟨r1, r2, z, r3, r4⟩ := h2
    exact r3.2
  have q6 : hk_Q κ2 6 = hk_Q κ 6 := funext fun t => by rw [Q2]; exact qq 6 t (fun z => by cases z)
  have q15 : ∀ i, i ≠ k → hk_Q κ2 15 i = hk_Q κ 15 i := fun i g => by rw [Q2]; exact qq 15 i (fun z => g (congrArg Prod.snd z))
  have e2' : ∀ k, k ∈ pL κ2 → k ∈ pL κ ∨ hk_n κ ≤ k := fun k z => Or.inl (by rw [← pl]; exact z)
  have e3' : ∀ i a, i < 2 → hk_Q κ2 15 i = some a → hk_Q κ 15 i = some a ∨ hk_n κ ≤ a := fun i b hi e => by
    by_cases g : i = k
    · rw [g, Q2, q0] at e
      cases e
      rcases alt with z | z
      · left; rw [g]; exact z.1
      · right; exact Nat.le_of_eq z.2.symm
    · left; rw [← q15 i g]; exact e
  have Dold : ∀ q, 101 ≤ q → q < hk_n κ → (q < a ∨ a + 13 < q) → hk_D κ2 q = hk_D κ q := fun q g1 g2 g3 => by rw [D2, dd q g1 g2 g3]
  have ow : ∀ q, tOwn κ q → hk_D κ2 q = hk_D κ q := fun q g => by
    refine Dold q g.1 g.2.1 ?_
    rcases alt with z | z
    · have := g.2.2.2 k a hk z.1
      omega
    · have := g.2.1
      have := z.2
      omega
  have nle : hk_n κ ≤ hk_n κ2 := by omega
  have m71 : hk_A κ2 71 = hk_A κ 71 := A2 71 (by decide)
  have m72 : ∀ x, x < 7960 → hk_A κ2 72 (7960 * k + x) = hk_A κ 71 x := fun x hx => by rw [b2 x hx, A1]
  have img : ∀ i, i < 2 → imOk κ2 i := fun i hi => by
    by_cases g : i = k
    · subst g
      refine Or.inr ⟨a, _, _, _, n, nT, nL, nS, T, by rw [Q2, q0], by rw [b4, if_pos rfl], a101, by omega, fun q hq => ?_, by rw [D2]; exact im1, h3.cg (fun j _ _ => rfl) (fun i x _ _ hx => cpy_in hx) (fun x hx => m72 x (by omega)), (h4.cg t8 nle e2' e3' ow (fun x _ hx => m72 x hx)).q t8 (fun t ht => if_pos ht)⟩
      rw [pl] at hq
      rcases alt with z | z
      · exact z.2 q hq
      · have := roomL q hq
        have := z.2
        omega
    · refine (ims i hi).cg hi (q15 i g) nle e2' e3' ow (fun a' q ea ga gb gn gp => ?_) (fun x hx => by rw [b3 _ (by omega), A1]) (by rw [b4, if_neg g, A1])
      have := ims i hi
      rcases this with ⟨i1, i2⟩ | ⟨a'', I, R, Q, n', nT', nL', nS', T', i1, i2, i3, i4, i5, i6, i7, i8⟩
      · rw [i1] at ea; cases ea
      rw [i1] at ea
      cases ea
      refine Dold q (by omega) gn ?_
      rcases alt with z | z
      · have := idj i k _ _ hi hk g i1 z.1
        omega
      · have := z.2
        omega
  have ca : caI κ2 n nT nL nS T := h12.cg (fun k hk => A2 k (by
      have : ∀ k ∈ [2, 3, 5, 7, 11, 24, 25, 27, 29, 35, 36, 37, 59, 60, 65], k ∉ [72, 73] := by decide
      exact this k hk)) (fun k j hk => I2 k j (by
      have : ∀ q ∈ [(1, 17), (1, 18), (1, 19), (23, 9), (23, 10), (34, 3), (40, 12), (40, 15), (40, 16), (40, 17), (61, 4), (61, 6)], q ∉ [(0, 10), (69, 0), (69, 1)] := by decide
      exact this _ hk))
  refine ⟨n3 0, κ1, κ2, e1, e2, x1, InvC.inv (n := n) (nT := nT) (nL := nL) (nS := nS) (T := T) ⟨by rw [x2]; exact h1, ?_, h3.cg (fun j _ _ => I2 1 j (by simp)) (fun i x g g4 hx => ?_) (fun x hx => by rw [m71]), ?_, ⟨img 0 (by omega), img 1 (by omega), ?_⟩, ⟨?_, ?_, ?_, fun j hj => ?_⟩, ?_, ?_, ?_, ca⟩⟩
  · obtain ⟨r1, r2, z, r3, r4⟩ := h2
    refine ⟨by omega, by omega, z, ⟨?_, fun q hq => ?_⟩, roSt s2 (by decide) r4⟩
    · rcases r3.1 with ⟨u, b⟩ | ⟨q, S, W, R, C, ⟨⟨g1, g2, g3, g4, g5⟩, g6, ⟨g7, g8, g9, g10⟩, g11⟩, b⟩
      · exact Or.inl ⟨by rw [P2]; exact u, b⟩
      · refine Or.inr ⟨q, S, W, R, C, ?_, b⟩
        have dj : ∀ p, p ∈ pL κ → hk_D κ2 p = hk_D κ p := fun p hp => by
          have p101 : 101 ≤ p := by
            have e : p = hk_P κ 8 ∨ p = hk_P κ 9 ∨ p = hk_P κ 10 ∨ p = hk_P κ 11 := by simpa [pL] using hp
            rcases e with e | e | e | e <;> omega
          refine Dold p p101 (roomL p hp) ?_
          · rcases alt with z | z
            · have := z.2 p hp
              omega
            · have := roomL p hp
              have := z.2
              omega
        unfold mC
        rw [P2, dj _ (by simp [pL]), dj _ (by simp [pL]), dj _ (by simp [pL]), dj _ (by simp [pL])]
        exact ⟨⟨g1, g2, g3, g4, by omega⟩, g6, ⟨g7, g8, g9, g10⟩, g11⟩
    · rw [pl] at hq
      have := roomL q hq
      omega
  · rw [A2 (2 + i) (by simp; omega)]
  · rw [q6]
    exact h4.cg t8 nle e2' e3' ow (fun x _ hx => by rw [m71])
  · intro p q ep eq
    by_cases g : k = 0
    · subst g
      rw [Q2, q0] at ep
      cases ep
      rw [q15 1 (by omega)] at eq
      rcases alt with z | z
      · exact h5.2.2 _ _ z.1 eq
      · have i1 := h5.2.1
        rcases i1 with ⟨i1, i2⟩ | ⟨a'', I, R, Q, n', nT', nL', nS', T', i1, i2, i3, i4, -⟩
        · rw [i1] at eq; cases eq
        · rw [i1] at eq
          cases eq
          have := z.2
          omega
    · have g1 : k = 1 := by omega
      subst g1
      rw [Q2, q0] at eq
      cases eq
      rw [q15 0 (by omega)] at ep
      rcases alt with z | z
      · exact h5.2.2 _ _ ep z.1
      · have i1 := h5.1
        rcases i1 with ⟨i1, i2⟩ | ⟨a'', I, R, Q, n', nT', nL', nS', T', i1, i2, i3, i4, -⟩
        · rw [i1] at ep; cases ep
        · rw [i1] at ep
          cases ep
          have := z.2
          omega
  · rw [sb.2.2.1 0 10 (by decide), I1', b1]
  · rw [I2 0 11 (by decide), I2 69 6 (by decide)]; exact h8.2.1
  · rw [I2 0 12 (by decide), I2 69 13 (by decide)]; exact h8.2.2.1
  · rw [A2 68 (by decide), A2 70 (by decide)]; exact h8.2.2.2 j hj
  · obtain ⟨B, len, ct, rt⟩ := h9
    exact ⟨B, len, ⟨ct.1, by rw [I2 16 1 (by decide)]; exact ct.2.1, by rw [A2 17 (by decide)]; exact ct.2.2⟩, ⟨rt.1, by rw [I2 69 8 (by decide)]; exact rt.2.1, by rw [A2 74 (by decide)]; exact rt.2.2⟩⟩
  · unfold woI
    rw [I2 66 1 (by decide), I2 69 56 (by decide), A2 67 (by decide), A2 100 (by decide)]
    exact h10
  · obtain ⟨w1, u, w2, w3, w4⟩ := h11
    refine ⟨?_, u, by omega, by rw [I2 69 38 (by decide)]; exact w3, by rw [A2 86 (by decide)]; exact w4⟩
    unfold rWd
    rw [sb.2.1 80 (by decide), sb.2.1 81 (by decide), B1]
    exact w1
end
