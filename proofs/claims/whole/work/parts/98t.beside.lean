/-! beside: a call -/
section
variable (N : Nat) {L c : Nat} {xs : Nat → Int32} {κ : hk_T}
theorem k_beside (h : Inv L xs c κ) (hN : 1000 < N) (a : Int32) : callOk L xs c κ (fX11_beside N 0 a) (fX12_beside N 69 a) := by
  have h0 := h
  obtain ⟨n, nT, nL, nS, T, h1, h2, h3, h4, h5, h8, h9, h10, h11, h12⟩ := h0
  have n40 := h3.1.1.2.1
  have s9 := h3.1.2.2.2.2.1
  have sC := h3.1.2.2.2.1
  have sR := h3.1.2.2.2.2.2
  by_cases z0 : nS = 0
  · subst z0
    exact callOk.ask h (c_beside0 N κ sC) (r_beside0 N κ sR) rfl
  by_cases v : vIn (-1) (nS - 1) a = true
  case neg => exact callOk.ask h (c_beside_x N κ sC s9 v) (r_beside_x N κ sR s9 v) rfl
  have hF : hrF (hk_A κ 2) (hk_A κ 71) n := h3.2.2.1
  have hZ : hrZ (hk_A κ 11) (hk_A κ 71) nS n := h3.2.2.2.2.2.2.1
  have zz : ∀ i, i < nS → hk_A κ 11 i = n3 (zF (hk_A κ 11) i) ∧ hk_A κ 71 (725 + i) = n3 (zF (hk_A κ 11) i) := fun i hi => by
    obtain ⟨z, z1, z2, z3⟩ := hZ.1 i hi
    have e : zF (hk_A κ 11) i = z := by
      unfold zF
      rw [z2, n3_toInt (by omega)]
      rfl
    rw [e]
    exact ⟨z2, z3⟩
  have zl : ∀ i, i < nS → zF (hk_A κ 11) i < n := fun i hi => zF_lt hZ n40 hi
  have zd : ∀ i j, i < j → j < nS → zF (hk_A κ 11) i ≠ zF (hk_A κ 11) j := fun i j g1 g2 e => hZ.2 i j g1 g2 (by rw [(zz i (by omega)).1, (zz j g2).1, e])
  have dm : ∀ b, b < n → hk_A κ 2 (12 * b + 8) = n3 (dmF (hk_A κ 2) b) := fun b hb => by
    obtain ⟨k, -, k2, k3⟩ := vK (lo := 0) (hi := 9) (hF.2.2 b hb).2.2.2.2.2.2.2.1
    unfold dmF
    rw [k3, n3_toInt (by omega)]
    congr 1
    omega
  have d9 : ∀ b, dmF (hk_A κ 2) b ≤ 9 := fun b => by unfold dmF; omega
  obtain ⟨κ1, e1, sa, k, l⟩ := c_beside N κ (F := hk_A κ 2) v sC (by omega) s9 (fun i hi => (zz i hi).1) n40 zl zd rfl dm d9 h12.2.2.2.2.2 hN
  have l' := l
  obtain ⟨g, st, l1, l2, l3, l4⟩ := l'
  have m71 : hk_A κ1 71 = hk_A κ 71 := sa.1 71 (by decide)
  obtain ⟨κ2, e2, sb⟩ := r_beside N κ1 (F := hk_A κ 2) (dm := dmF (hk_A κ 2)) (z := zF (hk_A κ 11)) (g := g) (st := st) v (by rw [m71]; exact sR) (by omega) s9 (fun i hi => by rw [m71]; exact (zz i hi).2) n40 zl zd (fun b hb => by rw [m71]; exact hF.1 _ (by omega)) (fun b hb => by rw [m71, hF.1 _ (by omega)]; exact dm b hb) d9 hN l1 l2 l3
  rw [← bes_eq κ1 v l4] at e2
  have s2 : same [62, 63, 64, 65, 98, 99] [(61, 4), (61, 6), (69, 0)] κ κ2 := (sa.weak (by decide) (by decide)).trans (sb.weak (by decide) (by decide))
  refine ⟨_, κ1, κ2, e1, e2, sa.2.2.2.2.2.2.2.2, InvC.inv (n := n) (nT := nT) (nL := nL) (nS := nS) (T := T) ⟨s2.xx h1, s2.ro h2, s2.hr (by decide) (by decide) h3, s2.ttq h3.1.2.1.2.1 (fun x _ _ => by rw [s2.1 71 (by decide)]) h4, s2.im (by decide) (by decide) h5, s2.sc (by decide) (by decide) h8, s2.ta (by decide) (by decide) h9, s2.wo (by decide) (by decide) h10, s2.rf (by decide) (by decide) h11, ⟨?_, ?_, ?_, ?_, ?_, Or.inr ⟨?_, ?_⟩⟩⟩⟩
  · exact s2.c1 (by decide) h12.1
  · exact s2.c2 (by decide) h12.2.1
  · exact s2.c3 (by decide) (by decide) h12.2.2.1
  · exact s2.c4 (by decide) (by decide) h12.2.2.2.1
  · exact s2.c5 (by decide) (by decide) h12.2.2.2.2.1
  · rw [sb.2.2.1 61 4 (by decide)]; exact k
  · have e11 : hk_A κ2 11 = hk_A κ 11 := s2.1 11 (by decide)
    have e2' : hk_A κ2 2 = hk_A κ 2 := s2.1 2 (by decide)
    rw [e11, e2']
    exact l.cg (sb.2.2.1 61 6 (by decide)) (sb.1 65 (by decide))
end
