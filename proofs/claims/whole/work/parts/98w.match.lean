/-! match, matched, left: calls -/
theorem roW {s s' z z' m c : Nat} (h : s' + 86 * z ≤ s + 86 * z') (g : s ≤ m + 86 * z + 900 * c) : s' ≤ m + 86 * z' + 900 * (c + 1) := by omega
section
variable {L c : Nat} {xs : Nat → Int32} {κ : hk_T} {n nT nL nS : Nat} {T : Nat → tauT}
theorem InvC.ra (h : InvC L xs c κ n nT nL nS T) : raOk (hk_A κ 71) n nL := by
  obtain ⟨h1, h2, h3, -⟩ := h
  have hF : hrF (hk_A κ 2) (hk_A κ 71) n := h3.2.2.1
  refine ⟨h3.1.1.2.2, h3.1.2.2.1.2.2, h3.1.1.2.1, h3.1.2.2.1.2.1, fun l hl => ?_, fun b hb => ?_⟩
  · obtain ⟨a1, a2, a3, a4, a5, a6, a7, a8⟩ := h3.2.2.2.2.2.1.1 l hl
    obtain ⟨k, -, k2, k3⟩ := vK (lo := 1) (hi := 30) (okLine_iff.mp a7).2.2.1
    exact ⟨k, by omega, by rw [a3]; exact k3⟩
  · obtain ⟨k, -, k2, k3⟩ := vK (lo := 1) (hi := 30) (hF.2.2 b hb).2.2.1
    exact ⟨k, by omega, by rw [hF.1 _ (by omega)]; exact k3⟩
theorem InvC.ag (h : InvC L xs c κ n nT nL nS T) {l b : Nat} (hl : l < nL) (hb : b < n) : agC κ l b = agR (hk_A κ 71) l b := by
  obtain ⟨h1, h2, h3, -⟩ := h
  unfold agC agR
  rw [ag_eq (F := hk_A κ 2) (G := hk_A κ 7) (LI := hk_A κ 8) h3.2.2.1 h3.2.2.2.2.2.1 hl hb]
theorem InvC.more (h : InvC L xs c κ n nT nL nS T) : InvC L xs (c + 1) κ n nT nL nS T := by
  obtain ⟨h1, ⟨r1, r2, z, r3, r4⟩, h3, h4, h5, h8, h9, h10, ⟨w1, u, w2, w3⟩, h12⟩ := h
  exact ⟨h1, ⟨r1, by omega, z, r3, roSt (y := 0) (Nat.le_refl _) (by decide) r4⟩, h3, h4, h5, h8, h9, h10, ⟨w1, u, by omega, w3⟩, h12⟩
theorem InvC.weigh (N : Nat) (h : InvC L xs c κ n nT nL nS T) (hN : 10000 < N) : ∃ κ1, fX3_weighAll N 40 (hp κ) = some (hp κ1) ∧ mOut κ1 (agR (hk_A κ 71)) n nL ∧ InvC L xs (c + 1) κ1 n nT nL nS T ∧ sameM [42, 43, 44, 45, 46, 47, 48, 49, 50, 51, 52, 53, 59, 60] [(41, 7), (40, 12), (40, 15), (40, 16), (40, 17)] κ κ1 := by
  have H := h
  obtain ⟨h1, h2, h3, h4, h5, h8, h9, h10, h11, h12⟩ := h
  have ag : ∀ l b, l < nL → b < n → agC κ l b = agR (hk_A κ 71) l b ∨ (agC κ l b < 0 ∧ agR (hk_A κ 71) l b < 0) := fun l b hl hb => Or.inl (H.ag hl hb)
  have t8 : nT ≤ 8 := h3.1.2.1.2.1
  by_cases k1 : hk_I κ 40 12 = n3 1
  · refine ⟨κ, c_weighAll1 N κ k1, ?_, H.more, fun _ _ => rfl, fun _ _ => rfl, fun _ _ _ => rfl, rfl, rfl, fun _ _ _ => rfl, Nat.le_refl _, by omega, fun _ _ z => z⟩
    rcases h12.2.2.2.2.1 with z | z
    · rw [z] at k1; exact absurd k1 (by decide)
    · exact mOut_cg ag z.2
  · have k0 : hk_I κ 40 12 = n3 0 := by
      rcases h12.2.2.2.2.1 with z | z
      · exact z
      · exact absurd z.1 k1
    obtain ⟨r1, r2, z, r3, r4⟩ := h2
    obtain ⟨κ1, z', e1, s1, mo, k1', ⟨q, S, W, R, C, mc, hz⟩, sl, sg⟩ := c_weighAllM N κ h3.1.1.1 h3.1.2.2.1.1 h3.1.1.2.1 h3.1.2.2.1.2.1 k0 r1 r3.1 hN
    have s1' := s1
    obtain ⟨sA, sB, sI, sQ, sx, sD, sn, sn', sp⟩ := s1'
    have A : ∀ k, k ∉ [42, 43, 44, 45, 46, 47, 48, 49, 50, 51, 52, 53, 59, 60] → hk_A κ1 k = hk_A κ k := sA
    have e2' : ∀ k, k ∈ pL κ1 → k ∈ pL κ ∨ hk_n κ ≤ k := fun k z => by
      by_cases g : k < hk_n κ
      · exact Or.inl (sp k g z)
      · exact Or.inr (by omega)
    have e3' : ∀ i a, i < 2 → hk_Q κ1 15 i = some a → hk_Q κ 15 i = some a ∨ hk_n κ ≤ a := fun i a _ e => Or.inl (by rw [← sQ]; exact e)
    have ow : ∀ k, tOwn κ k → hk_D κ1 k = hk_D κ k := fun k g => sD k g.2.1 g.2.2.1
    have A1 : hk_I κ1 1 = hk_I κ 1 := funext fun j => sI 1 j (by simp)
    have im : ∀ i, i < 2 → imOk κ i → imOk κ1 i := fun i hi g => g.cg hi (by rw [sQ]) sn e2' e3' ow (fun a k _ _ _ g1 g2 => sD k g1 g2) (fun x _ => by rw [A 72 (by decide)]) (by rw [A 73 (by decide)])
    refine ⟨κ1, e1, mOut_cg ag mo, ⟨by rw [sx]; exact h1, ⟨by omega, by omega, z', ⟨Or.inr ⟨q, S, W, R, C, mc, hz⟩, fun k hk => ?_⟩, ?_⟩, ?_, ?_, ⟨im 0 (by omega) h5.1, im 1 (by omega) h5.2.1, ?_⟩, ?_, ?_, ?_, ?_, ⟨?_, ?_, ?_, ?_, Or.inr ⟨k1', ?_⟩, ?_⟩⟩, s1⟩
    · have e : k = hk_P κ1 8 ∨ k = hk_P κ1 9 ∨ k = hk_P κ1 10 ∨ k = hk_P κ1 11 := by simpa [pL] using hk
      obtain ⟨⟨g1, g2, g3, g4, g5⟩, -⟩ := mc
      rcases e with e | e | e | e <;> omega
    · exact roW sl r4
    · exact h3.cg (fun j _ _ => by rw [A1]) (fun i x g g4 hx => by rw [A (2 + i) (by simp; omega)]) (fun x hx => by rw [A 71 (by decide)])
    · rw [sQ, A 71 (by decide)]
      exact h4.cg t8 sn e2' e3' ow (fun x _ _ => rfl)
    · intro a b
      rw [sQ]
      exact h5.2.2 a b
    · unfold scI
      rw [sI 0 10 (by decide), sI 69 1 (by decide), sI 0 11 (by decide), sI 69 6 (by decide), sI 0 12 (by decide), sI 69 13 (by decide), A 68 (by decide), A 70 (by decide)]
      exact h8
    · obtain ⟨B, len, ct, rt⟩ := h9
      exact ⟨B, len, ⟨ct.1, by rw [sI 16 1 (by decide)]; exact ct.2.1, by rw [A 17 (by decide)]; exact ct.2.2⟩, ⟨rt.1, by rw [sI 69 8 (by decide)]; exact rt.2.1, by rw [A 74 (by decide)]; exact rt.2.2⟩⟩
    · unfold woI
      rw [sI 66 1 (by decide), sI 69 56 (by decide), A 67 (by decide), A 100 (by decide)]
      exact h10
    · obtain ⟨w1, u, w2, w3, w4⟩ := h11
      refine ⟨?_, u, by omega, by rw [sI 69 38 (by decide)]; exact w3, by rw [A 86 (by decide)]; exact w4⟩
      unfold rWd
      rw [sB 80 (by decide), sB 81 (by decide)]
      exact w1
    · unfold cA
      rw [A 24 (by decide), A 25 (by decide), A 2 (by decide)]
      exact h12.1
    · rw [A 27 (by decide)]
      exact h12.2.1
    · exact ca3P.cg (κ := κ) h12.2.2.1 (fun k hk => A k (by
          have : ∀ k ∈ [2, 3, 5, 35, 36, 37], k ∉ [42, 43, 44, 45, 46, 47, 48, 49, 50, 51, 52, 53, 59, 60] := by decide
          exact this k hk)) (fun q hq => sI q.1 q.2 (by
          have : ∀ q ∈ [(1, 17), (1, 18), (1, 19), (23, 9), (34, 3)], q ∉ [(41, 7), (40, 12), (40, 15), (40, 16), (40, 17)] := by decide
          exact this q hq))
    · exact ca4P.cg (κ := κ) h12.2.2.2.1 (fun k hk => A k (by
          have : ∀ k ∈ [2, 3, 5, 29], k ∉ [42, 43, 44, 45, 46, 47, 48, 49, 50, 51, 52, 53, 59, 60] := by decide
          exact this k hk)) (sI 23 10 (by decide))
    · have e : agC κ1 = agC κ := by
        funext l b
        unfold agC
        rw [A 2 (by decide), A 7 (by decide)]
      rw [e]
      exact mo
    · rw [sI 61 4 (by decide), A 11 (by decide), A 2 (by decide)]
      rcases h12.2.2.2.2.2 with z | ⟨z1, z2⟩
      · exact Or.inl z
      · exact Or.inr ⟨z1, z2.cg (sI 61 6 (by decide)) (A 65 (by decide))⟩
end
section
variable (N : Nat) {L c : Nat} {xs : Nat → Int32} {κ : hk_T}
theorem k_match (h : Inv L xs c κ) (hN : 10000 < N) (w : Int32) : callOk L xs c κ (fX11_match N 0 w) (fX12_match N 69 w) := by
  have h0 := h
  obtain ⟨n, nT, nL, nS, T, H⟩ := h0
  have H' : InvC L xs c κ n nT nL nS T := H
  by_cases v : vIn 0 2 w = true
  · obtain ⟨w, -, w2, rfl⟩ := vK (lo := 0) (hi := 2) v
    obtain ⟨κ1, e1, mo, g, sM⟩ := H'.weigh N hN
    have a := c_match N κ (nB := n) (L := nL) e1 mo H'.2.2.1.1.2.2.1.2.1 w2
    obtain ⟨κ2, e2, s2⟩ := r_match N κ1 g.ra w2 hN
    rw [sM.1 71 (by decide)] at e2
    exact ⟨_, κ1, κ2, a, e2, g.1.trans H'.1.symm, (g.scr s2 (by decide) (by decide)).inv⟩
  · exact callOk.ask h (c_match_x N κ v) (r_match_x N κ v) rfl
theorem k_matched (h : Inv L xs c κ) (hN : 10000 < N) (b w : Int32) : callOk L xs c κ (fX11_matched N 0 b w) (fX12_matched N 69 b w) := by
  have h0 := h
  obtain ⟨n, nT, nL, nS, T, H⟩ := h0
  have H' : InvC L xs c κ n nT nL nS T := H
  have n40 := H'.toC.2.1
  by_cases v : vIn 0 (n - 1) b = true ∧ vIn 0 1 w = true
  · obtain ⟨b, hb, rfl⟩ := vB v.1
    obtain ⟨w, -, w2, rfl⟩ := vK (lo := 0) (hi := 1) v.2
    obtain ⟨κ1, e1, mo, g, sM⟩ := H'.weigh N hN
    obtain ⟨v1, a, m1⟩ := c_matched N κ (nB := n) (L := nL) H'.toC.1 n40 e1 mo hb w2
    obtain ⟨v2, κ2, e2, m2, s2⟩ := r_matched N κ1 g.ra hb w2 hN
    rw [sM.1 71 (by decide)] at m2
    have e := mdV_eq m1 m2
    subst e
    exact ⟨_, κ1, κ2, a, e2, g.1.trans H'.1.symm, (g.scr s2 (by decide) (by decide)).inv⟩
  · exact callOk.ask h (c_matched_x N κ H'.toC.1 n40 v) (r_matched_x N κ H'.2.2.1.1.1.2.2 n40 v) rfl
theorem k_left (h : Inv L xs c κ) (hN : 10000 < N) (w : Int32) : callOk L xs c κ (fX11_left N 0 w) (fX12_left N 69 w) := by
  have h0 := h
  obtain ⟨n, nT, nL, nS, T, H⟩ := h0
  have H' : InvC L xs c κ n nT nL nS T := H
  have n40 := H'.toC.2.1
  by_cases v : vIn 0 1 w = true
  · obtain ⟨w, -, w2, rfl⟩ := vK (lo := 0) (hi := 1) v
    obtain ⟨κ1, e1, mo, g, sM⟩ := H'.weigh N hN
    have a := c_left N κ (nB := n) (L := nL) g.toC.1 g.2.2.1.1.2.2.1.1 n40 g.2.2.1.1.2.2.1.2.1 e1 mo w2 (by omega)
    obtain ⟨κ2, e2, s2⟩ := r_left N κ1 g.ra w2 hN
    have hF : hrF (hk_A κ1 2) (hk_A κ1 71) n := g.2.2.1.2.2.1
    have ec : cnt (fun b => ¬ hk_A κ1 71 (12 * b) = -n3 1) n = cnt (fun b => ¬ hk_A κ1 2 (12 * b) = -n3 1) n := cnt_cg0 n (fun i hi => by rw [hF.1 (12 * i) (by omega)])
    rw [ec] at e2
    have em : hk_A κ1 71 = hk_A κ 71 := sM.1 71 (by decide)
    rw [em] at e2
    exact ⟨_, κ1, κ2, a, e2, g.1.trans H'.1.symm, (g.scr s2 (by decide) (by decide)).inv⟩
  · exact callOk.ask h (c_left_x N κ v) (r_left_x N κ v) rfl
end
