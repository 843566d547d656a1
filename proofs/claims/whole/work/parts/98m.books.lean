/-! book, mark, fact -/
/-- one book more -/
theorem add_ok {F : Nat → Int32} {n : Nat} {l m c t a : Int32} (h : ∀ b, b < n → bkOk F b) (ok : okNew l m c t a = true) : ∀ b, b < n + 1 → bkOk (addG F n l m c t a) b := by
  intro b hb
  by_cases e : b = n
  · subst e
    obtain ⟨o1, o2, o3, o4⟩ := okNew_iff.mp ok
    have z : ∀ f, 5 ≤ f → f < 12 → addG F b l m c t a (12 * b + f) = n3 0 := fun f g1 g2 => by
      unfold addG
      rw [if_neg (by omega), if_neg (by omega), if_neg (by omega), if_neg (by omega), if_neg (by omega), if_neg (by omega)]
    have a0 : addG F b l m c t a (12 * b) = l := by unfold addG; rw [if_neg (by omega), if_pos rfl]
    have a1 : addG F b l m c t a (12 * b + 1) = m := by unfold addG; rw [if_neg (by omega), if_neg (by omega), if_pos rfl]
    have a2 : addG F b l m c t a (12 * b + 2) = c := by unfold addG; rw [if_neg (by omega), if_neg (by omega), if_neg (by omega), if_pos rfl]
    have a3 : addG F b l m c t a (12 * b + 3) = t := by unfold addG; rw [if_neg (by omega), if_neg (by omega), if_neg (by omega), if_neg (by omega), if_pos rfl]
    have a4 : addG F b l m c t a (12 * b + 4) = a := by unfold addG; rw [if_neg (by omega), if_neg (by omega), if_neg (by omega), if_neg (by omega), if_neg (by omega), if_pos rfl]
    unfold bkOk
    rw [a0, a1, a2, a3, a4, z 5 (by omega) (by omega), z 6 (by omega) (by omega), z 7 (by omega) (by omega), z 8 (by omega) (by omega), z 9 (by omega) (by omega), z 10 (by omega) (by omega), z 11 (by omega) (by omega)]
    exact ⟨o1, o2, o3, o4, by decide, by decide, by decide, by decide, by decide, by decide, by decide⟩
  · exact (h b (by omega)).cg (fun i g1 g2 => by unfold addG; rw [if_pos (by omega)])
theorem add_old {F : Nat → Int32} {n i : Nat} {l m c t a : Int32} (h : i < 12 * n) : addG F n l m c t a i = F i := by
  unfold addG
  rw [if_pos h]
section
variable (N : Nat) {L c : Nat} {xs : Nat → Int32} {κ : hk_T}
theorem k_book (h : Inv L xs c κ) (hN : 1000 < N) (l m d t a : Int32) : callOk L xs c κ (fX11_book N 0 l m d t a) (fX12_book N 69 l m d t a) := by
  have h0 := h
  obtain ⟨n, nT, nL, nS, T, H⟩ := h0
  have H' := H
  obtain ⟨h1, h2, h3, h4, h5, h8, h9, h10, h11, h12⟩ := H'
  have k3 := h3.hk
  have k1 := k3.1
  have n40 := k1.1.2.1
  have hF := k3.2.2.1
  by_cases v : okNew l m d t a = true
  · by_cases f : n = 40
    · exact callOk.ref h (c_book_y N κ h1 (by rw [k1.1.1, f]) v) (r_book_y N (cRef κ 5) (show hk_A κ 71 480 = n3 40 by rw [k1.1.2.2, f]) v)
    · obtain ⟨κ1, e1, sa, i13, fa, as1, as2, f9, f10, f12, g0⟩ := c_book N κ (l := l) (m := m) (c := d) (t := t) (a := a) (G := hk_A κ 2) h1 k1.1.1 (by omega) hN v (fun _ _ => rfl) (fun i g1 g2 => hF.2.1 i g1 g2)
      have m1 : hk_A κ1 71 = hk_A κ 71 := sa.1 71 (by decide)
      obtain ⟨κ2, e2, sb, j480, fb, fo, g1⟩ := r_book N κ1 (l := l) (m := m) (c := d) (t := t) (a := a) (n := n) (G := hk_A κ 2) (by rw [m1]; exact k1.1.2.2) (by omega) hN v (fun i hi => by rw [m1]; exact hF.1 i hi)
      have s2 : same [2, 25, 71] [(1, 13), (23, 9), (23, 10), (40, 12), (0, 10), (69, 0), (69, 1)] κ κ2 := (sa.weak (by decide) (by decide)).trans (sb.weak (by decide) (by decide))
      have r2 : ∀ i, i < 480 → hk_A κ2 2 i = addG (hk_A κ 2) n l m d t a i := fun i hi => by rw [sb.1 2 (by decide)]; exact fa i hi
      have r25 : hk_A κ2 25 = hk_A κ1 25 := sb.1 25 (by decide)
      have mo : ∀ y, 480 < y → hk_A κ2 71 y = hk_A κ 71 y := fun y hy => by rw [fo y hy, m1]
      have eI : ∀ j, j ≠ 13 → hk_I κ2 1 j = hk_I κ 1 j := fun j hj => s2.2.2.1 1 j (by simp; omega)
      have old : ∀ i, i < 12 * n → hk_A κ2 2 i = hk_A κ 2 i := fun i hi => by rw [r2 i (by omega), add_old hi]
      have ok' := add_ok hF.2.2 v
      refine ⟨n3 n, κ1, κ2, e1, e2, sa.2.2.2.2.2.2.2.2, Inv.acc (n' := n + 1) (nT' := nT) (nL' := nL) (nS' := nS) (T' := T) H s2 (by decide) (by decide) ⟨⟨⟨by rw [sb.2.2.1 1 13 (by decide)]; exact i13, by omega, j480⟩, ?_, ?_, ?_⟩, k3.2.1.r (fun j _ _ => eI j (by omega)) (fun x _ _ => mo x (by omega)), ⟨fun i hi => ?_, fun i g1 g2 => ?_, fun b hb => ?_⟩, k3.2.2.2.1.r (s2.1 3 (by decide)) (s2.1 4 (by decide)) (s2.1 5 (by decide)) (fun x _ _ => mo x (by omega)), k3.2.2.2.2.1.r (s2.1 12 (by decide)) (s2.1 13 (by decide)) (s2.1 14 (by decide)) (fun x _ _ => mo x (by omega)), k3.2.2.2.2.2.1.r k3.1.2.2.1.2.1 (s2.1 7 (by decide)) (s2.1 8 (by decide)) (fun x _ _ => mo x (by omega)), ?_, k3.2.2.2.2.2.2.2.r (s2.1 9 (by decide)) (s2.1 10 (by decide)) (fun x _ _ => mo x (by omega))⟩ (s2.ttq k3.1.2.1.2.1 (fun x _ _ => mo x (by omega)) h4) (s2.sa (by decide) (by decide) (by rw [sb.2.2.1 0 10 (by decide)]; exact g0) g1 h8) ⟨?_, s2.c2 (by decide) h12.2.1, Or.inl (by rw [sb.2.2.1 23 9 (by decide)]; exact f9), Or.inl (by rw [sb.2.2.1 23 10 (by decide)]; exact f10), Or.inl (by rw [sb.2.2.1 40 12 (by decide)]; exact f12), ?_⟩⟩
      · rw [eI 14 (by omega), mo 481 (by omega)]; exact k1.2.1
      · rw [eI 15 (by omega), mo 482 (by omega)]; exact k1.2.2.1
      · rw [eI 16 (by omega), mo 483 (by omega)]; exact k1.2.2.2
      · rw [fb i hi, r2 i (by omega)]
      · rw [r2 i g2]
        unfold addG
        rw [if_neg (by omega), if_neg (by omega), if_neg (by omega), if_neg (by omega), if_neg (by omega), if_neg (by omega)]
      · exact (ok' b hb).cg (fun i g1 g2 => r2 i (by omega))
      · have z := k3.2.2.2.2.2.2.1.r (M' := hk_A κ2 71) (A' := hk_A κ2 11) k1.2.2.2.2.1 (s2.1 11 (by decide)) (fun x _ _ => mo x (by omega))
        refine ⟨fun i hi => ?_, z.2⟩
        obtain ⟨q, q1, q2⟩ := z.1 i hi
        exact ⟨q, by omega, q2⟩
      · intro t' b' ht hb ne
        have t8 := k1.2.1.2.1
        rw [r25] at ne
        by_cases e : b' = n
        · subst e
          exact absurd (as1 t' (by omega)) ne
        · rw [s2.1 24 (by decide), fx_cg (F := hk_A κ 2) (b := b') (fun i g1 g2 => old i (by omega))]
          rw [as2 _ (fun t'' _ z => by omega)] at ne
          exact h12.1 t' b' ht (by omega) ne
      · rcases h12.2.2.2.2.2 with z | ⟨z1, z2⟩
        · exact Or.inl (by rw [s2.2.2.1 61 4 (by decide)]; exact z)
        · refine Or.inr ⟨by rw [s2.2.2.1 61 4 (by decide)]; exact z1, ?_⟩
          rw [s2.1 11 (by decide)]
          refine z2.facts (s2.2.2.1 61 6 (by decide)) (s2.1 65 (by decide)) (fun i hi => ?_)
          have zl := zF_lt k3.2.2.2.2.2.2.1 n40 hi
          exact ⟨old _ (by omega), old _ (by omega)⟩
  · exact callOk.ref h (c_book_x N κ h1 v) (r_book_x N _ v)
theorem k_mark (h : Inv L xs c κ) (hN : 1000 < N) (b l m : Int32) : callOk L xs c κ (fX11_mark N 0 b l m) (fX12_mark N 69 b l m) := by
  have h0 := h
  obtain ⟨n, nT, nL, nS, T, H⟩ := h0
  have H' := H
  obtain ⟨h1, h2, h3, h4, h5, h8, h9, h10, h11, h12⟩ := H'
  have k3 := h3.hk
  have k1 := k3.1
  have n40 := k1.1.2.1
  have hF := k3.2.2.1
  by_cases v : markV l m = true
  · by_cases f : vIn 0 (n - 1) b = true
    · obtain ⟨b, bb, rfl⟩ := vB f
      obtain ⟨κ1, e1, sa, fa0, fa1, fao, as1, as2, f9, f10, f12, g0⟩ := c_mark N κ (b := b) (l := l) (m := m) h1 k1.1.1 n40 v bb hN
      have m1 : hk_A κ1 71 = hk_A κ 71 := sa.1 71 (by decide)
      have e2 := r_mark N κ1 (n := n) (b := b) (l := l) (m := m) (by rw [m1]; exact k1.1.2.2) n40 v bb
      obtain ⟨κ2, q2⟩ : ∃ κ2, κ2 = hk_wI (hk_wA (hk_wA (hk_wI κ1 69 0 (n3 0)) 71 (12 * b) l) 71 (12 * b + 1) m) 69 1 (n3 0) := ⟨_, rfl⟩
      rw [← q2] at e2
      have sb : same [71] [(69, 0), (69, 1)] κ1 κ2 := by
        rw [q2]
        exact ((((same.refl _ _ _).wI (by decide)).wA (by decide)).wA (by decide)).wI (by decide)
      have s2 : same [2, 25, 71] [(23, 9), (23, 10), (40, 12), (0, 10), (69, 0), (69, 1)] κ κ2 := (sa.weak (by decide) (by decide)).trans (sb.weak (by decide) (by decide))
      have r2 : hk_A κ2 2 = hk_A κ1 2 := sb.1 2 (by decide)
      have r25 : hk_A κ2 25 = hk_A κ1 25 := sb.1 25 (by decide)
      have m2 : ∀ y, hk_A κ2 71 y = if y = 12 * b + 1 then m else if y = 12 * b then l else hk_A κ 71 y := fun y => by rw [q2, A_wI, A_at, A_at, A_wI, m1]
      have mo : ∀ y, 480 ≤ y → hk_A κ2 71 y = hk_A κ 71 y := fun y hy => by rw [m2, if_neg (by omega), if_neg (by omega)]
      have eI := s2.i1 (by decide)
      have old : ∀ i, i ≠ 12 * b → i ≠ 12 * b + 1 → hk_A κ2 2 i = hk_A κ 2 i := fun i g1 g2 => by rw [r2]; exact fao i g1 g2
      have oldM : ∀ i, i ≠ 12 * b → i ≠ 12 * b + 1 → hk_A κ2 71 i = hk_A κ 71 i := fun i g1 g2 => by rw [m2, if_neg g2, if_neg g1]
      refine ⟨n3 0, κ1, κ2, e1, e2, sa.2.2.2.2.2.2.2.2, Inv.acc (n' := n) (nT' := nT) (nL' := nL) (nS' := nS) (T' := T) H s2 (by decide) (by decide) ⟨k3.1.r (fun j _ _ => eI j) (fun x _ _ => mo x (by omega)), k3.2.1.r (fun j _ _ => eI j) (fun x _ _ => mo x (by omega)), ⟨fun i hi => ?_, fun i g1 g2 => ?_, fun b' hb => ?_⟩, k3.2.2.2.1.r (s2.1 3 (by decide)) (s2.1 4 (by decide)) (s2.1 5 (by decide)) (fun x _ _ => mo x (by omega)), k3.2.2.2.2.1.r (s2.1 12 (by decide)) (s2.1 13 (by decide)) (s2.1 14 (by decide)) (fun x _ _ => mo x (by omega)), k3.2.2.2.2.2.1.r k3.1.2.2.1.2.1 (s2.1 7 (by decide)) (s2.1 8 (by decide)) (fun x _ _ => mo x (by omega)), k3.2.2.2.2.2.2.1.r k3.1.2.2.2.2.1 (s2.1 11 (by decide)) (fun x _ _ => mo x (by omega)), k3.2.2.2.2.2.2.2.r (s2.1 9 (by decide)) (s2.1 10 (by decide)) (fun x _ _ => mo x (by omega))⟩ (s2.ttq k3.1.2.1.2.1 (fun x _ _ => mo x (by omega)) h4) (s2.sa (by decide) (by decide) (by rw [sb.2.2.1 0 10 (by decide)]; exact g0) (by rw [q2, I_eq]) h8) ⟨?_, s2.c2 (by decide) h12.2.1, Or.inl (by rw [sb.2.2.1 23 9 (by decide)]; exact f9), Or.inl (by rw [sb.2.2.1 23 10 (by decide)]; exact f10), Or.inl (by rw [sb.2.2.1 40 12 (by decide)]; exact f12), ?_⟩⟩
      · by_cases c0 : i = 12 * b
        · rw [c0, m2, if_neg (by omega), if_pos rfl, r2, fa0]
        · by_cases c1 : i = 12 * b + 1
          · rw [c1, m2, if_pos rfl, r2, fa1]
          · rw [old i c0 c1, oldM i c0 c1]
            exact hF.1 i hi
      · rw [old i (by omega) (by omega)]
        exact hF.2.1 i g1 g2
      · by_cases e : b' = b
        · subst e
          have k := hF.2.2 b' bb
          unfold bkOk at k ⊢
          rw [r2, fa0, fa1, fao _ (by omega) (by omega), fao _ (by omega) (by omega), fao _ (by omega) (by omega), fao _ (by omega) (by omega), fao _ (by omega) (by omega), fao _ (by omega) (by omega), fao _ (by omega) (by omega), fao _ (by omega) (by omega), fao _ (by omega) (by omega), fao _ (by omega) (by omega)]
          exact ⟨v, k.2⟩
        · exact (hF.2.2 b' hb).cg (fun i g1 g2 => old i (by omega) (by omega))
      · intro t' b' ht hb ne
        have t8 := k1.2.1.2.1
        rw [r25] at ne
        by_cases e : b' = b
        · subst e
          exact absurd (as1 t' (by omega)) ne
        · rw [s2.1 24 (by decide), fx_cg (F := hk_A κ 2) (b := b') (fun i g1 g2 => old i (by omega) (by omega))]
          rw [as2 _ (fun t'' _ z => by omega)] at ne
          exact h12.1 t' b' ht hb ne
      · rcases h12.2.2.2.2.2 with z | ⟨z1, z2⟩
        · exact Or.inl (by rw [s2.2.2.1 61 4 (by decide)]; exact z)
        · refine Or.inr ⟨by rw [s2.2.2.1 61 4 (by decide)]; exact z1, ?_⟩
          rw [s2.1 11 (by decide)]
          exact z2.facts (s2.2.2.1 61 6 (by decide)) (s2.1 65 (by decide)) (fun i hi => ⟨old _ (by omega) (by omega), old _ (by omega) (by omega)⟩)
    · exact callOk.ref h (c_mark_y N κ h1 k1.1.1 n40 v f) (r_mark_y N (cRef κ 2) k1.1.2.2 n40 v f)
  · exact callOk.ref h (c_mark_x N κ h1 v) (r_mark_x N _ v)
end
