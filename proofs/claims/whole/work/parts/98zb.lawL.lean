/-! the law: one call after another -/
theorem lw_xI {L k : Nat} {xs : Nat → Int32} {κ : hk_T} (hx : hk_x κ = ra_ex0 L xs) (hL : L ≤ 3072) (h : k < L) : ra_xI (hp κ) 0 (n3 k) = some (xs k) := by
  have e : ∀ i, ra_xI (hp κ) 0 i = (if i < 0 ∨ (hk_x κ 0).1 ≤ i.toNatClampNeg then none else some ((hk_x κ 0).2 i.toNatClampNeg)) := fun _ => rfl
  rw [e, hx]
  show (if n3 k < 0 ∨ L ≤ (n3 k).toNatClampNeg then none else some (xs (n3 k).toNatClampNeg)) = _
  rw [if_neg (ix3 h (by omega)), n3_cl (by omega)]
theorem lw_xL {L : Nat} {xs : Nat → Int32} {κ : hk_T} (hx : hk_x κ = ra_ex0 L xs) : ra_xL (hp κ) 0 = some (n3 L) := by
  have e : ra_xL (hp κ) 0 = some (Int32.ofNat (hk_x κ 0).1) := rfl
  rw [e, hx]
  rfl
theorem lw_ad {i : Nat} : n3 i + (1 : Int32) = n3 (i + 1) ∧ n3 i + (2 : Int32) = n3 (i + 2) ∧ n3 i + (3 : Int32) = n3 (i + 3) ∧ n3 i + (4 : Int32) = n3 (i + 4) ∧ n3 i + (5 : Int32) = n3 (i + 5) ∧ n3 i + (6 : Int32) = n3 (i + 6) := ⟨n3_add _ 1, n3_add _ 2, n3_add _ 3, n3_add _ 4, n3_add _ 5, n3_add _ 6⟩
section
variable (N : Nat) {L c i : Nat} {xs : Nat → Int32} {κ : hk_T}
theorem Inv.xx (h : Inv L xs c κ) : hk_x κ = ra_ex0 L xs := by
  obtain ⟨n, nT, nL, nS, T, h1, -⟩ := h
  exact h1
theorem lw_252 (cs : UInt32 → Nat → Nat → Int32 → ra_H → Option (Int32 × ra_H)) (h : Inv L xs c κ) (hL : L ≤ 3072) (hi : i + 6 ≤ L) (hc : c < 3990) (hN : 100000 < N) : ∃ κ2, nL_law_252 N cs 0 0 69 (n3 i) (hp κ) = cs 0 0 69 (n3 (i + 6)) (hp κ2) ∧ Inv L xs (c + 1) κ2 := by
  obtain ⟨v, κ1, κ2, e1, e2, hx1, g⟩ := k_book N h (by omega) (xs (i + 1)) (xs (i + 2)) (xs (i + 3)) (xs (i + 4)) (xs (i + 5))
  have hx := h.xx
  have hx1 := hx1.trans hx
  refine ⟨κ2, ?_, g⟩
  have x1 : ∀ κ, hk_x κ = ra_ex0 L xs → ra_xI (hp κ) 0 (n3 (i + 1)) = some (xs (i + 1)) := fun κ hx => lw_xI hx hL (by omega)
  have x2 : ∀ κ, hk_x κ = ra_ex0 L xs → ra_xI (hp κ) 0 (n3 (i + 2)) = some (xs (i + 2)) := fun κ hx => lw_xI hx hL (by omega)
  have x3 : ∀ κ, hk_x κ = ra_ex0 L xs → ra_xI (hp κ) 0 (n3 (i + 3)) = some (xs (i + 3)) := fun κ hx => lw_xI hx hL (by omega)
  have x4 : ∀ κ, hk_x κ = ra_ex0 L xs → ra_xI (hp κ) 0 (n3 (i + 4)) = some (xs (i + 4)) := fun κ hx => lw_xI hx hL (by omega)
  have x5 : ∀ κ, hk_x κ = ra_ex0 L xs → ra_xI (hp κ) 0 (n3 (i + 5)) = some (xs (i + 5)) := fun κ hx => lw_xI hx hL (by omega)
  simp only [nL_law_252, lw_ad, x1 κ hx, x1 κ1 hx1, x2 κ hx, x2 κ1 hx1, x3 κ hx, x3 κ1 hx1, x4 κ hx, x4 κ1 hx1, x5 κ hx, x5 κ1 hx1, Option.bind_some, e1, e2, if_true, nL_law_1935]
theorem lw_315 (cs : UInt32 → Nat → Nat → Int32 → ra_H → Option (Int32 × ra_H)) (h : Inv L xs c κ) (hL : L ≤ 3072) (hi : i + 6 ≤ L) (hc : c < 3990) (hN : 100000 < N) : ∃ κ2, nL_law_315 N cs 0 0 69 (n3 i) (hp κ) = cs 0 0 69 (n3 (i + 6)) (hp κ2) ∧ Inv L xs (c + 1) κ2 := by
  obtain ⟨v, κ1, κ2, e1, e2, hx1, g⟩ := k_fact N h (by omega) (xs (i + 1)) (xs (i + 2)) (xs (i + 3))
  have hx := h.xx
  have hx1 := hx1.trans hx
  refine ⟨κ2, ?_, g⟩
  have x1 : ∀ κ, hk_x κ = ra_ex0 L xs → ra_xI (hp κ) 0 (n3 (i + 1)) = some (xs (i + 1)) := fun κ hx => lw_xI hx hL (by omega)
  have x2 : ∀ κ, hk_x κ = ra_ex0 L xs → ra_xI (hp κ) 0 (n3 (i + 2)) = some (xs (i + 2)) := fun κ hx => lw_xI hx hL (by omega)
  have x3 : ∀ κ, hk_x κ = ra_ex0 L xs → ra_xI (hp κ) 0 (n3 (i + 3)) = some (xs (i + 3)) := fun κ hx => lw_xI hx hL (by omega)
  simp only [nL_law_315, lw_ad, x1 κ hx, x1 κ1 hx1, x2 κ hx, x2 κ1 hx1, x3 κ hx, x3 κ1 hx1, Option.bind_some, e1, e2, if_true, nL_law_1935]
theorem lw_358 (cs : UInt32 → Nat → Nat → Int32 → ra_H → Option (Int32 × ra_H)) (h : Inv L xs c κ) (hL : L ≤ 3072) (hi : i + 6 ≤ L) (hc : c < 3990) (hN : 100000 < N) : ∃ κ2, nL_law_358 N cs 0 0 69 (n3 i) (hp κ) = cs 0 0 69 (n3 (i + 6)) (hp κ2) ∧ Inv L xs (c + 1) κ2 := by
  obtain ⟨v, κ1, κ2, e1, e2, hx1, g⟩ := k_mark N h (by omega) (xs (i + 1)) (xs (i + 2)) (xs (i + 3))
  have hx := h.xx
  have hx1 := hx1.trans hx
  refine ⟨κ2, ?_, g⟩
  have x1 : ∀ κ, hk_x κ = ra_ex0 L xs → ra_xI (hp κ) 0 (n3 (i + 1)) = some (xs (i + 1)) := fun κ hx => lw_xI hx hL (by omega)
  have x2 : ∀ κ, hk_x κ = ra_ex0 L xs → ra_xI (hp κ) 0 (n3 (i + 2)) = some (xs (i + 2)) := fun κ hx => lw_xI hx hL (by omega)
  have x3 : ∀ κ, hk_x κ = ra_ex0 L xs → ra_xI (hp κ) 0 (n3 (i + 3)) = some (xs (i + 3)) := fun κ hx => lw_xI hx hL (by omega)
  simp only [nL_law_358, lw_ad, x1 κ hx, x1 κ1 hx1, x2 κ hx, x2 κ1 hx1, x3 κ hx, x3 κ1 hx1, Option.bind_some, e1, e2, if_true, nL_law_1935]
theorem lw_401 (cs : UInt32 → Nat → Nat → Int32 → ra_H → Option (Int32 × ra_H)) (h : Inv L xs c κ) (hL : L ≤ 3072) (hi : i + 6 ≤ L) (hc : c < 3990) (hN : 100000 < N) : ∃ κ2, nL_law_401 N cs 0 0 69 (n3 i) (hp κ) = cs 0 0 69 (n3 (i + 6)) (hp κ2) ∧ Inv L xs (c + 1) κ2 := by
  obtain ⟨v, κ1, κ2, e1, e2, hx1, g⟩ := k_of N h  (xs (i + 1)) (xs (i + 2))
  have hx := h.xx
  have hx1 := hx1.trans hx
  refine ⟨κ2, ?_, g⟩
  have x1 : ∀ κ, hk_x κ = ra_ex0 L xs → ra_xI (hp κ) 0 (n3 (i + 1)) = some (xs (i + 1)) := fun κ hx => lw_xI hx hL (by omega)
  have x2 : ∀ κ, hk_x κ = ra_ex0 L xs → ra_xI (hp κ) 0 (n3 (i + 2)) = some (xs (i + 2)) := fun κ hx => lw_xI hx hL (by omega)
  simp only [nL_law_401, lw_ad, x1 κ hx, x1 κ1 hx1, x2 κ hx, x2 κ1 hx1, Option.bind_some, e1, e2, if_true, nL_law_1935]
theorem lw_434 (cs : UInt32 → Nat → Nat → Int32 → ra_H → Option (Int32 × ra_H)) (h : Inv L xs c κ) (hL : L ≤ 3072) (hi : i + 6 ≤ L) (hc : c < 3990) (hN : 100000 < N) : ∃ κ2, nL_law_434 N cs 0 0 69 (n3 i) (hp κ) = cs 0 0 69 (n3 (i + 6)) (hp κ2) ∧ Inv L xs (c + 1) κ2 := by
  obtain ⟨v, κ1, κ2, e1, e2, hx1, g⟩ := k_bay N h  (xs (i + 1)) (xs (i + 2))
  have hx := h.xx
  have hx1 := hx1.trans hx
  refine ⟨κ2, ?_, g⟩
  have x1 : ∀ κ, hk_x κ = ra_ex0 L xs → ra_xI (hp κ) 0 (n3 (i + 1)) = some (xs (i + 1)) := fun κ hx => lw_xI hx hL (by omega)
  have x2 : ∀ κ, hk_x κ = ra_ex0 L xs → ra_xI (hp κ) 0 (n3 (i + 2)) = some (xs (i + 2)) := fun κ hx => lw_xI hx hL (by omega)
  simp only [nL_law_434, lw_ad, x1 κ hx, x1 κ1 hx1, x2 κ hx, x2 κ1 hx1, Option.bind_some, e1, e2, if_true, nL_law_1935]
theorem lw_467 (cs : UInt32 → Nat → Nat → Int32 → ra_H → Option (Int32 × ra_H)) (h : Inv L xs c κ) (hL : L ≤ 3072) (hi : i + 6 ≤ L) (hc : c < 3990) (hN : 100000 < N) : ∃ κ2, nL_law_467 N cs 0 0 69 (n3 i) (hp κ) = cs 0 0 69 (n3 (i + 6)) (hp κ2) ∧ Inv L xs (c + 1) κ2 := by
  obtain ⟨v, κ1, κ2, e1, e2, hx1, g⟩ := k_shelf N h  (xs (i + 1)) (xs (i + 2)) (xs (i + 3)) (xs (i + 4))
  have hx := h.xx
  have hx1 := hx1.trans hx
  refine ⟨κ2, ?_, g⟩
  have x1 : ∀ κ, hk_x κ = ra_ex0 L xs → ra_xI (hp κ) 0 (n3 (i + 1)) = some (xs (i + 1)) := fun κ hx => lw_xI hx hL (by omega)
  have x2 : ∀ κ, hk_x κ = ra_ex0 L xs → ra_xI (hp κ) 0 (n3 (i + 2)) = some (xs (i + 2)) := fun κ hx => lw_xI hx hL (by omega)
  have x3 : ∀ κ, hk_x κ = ra_ex0 L xs → ra_xI (hp κ) 0 (n3 (i + 3)) = some (xs (i + 3)) := fun κ hx => lw_xI hx hL (by omega)
  have x4 : ∀ κ, hk_x κ = ra_ex0 L xs → ra_xI (hp κ) 0 (n3 (i + 4)) = some (xs (i + 4)) := fun κ hx => lw_xI hx hL (by omega)
  simp only [nL_law_467, lw_ad, x1 κ hx, x1 κ1 hx1, x2 κ hx, x2 κ1 hx1, x3 κ hx, x3 κ1 hx1, x4 κ hx, x4 κ1 hx1, Option.bind_some, e1, e2, if_true, nL_law_1935]
theorem lw_520 (cs : UInt32 → Nat → Nat → Int32 → ra_H → Option (Int32 × ra_H)) (h : Inv L xs c κ) (hL : L ≤ 3072) (hi : i + 6 ≤ L) (hc : c < 3990) (hN : 100000 < N) : ∃ κ2, nL_law_520 N cs 0 0 69 (n3 i) (hp κ) = cs 0 0 69 (n3 (i + 6)) (hp κ2) ∧ Inv L xs (c + 1) κ2 := by
  obtain ⟨v, κ1, κ2, e1, e2, hx1, g⟩ := k_feed N h (by omega) (xs (i + 1)) (xs (i + 2)) (xs (i + 3)) (xs (i + 4)) (xs (i + 5))
  have hx := h.xx
  have hx1 := hx1.trans hx
  refine ⟨κ2, ?_, g⟩
  have x1 : ∀ κ, hk_x κ = ra_ex0 L xs → ra_xI (hp κ) 0 (n3 (i + 1)) = some (xs (i + 1)) := fun κ hx => lw_xI hx hL (by omega)
  have x2 : ∀ κ, hk_x κ = ra_ex0 L xs → ra_xI (hp κ) 0 (n3 (i + 2)) = some (xs (i + 2)) := fun κ hx => lw_xI hx hL (by omega)
  have x3 : ∀ κ, hk_x κ = ra_ex0 L xs → ra_xI (hp κ) 0 (n3 (i + 3)) = some (xs (i + 3)) := fun κ hx => lw_xI hx hL (by omega)
  have x4 : ∀ κ, hk_x κ = ra_ex0 L xs → ra_xI (hp κ) 0 (n3 (i + 4)) = some (xs (i + 4)) := fun κ hx => lw_xI hx hL (by omega)
  have x5 : ∀ κ, hk_x κ = ra_ex0 L xs → ra_xI (hp κ) 0 (n3 (i + 5)) = some (xs (i + 5)) := fun κ hx => lw_xI hx hL (by omega)
  simp only [nL_law_520, lw_ad, x1 κ hx, x1 κ1 hx1, x2 κ hx, x2 κ1 hx1, x3 κ hx, x3 κ1 hx1, x4 κ hx, x4 κ1 hx1, x5 κ hx, x5 κ1 hx1, Option.bind_some, e1, e2, if_true, nL_law_1935]
theorem lw_583 (cs : UInt32 → Nat → Nat → Int32 → ra_H → Option (Int32 × ra_H)) (h : Inv L xs c κ) (hL : L ≤ 3072) (hi : i + 6 ≤ L) (hc : c < 3990) (hN : 100000 < N) : ∃ κ2, nL_law_583 N cs 0 0 69 (n3 i) (hp κ) = cs 0 0 69 (n3 (i + 6)) (hp κ2) ∧ Inv L xs (c + 1) κ2 := by
  obtain ⟨v, κ1, κ2, e1, e2, hx1, g⟩ := k_end N h  (xs (i + 1))
  have hx := h.xx
  have hx1 := hx1.trans hx
  refine ⟨κ2, ?_, g⟩
  have x1 : ∀ κ, hk_x κ = ra_ex0 L xs → ra_xI (hp κ) 0 (n3 (i + 1)) = some (xs (i + 1)) := fun κ hx => lw_xI hx hL (by omega)
  simp only [nL_law_583, lw_ad, x1 κ hx, x1 κ1 hx1, Option.bind_some, e1, e2, if_true, nL_law_1935]
theorem lw_606 (cs : UInt32 → Nat → Nat → Int32 → ra_H → Option (Int32 × ra_H)) (h : Inv L xs c κ) (hL : L ≤ 3072) (hi : i + 6 ≤ L) (hc : c < 3990) (hN : 100000 < N) : ∃ κ2, nL_law_606 N cs 0 0 69 (n3 i) (hp κ) = cs 0 0 69 (n3 (i + 6)) (hp κ2) ∧ Inv L xs (c + 1) κ2 := by
  obtain ⟨v, κ1, κ2, e1, e2, hx1, g⟩ := k_row N h (by omega) 
  have hx := h.xx
  have hx1 := hx1.trans hx
  refine ⟨κ2, ?_, g⟩
  simp only [nL_law_606, lw_ad, Option.bind_some, e1, e2, if_true, nL_law_1935]
theorem lw_619 (cs : UInt32 → Nat → Nat → Int32 → ra_H → Option (Int32 × ra_H)) (h : Inv L xs c κ) (hL : L ≤ 3072) (hi : i + 6 ≤ L) (hc : c < 3990) (hN : 100000 < N) : ∃ κ2, nL_law_619 N cs 0 0 69 (n3 i) (hp κ) = cs 0 0 69 (n3 (i + 6)) (hp κ2) ∧ Inv L xs (c + 1) κ2 := by
  obtain ⟨v, κ1, κ2, e1, e2, hx1, g⟩ := k_rebound N h  
  have hx := h.xx
  have hx1 := hx1.trans hx
  refine ⟨κ2, ?_, g⟩
  simp only [nL_law_619, lw_ad, Option.bind_some, e1, e2, if_true, nL_law_1935]
theorem lw_632 (cs : UInt32 → Nat → Nat → Int32 → ra_H → Option (Int32 × ra_H)) (h : Inv L xs c κ) (hL : L ≤ 3072) (hi : i + 6 ≤ L) (hc : c < 3990) (hN : 100000 < N) : ∃ κ2, nL_law_632 N cs 0 0 69 (n3 i) (hp κ) = cs 0 0 69 (n3 (i + 6)) (hp κ2) ∧ Inv L xs (c + 1) κ2 := by
  obtain ⟨v, κ1, κ2, e1, e2, hx1, g⟩ := k_text N h (by omega) 
  have hx := h.xx
  have hx1 := hx1.trans hx
  refine ⟨κ2, ?_, g⟩
  simp only [nL_law_632, lw_ad, Option.bind_some, e1, e2, if_true, nL_law_1935]
theorem lw_645 (cs : UInt32 → Nat → Nat → Int32 → ra_H → Option (Int32 × ra_H)) (h : Inv L xs c κ) (hL : L ≤ 3072) (hi : i + 6 ≤ L) (hc : c < 3990) (hN : 100000 < N) : ∃ κ2, nL_law_645 N cs 0 0 69 (n3 i) (hp κ) = cs 0 0 69 (n3 (i + 6)) (hp κ2) ∧ Inv L xs (c + 1) κ2 := by
  obtain ⟨v, κ1, κ2, e1, e2, hx1, g⟩ := k_fault N h  
  have hx := h.xx
  have hx1 := hx1.trans hx
  refine ⟨κ2, ?_, g⟩
  simp only [nL_law_645, lw_ad, Option.bind_some, e1, e2, if_true, nL_law_1935]
theorem lw_658 (cs : UInt32 → Nat → Nat → Int32 → ra_H → Option (Int32 × ra_H)) (h : Inv L xs c κ) (hL : L ≤ 3072) (hi : i + 6 ≤ L) (hc : c < 3990) (hN : 100000 < N) : ∃ κ2, nL_law_658 N cs 0 0 69 (n3 i) (hp κ) = cs 0 0 69 (n3 (i + 6)) (hp κ2) ∧ Inv L xs (c + 1) κ2 := by
  obtain ⟨v, κ1, κ2, e1, e2, hx1, g⟩ := k_seat N h (by omega) (xs (i + 1)) (xs (i + 2)) (xs (i + 3))
  have hx := h.xx
  have hx1 := hx1.trans hx
  refine ⟨κ2, ?_, g⟩
  have x1 : ∀ κ, hk_x κ = ra_ex0 L xs → ra_xI (hp κ) 0 (n3 (i + 1)) = some (xs (i + 1)) := fun κ hx => lw_xI hx hL (by omega)
  have x2 : ∀ κ, hk_x κ = ra_ex0 L xs → ra_xI (hp κ) 0 (n3 (i + 2)) = some (xs (i + 2)) := fun κ hx => lw_xI hx hL (by omega)
  have x3 : ∀ κ, hk_x κ = ra_ex0 L xs → ra_xI (hp κ) 0 (n3 (i + 3)) = some (xs (i + 3)) := fun κ hx => lw_xI hx hL (by omega)
  simp only [nL_law_658, lw_ad, x1 κ hx, x1 κ1 hx1, x2 κ hx, x2 κ1 hx1, x3 κ hx, x3 κ1 hx1, Option.bind_some, e1, e2, if_true, nL_law_1935]
theorem lw_701 (cs : UInt32 → Nat → Nat → Int32 → ra_H → Option (Int32 × ra_H)) (h : Inv L xs c κ) (hL : L ≤ 3072) (hi : i + 6 ≤ L) (hc : c < 3990) (hN : 100000 < N) : ∃ κ2, nL_law_701 N cs 0 0 69 (n3 i) (hp κ) = cs 0 0 69 (n3 (i + 6)) (hp κ2) ∧ Inv L xs (c + 1) κ2 := by
  obtain ⟨v, κ1, κ2, e1, e2, hx1, g⟩ := k_stand N h (by omega) (by omega) (xs (i + 1)) (xs (i + 2)) (xs (i + 3))
  have hx := h.xx
  have hx1 := hx1.trans hx
  refine ⟨κ2, ?_, g⟩
  have x1 : ∀ κ, hk_x κ = ra_ex0 L xs → ra_xI (hp κ) 0 (n3 (i + 1)) = some (xs (i + 1)) := fun κ hx => lw_xI hx hL (by omega)
  have x2 : ∀ κ, hk_x κ = ra_ex0 L xs → ra_xI (hp κ) 0 (n3 (i + 2)) = some (xs (i + 2)) := fun κ hx => lw_xI hx hL (by omega)
  have x3 : ∀ κ, hk_x κ = ra_ex0 L xs → ra_xI (hp κ) 0 (n3 (i + 3)) = some (xs (i + 3)) := fun κ hx => lw_xI hx hL (by omega)
  simp only [nL_law_701, lw_ad, x1 κ hx, x1 κ1 hx1, x2 κ hx, x2 κ1 hx1, x3 κ hx, x3 κ1 hx1, Option.bind_some, e1, e2, if_true, nL_law_1935]
theorem lw_744 (cs : UInt32 → Nat → Nat → Int32 → ra_H → Option (Int32 × ra_H)) (h : Inv L xs c κ) (hL : L ≤ 3072) (hi : i + 6 ≤ L) (hc : c < 3990) (hN : 100000 < N) : ∃ κ2, nL_law_744 N cs 0 0 69 (n3 i) (hp κ) = cs 0 0 69 (n3 (i + 6)) (hp κ2) ∧ Inv L xs (c + 1) κ2 := by
  obtain ⟨v, κ1, κ2, e1, e2, hx1, g⟩ := k_best N h (by omega) (by omega) (xs (i + 1))
  have hx := h.xx
  have hx1 := hx1.trans hx
  refine ⟨κ2, ?_, g⟩
  have x1 : ∀ κ, hk_x κ = ra_ex0 L xs → ra_xI (hp κ) 0 (n3 (i + 1)) = some (xs (i + 1)) := fun κ hx => lw_xI hx hL (by omega)
  simp only [nL_law_744, lw_ad, x1 κ hx, x1 κ1 hx1, Option.bind_some, e1, e2, if_true, nL_law_1935]
theorem lw_767 (cs : UInt32 → Nat → Nat → Int32 → ra_H → Option (Int32 × ra_H)) (h : Inv L xs c κ) (hL : L ≤ 3072) (hi : i + 6 ≤ L) (hc : c < 3990) (hN : 100000 < N) : ∃ κ2, nL_law_767 N cs 0 0 69 (n3 i) (hp κ) = cs 0 0 69 (n3 (i + 6)) (hp κ2) ∧ Inv L xs (c + 1) κ2 := by
  obtain ⟨v, κ1, κ2, e1, e2, hx1, g⟩ := k_keep N h (by omega) (by omega) (xs (i + 1)) (xs (i + 2)) (xs (i + 3))
  have hx := h.xx
  have hx1 := hx1.trans hx
  refine ⟨κ2, ?_, g⟩
  have x1 : ∀ κ, hk_x κ = ra_ex0 L xs → ra_xI (hp κ) 0 (n3 (i + 1)) = some (xs (i + 1)) := fun κ hx => lw_xI hx hL (by omega)
  have x2 : ∀ κ, hk_x κ = ra_ex0 L xs → ra_xI (hp κ) 0 (n3 (i + 2)) = some (xs (i + 2)) := fun κ hx => lw_xI hx hL (by omega)
  have x3 : ∀ κ, hk_x κ = ra_ex0 L xs → ra_xI (hp κ) 0 (n3 (i + 3)) = some (xs (i + 3)) := fun κ hx => lw_xI hx hL (by omega)
  simp only [nL_law_767, lw_ad, x1 κ hx, x1 κ1 hx1, x2 κ hx, x2 κ1 hx1, x3 κ hx, x3 κ1 hx1, Option.bind_some, e1, e2, if_true, nL_law_1935]
theorem lw_810 (cs : UInt32 → Nat → Nat → Int32 → ra_H → Option (Int32 × ra_H)) (h : Inv L xs c κ) (hL : L ≤ 3072) (hi : i + 6 ≤ L) (hc : c < 3990) (hN : 100000 < N) : ∃ κ2, nL_law_810 N cs 0 0 69 (n3 i) (hp κ) = cs 0 0 69 (n3 (i + 6)) (hp κ2) ∧ Inv L xs (c + 1) κ2 := by
  obtain ⟨v, κ1, κ2, e1, e2, hx1, g⟩ := k_how N h (by omega) (by omega) (xs (i + 1))
  have hx := h.xx
  have hx1 := hx1.trans hx
  refine ⟨κ2, ?_, g⟩
  have x1 : ∀ κ, hk_x κ = ra_ex0 L xs → ra_xI (hp κ) 0 (n3 (i + 1)) = some (xs (i + 1)) := fun κ hx => lw_xI hx hL (by omega)
  simp only [nL_law_810, lw_ad, x1 κ hx, x1 κ1 hx1, Option.bind_some, e1, e2, if_true, nL_law_1935]
theorem lw_833 (cs : UInt32 → Nat → Nat → Int32 → ra_H → Option (Int32 × ra_H)) (h : Inv L xs c κ) (hL : L ≤ 3072) (hi : i + 6 ≤ L) (hc : c < 3990) (hN : 100000 < N) : ∃ κ2, nL_law_833 N cs 0 0 69 (n3 i) (hp κ) = cs 0 0 69 (n3 (i + 6)) (hp κ2) ∧ Inv L xs (c + 1) κ2 := by
  obtain ⟨v, κ1, κ2, e1, e2, hx1, g⟩ := k_on N h (by omega) (by omega) (xs (i + 1)) (xs (i + 2)) (xs (i + 3))
  have hx := h.xx
  have hx1 := hx1.trans hx
  refine ⟨κ2, ?_, g⟩
  have x1 : ∀ κ, hk_x κ = ra_ex0 L xs → ra_xI (hp κ) 0 (n3 (i + 1)) = some (xs (i + 1)) := fun κ hx => lw_xI hx hL (by omega)
  have x2 : ∀ κ, hk_x κ = ra_ex0 L xs → ra_xI (hp κ) 0 (n3 (i + 2)) = some (xs (i + 2)) := fun κ hx => lw_xI hx hL (by omega)
  have x3 : ∀ κ, hk_x κ = ra_ex0 L xs → ra_xI (hp κ) 0 (n3 (i + 3)) = some (xs (i + 3)) := fun κ hx => lw_xI hx hL (by omega)
  simp only [nL_law_833, lw_ad, x1 κ hx, x1 κ1 hx1, x2 κ hx, x2 κ1 hx1, x3 κ hx, x3 κ1 hx1, Option.bind_some, e1, e2, if_true, nL_law_1935]
theorem lw_876 (cs : UInt32 → Nat → Nat → Int32 → ra_H → Option (Int32 × ra_H)) (h : Inv L xs c κ) (hL : L ≤ 3072) (hi : i + 6 ≤ L) (hc : c < 3990) (hN : 100000 < N) : ∃ κ2, nL_law_876 N cs 0 0 69 (n3 i) (hp κ) = cs 0 0 69 (n3 (i + 6)) (hp κ2) ∧ Inv L xs (c + 1) κ2 := by
  obtain ⟨v, κ1, κ2, e1, e2, hx1, g⟩ := k_free N h (by omega) (by omega) (xs (i + 1)) (xs (i + 2))
  have hx := h.xx
  have hx1 := hx1.trans hx
  refine ⟨κ2, ?_, g⟩
  have x1 : ∀ κ, hk_x κ = ra_ex0 L xs → ra_xI (hp κ) 0 (n3 (i + 1)) = some (xs (i + 1)) := fun κ hx => lw_xI hx hL (by omega)
  have x2 : ∀ κ, hk_x κ = ra_ex0 L xs → ra_xI (hp κ) 0 (n3 (i + 2)) = some (xs (i + 2)) := fun κ hx => lw_xI hx hL (by omega)
  simp only [nL_law_876, lw_ad, x1 κ hx, x1 κ1 hx1, x2 κ hx, x2 κ1 hx1, Option.bind_some, e1, e2, if_true, nL_law_1935]
theorem lw_909 (cs : UInt32 → Nat → Nat → Int32 → ra_H → Option (Int32 × ra_H)) (h : Inv L xs c κ) (hL : L ≤ 3072) (hi : i + 6 ≤ L) (hc : c < 3990) (hN : 100000 < N) : ∃ κ2, nL_law_909 N cs 0 0 69 (n3 i) (hp κ) = cs 0 0 69 (n3 (i + 6)) (hp κ2) ∧ Inv L xs (c + 1) κ2 := by
  obtain ⟨v, κ1, κ2, e1, e2, hx1, g⟩ := k_gap N h (by omega) (by omega) (xs (i + 1)) (xs (i + 2)) (xs (i + 3)) (xs (i + 4))
  have hx := h.xx
  have hx1 := hx1.trans hx
  refine ⟨κ2, ?_, g⟩
  have x1 : ∀ κ, hk_x κ = ra_ex0 L xs → ra_xI (hp κ) 0 (n3 (i + 1)) = some (xs (i + 1)) := fun κ hx => lw_xI hx hL (by omega)
  have x2 : ∀ κ, hk_x κ = ra_ex0 L xs → ra_xI (hp κ) 0 (n3 (i + 2)) = some (xs (i + 2)) := fun κ hx => lw_xI hx hL (by omega)
  have x3 : ∀ κ, hk_x κ = ra_ex0 L xs → ra_xI (hp κ) 0 (n3 (i + 3)) = some (xs (i + 3)) := fun κ hx => lw_xI hx hL (by omega)
  have x4 : ∀ κ, hk_x κ = ra_ex0 L xs → ra_xI (hp κ) 0 (n3 (i + 4)) = some (xs (i + 4)) := fun κ hx => lw_xI hx hL (by omega)
  simp only [nL_law_909, lw_ad, x1 κ hx, x1 κ1 hx1, x2 κ hx, x2 κ1 hx1, x3 κ hx, x3 κ1 hx1, x4 κ hx, x4 κ1 hx1, Option.bind_some, e1, e2, if_true, nL_law_1935]
theorem lw_962 (cs : UInt32 → Nat → Nat → Int32 → ra_H → Option (Int32 × ra_H)) (h : Inv L xs c κ) (hL : L ≤ 3072) (hi : i + 6 ≤ L) (hc : c < 3990) (hN : 100000 < N) : ∃ κ2, nL_law_962 N cs 0 0 69 (n3 i) (hp κ) = cs 0 0 69 (n3 (i + 6)) (hp κ2) ∧ Inv L xs (c + 1) κ2 := by
  obtain ⟨v, κ1, κ2, e1, e2, hx1, g⟩ := k_could N h (by omega) (by omega) (xs (i + 1)) (xs (i + 2)) (xs (i + 3)) (xs (i + 4))
  have hx := h.xx
  have hx1 := hx1.trans hx
  refine ⟨κ2, ?_, g⟩
  have x1 : ∀ κ, hk_x κ = ra_ex0 L xs → ra_xI (hp κ) 0 (n3 (i + 1)) = some (xs (i + 1)) := fun κ hx => lw_xI hx hL (by omega)
  have x2 : ∀ κ, hk_x κ = ra_ex0 L xs → ra_xI (hp κ) 0 (n3 (i + 2)) = some (xs (i + 2)) := fun κ hx => lw_xI hx hL (by omega)
  have x3 : ∀ κ, hk_x κ = ra_ex0 L xs → ra_xI (hp κ) 0 (n3 (i + 3)) = some (xs (i + 3)) := fun κ hx => lw_xI hx hL (by omega)
  have x4 : ∀ κ, hk_x κ = ra_ex0 L xs → ra_xI (hp κ) 0 (n3 (i + 4)) = some (xs (i + 4)) := fun κ hx => lw_xI hx hL (by omega)
  simp only [nL_law_962, lw_ad, x1 κ hx, x1 κ1 hx1, x2 κ hx, x2 κ1 hx1, x3 κ hx, x3 κ1 hx1, x4 κ hx, x4 κ1 hx1, Option.bind_some, e1, e2, if_true, nL_law_1935]
theorem lw_1015 (cs : UInt32 → Nat → Nat → Int32 → ra_H → Option (Int32 × ra_H)) (h : Inv L xs c κ) (hL : L ≤ 3072) (hi : i + 6 ≤ L) (hc : c < 3990) (hN : 100000 < N) : ∃ κ2, nL_law_1015 N cs 0 0 69 (n3 i) (hp κ) = cs 0 0 69 (n3 (i + 6)) (hp κ2) ∧ Inv L xs (c + 1) κ2 := by
  obtain ⟨v, κ1, κ2, e1, e2, hx1, g⟩ := k_line N h  (xs (i + 1)) (xs (i + 2)) (xs (i + 3)) (xs (i + 4)) (xs (i + 5))
  have hx := h.xx
  have hx1 := hx1.trans hx
  refine ⟨κ2, ?_, g⟩
  have x1 : ∀ κ, hk_x κ = ra_ex0 L xs → ra_xI (hp κ) 0 (n3 (i + 1)) = some (xs (i + 1)) := fun κ hx => lw_xI hx hL (by omega)
  have x2 : ∀ κ, hk_x κ = ra_ex0 L xs → ra_xI (hp κ) 0 (n3 (i + 2)) = some (xs (i + 2)) := fun κ hx => lw_xI hx hL (by omega)
  have x3 : ∀ κ, hk_x κ = ra_ex0 L xs → ra_xI (hp κ) 0 (n3 (i + 3)) = some (xs (i + 3)) := fun κ hx => lw_xI hx hL (by omega)
  have x4 : ∀ κ, hk_x κ = ra_ex0 L xs → ra_xI (hp κ) 0 (n3 (i + 4)) = some (xs (i + 4)) := fun κ hx => lw_xI hx hL (by omega)
  have x5 : ∀ κ, hk_x κ = ra_ex0 L xs → ra_xI (hp κ) 0 (n3 (i + 5)) = some (xs (i + 5)) := fun κ hx => lw_xI hx hL (by omega)
  simp only [nL_law_1015, lw_ad, x1 κ hx, x1 κ1 hx1, x2 κ hx, x2 κ1 hx1, x3 κ hx, x3 κ1 hx1, x4 κ hx, x4 κ1 hx1, x5 κ hx, x5 κ1 hx1, Option.bind_some, e1, e2, if_true, nL_law_1935]
theorem lw_1078 (cs : UInt32 → Nat → Nat → Int32 → ra_H → Option (Int32 × ra_H)) (h : Inv L xs c κ) (hL : L ≤ 3072) (hi : i + 6 ≤ L) (hc : c < 3990) (hN : 100000 < N) : ∃ κ2, nL_law_1078 N cs 0 0 69 (n3 i) (hp κ) = cs 0 0 69 (n3 (i + 6)) (hp κ2) ∧ Inv L xs (c + 1) κ2 := by
  obtain ⟨v, κ1, κ2, e1, e2, hx1, g⟩ := k_list N h  (xs (i + 1)) (xs (i + 2))
  have hx := h.xx
  have hx1 := hx1.trans hx
  refine ⟨κ2, ?_, g⟩
  have x1 : ∀ κ, hk_x κ = ra_ex0 L xs → ra_xI (hp κ) 0 (n3 (i + 1)) = some (xs (i + 1)) := fun κ hx => lw_xI hx hL (by omega)
  have x2 : ∀ κ, hk_x κ = ra_ex0 L xs → ra_xI (hp κ) 0 (n3 (i + 2)) = some (xs (i + 2)) := fun κ hx => lw_xI hx hL (by omega)
  simp only [nL_law_1078, lw_ad, x1 κ hx, x1 κ1 hx1, x2 κ hx, x2 κ1 hx1, Option.bind_some, e1, e2, if_true, nL_law_1935]
theorem lw_1111 (cs : UInt32 → Nat → Nat → Int32 → ra_H → Option (Int32 × ra_H)) (h : Inv L xs c κ) (hL : L ≤ 3072) (hi : i + 6 ≤ L) (hc : c < 3990) (hN : 100000 < N) : ∃ κ2, nL_law_1111 N cs 0 0 69 (n3 i) (hp κ) = cs 0 0 69 (n3 (i + 6)) (hp κ2) ∧ Inv L xs (c + 1) κ2 := by
  obtain ⟨v, κ1, κ2, e1, e2, hx1, g⟩ := k_fights N h (by omega) (xs (i + 1)) (xs (i + 2))
  have hx := h.xx
  have hx1 := hx1.trans hx
  refine ⟨κ2, ?_, g⟩
  have x1 : ∀ κ, hk_x κ = ra_ex0 L xs → ra_xI (hp κ) 0 (n3 (i + 1)) = some (xs (i + 1)) := fun κ hx => lw_xI hx hL (by omega)
  have x2 : ∀ κ, hk_x κ = ra_ex0 L xs → ra_xI (hp κ) 0 (n3 (i + 2)) = some (xs (i + 2)) := fun κ hx => lw_xI hx hL (by omega)
  simp only [nL_law_1111, lw_ad, x1 κ hx, x1 κ1 hx1, x2 κ hx, x2 κ1 hx1, Option.bind_some, e1, e2, if_true, nL_law_1935]
theorem lw_1144 (cs : UInt32 → Nat → Nat → Int32 → ra_H → Option (Int32 × ra_H)) (h : Inv L xs c κ) (hL : L ≤ 3072) (hi : i + 6 ≤ L) (hc : c < 3990) (hN : 100000 < N) : ∃ κ2, nL_law_1144 N cs 0 0 69 (n3 i) (hp κ) = cs 0 0 69 (n3 (i + 6)) (hp κ2) ∧ Inv L xs (c + 1) κ2 := by
  obtain ⟨v, κ1, κ2, e1, e2, hx1, g⟩ := k_wanting N h (by omega) (xs (i + 1)) (xs (i + 2)) (xs (i + 3))
  have hx := h.xx
  have hx1 := hx1.trans hx
  refine ⟨κ2, ?_, g⟩
  have x1 : ∀ κ, hk_x κ = ra_ex0 L xs → ra_xI (hp κ) 0 (n3 (i + 1)) = some (xs (i + 1)) := fun κ hx => lw_xI hx hL (by omega)
  have x2 : ∀ κ, hk_x κ = ra_ex0 L xs → ra_xI (hp κ) 0 (n3 (i + 2)) = some (xs (i + 2)) := fun κ hx => lw_xI hx hL (by omega)
  have x3 : ∀ κ, hk_x κ = ra_ex0 L xs → ra_xI (hp κ) 0 (n3 (i + 3)) = some (xs (i + 3)) := fun κ hx => lw_xI hx hL (by omega)
  simp only [nL_law_1144, lw_ad, x1 κ hx, x1 κ1 hx1, x2 κ hx, x2 κ1 hx1, x3 κ hx, x3 κ1 hx1, Option.bind_some, e1, e2, if_true, nL_law_1935]
theorem lw_1187 (cs : UInt32 → Nat → Nat → Int32 → ra_H → Option (Int32 × ra_H)) (h : Inv L xs c κ) (hL : L ≤ 3072) (hi : i + 6 ≤ L) (hc : c < 3990) (hN : 100000 < N) : ∃ κ2, nL_law_1187 N cs 0 0 69 (n3 i) (hp κ) = cs 0 0 69 (n3 (i + 6)) (hp κ2) ∧ Inv L xs (c + 1) κ2 := by
  obtain ⟨v, κ1, κ2, e1, e2, hx1, g⟩ := k_runs N h (by omega) (xs (i + 1))
  have hx := h.xx
  have hx1 := hx1.trans hx
  refine ⟨κ2, ?_, g⟩
  have x1 : ∀ κ, hk_x κ = ra_ex0 L xs → ra_xI (hp κ) 0 (n3 (i + 1)) = some (xs (i + 1)) := fun κ hx => lw_xI hx hL (by omega)
  simp only [nL_law_1187, lw_ad, x1 κ hx, x1 κ1 hx1, Option.bind_some, e1, e2, if_true, nL_law_1935]
theorem lw_1210 (cs : UInt32 → Nat → Nat → Int32 → ra_H → Option (Int32 × ra_H)) (h : Inv L xs c κ) (hL : L ≤ 3072) (hi : i + 6 ≤ L) (hc : c < 3990) (hN : 100000 < N) : ∃ κ2, nL_law_1210 N cs 0 0 69 (n3 i) (hp κ) = cs 0 0 69 (n3 (i + 6)) (hp κ2) ∧ Inv L xs (c + 1) κ2 := by
  obtain ⟨v, κ1, κ2, e1, e2, hx1, g⟩ := k_binder N h (by omega) (xs (i + 1)) (xs (i + 2)) (xs (i + 3))
  have hx := h.xx
  have hx1 := hx1.trans hx
  refine ⟨κ2, ?_, g⟩
  have x1 : ∀ κ, hk_x κ = ra_ex0 L xs → ra_xI (hp κ) 0 (n3 (i + 1)) = some (xs (i + 1)) := fun κ hx => lw_xI hx hL (by omega)
  have x2 : ∀ κ, hk_x κ = ra_ex0 L xs → ra_xI (hp κ) 0 (n3 (i + 2)) = some (xs (i + 2)) := fun κ hx => lw_xI hx hL (by omega)
  have x3 : ∀ κ, hk_x κ = ra_ex0 L xs → ra_xI (hp κ) 0 (n3 (i + 3)) = some (xs (i + 3)) := fun κ hx => lw_xI hx hL (by omega)
  simp only [nL_law_1210, lw_ad, x1 κ hx, x1 κ1 hx1, x2 κ hx, x2 κ1 hx1, x3 κ hx, x3 κ1 hx1, Option.bind_some, e1, e2, if_true, nL_law_1935]
theorem lw_1253 (cs : UInt32 → Nat → Nat → Int32 → ra_H → Option (Int32 × ra_H)) (h : Inv L xs c κ) (hL : L ≤ 3072) (hi : i + 6 ≤ L) (hc : c < 3990) (hN : 100000 < N) : ∃ κ2, nL_law_1253 N cs 0 0 69 (n3 i) (hp κ) = cs 0 0 69 (n3 (i + 6)) (hp κ2) ∧ Inv L xs (c + 1) κ2 := by
  obtain ⟨v, κ1, κ2, e1, e2, hx1, g⟩ := k_bound N h  (xs (i + 1))
  have hx := h.xx
  have hx1 := hx1.trans hx
  refine ⟨κ2, ?_, g⟩
  have x1 : ∀ κ, hk_x κ = ra_ex0 L xs → ra_xI (hp κ) 0 (n3 (i + 1)) = some (xs (i + 1)) := fun κ hx => lw_xI hx hL (by omega)
  simp only [nL_law_1253, lw_ad, x1 κ hx, x1 κ1 hx1, Option.bind_some, e1, e2, if_true, nL_law_1935]
theorem lw_1276 (cs : UInt32 → Nat → Nat → Int32 → ra_H → Option (Int32 × ra_H)) (h : Inv L xs c κ) (hL : L ≤ 3072) (hi : i + 6 ≤ L) (hc : c < 3990) (hN : 100000 < N) : ∃ κ2, nL_law_1276 N cs 0 0 69 (n3 i) (hp κ) = cs 0 0 69 (n3 (i + 6)) (hp κ2) ∧ Inv L xs (c + 1) κ2 := by
  obtain ⟨v, κ1, κ2, e1, e2, hx1, g⟩ := k_nearest N h (by omega) (by omega) (xs (i + 1)) (xs (i + 2))
  have hx := h.xx
  have hx1 := hx1.trans hx
  refine ⟨κ2, ?_, g⟩
  have x1 : ∀ κ, hk_x κ = ra_ex0 L xs → ra_xI (hp κ) 0 (n3 (i + 1)) = some (xs (i + 1)) := fun κ hx => lw_xI hx hL (by omega)
  have x2 : ∀ κ, hk_x κ = ra_ex0 L xs → ra_xI (hp κ) 0 (n3 (i + 2)) = some (xs (i + 2)) := fun κ hx => lw_xI hx hL (by omega)
  simp only [nL_law_1276, lw_ad, x1 κ hx, x1 κ1 hx1, x2 κ hx, x2 κ1 hx1, Option.bind_some, e1, e2, if_true, nL_law_1935]
theorem lw_1309 (cs : UInt32 → Nat → Nat → Int32 → ra_H → Option (Int32 × ra_H)) (h : Inv L xs c κ) (hL : L ≤ 3072) (hi : i + 6 ≤ L) (hc : c < 3990) (hN : 100000 < N) : ∃ κ2, nL_law_1309 N cs 0 0 69 (n3 i) (hp κ) = cs 0 0 69 (n3 (i + 6)) (hp κ2) ∧ Inv L xs (c + 1) κ2 := by
  obtain ⟨v, κ1, κ2, e1, e2, hx1, g⟩ := k_close N h (by omega) (by omega) (xs (i + 1)) (xs (i + 2))
  have hx := h.xx
  have hx1 := hx1.trans hx
  refine ⟨κ2, ?_, g⟩
  have x1 : ∀ κ, hk_x κ = ra_ex0 L xs → ra_xI (hp κ) 0 (n3 (i + 1)) = some (xs (i + 1)) := fun κ hx => lw_xI hx hL (by omega)
  have x2 : ∀ κ, hk_x κ = ra_ex0 L xs → ra_xI (hp κ) 0 (n3 (i + 2)) = some (xs (i + 2)) := fun κ hx => lw_xI hx hL (by omega)
  simp only [nL_law_1309, lw_ad, x1 κ hx, x1 κ1 hx1, x2 κ hx, x2 κ1 hx1, Option.bind_some, e1, e2, if_true, nL_law_1935]
theorem lw_1342 (cs : UInt32 → Nat → Nat → Int32 → ra_H → Option (Int32 × ra_H)) (h : Inv L xs c κ) (hL : L ≤ 3072) (hi : i + 6 ≤ L) (hc : c < 3990) (hN : 100000 < N) : ∃ κ2, nL_law_1342 N cs 0 0 69 (n3 i) (hp κ) = cs 0 0 69 (n3 (i + 6)) (hp κ2) ∧ Inv L xs (c + 1) κ2 := by
  obtain ⟨v, κ1, κ2, e1, e2, hx1, g⟩ := k_agree N h  (xs (i + 1)) (xs (i + 2))
  have hx := h.xx
  have hx1 := hx1.trans hx
  refine ⟨κ2, ?_, g⟩
  have x1 : ∀ κ, hk_x κ = ra_ex0 L xs → ra_xI (hp κ) 0 (n3 (i + 1)) = some (xs (i + 1)) := fun κ hx => lw_xI hx hL (by omega)
  have x2 : ∀ κ, hk_x κ = ra_ex0 L xs → ra_xI (hp κ) 0 (n3 (i + 2)) = some (xs (i + 2)) := fun κ hx => lw_xI hx hL (by omega)
  simp only [nL_law_1342, lw_ad, x1 κ hx, x1 κ1 hx1, x2 κ hx, x2 κ1 hx1, Option.bind_some, e1, e2, if_true, nL_law_1935]
theorem lw_1375 (cs : UInt32 → Nat → Nat → Int32 → ra_H → Option (Int32 × ra_H)) (h : Inv L xs c κ) (hL : L ≤ 3072) (hi : i + 6 ≤ L) (hc : c < 3990) (hN : 100000 < N) : ∃ κ2, nL_law_1375 N cs 0 0 69 (n3 i) (hp κ) = cs 0 0 69 (n3 (i + 6)) (hp κ2) ∧ Inv L xs (c + 1) κ2 := by
  obtain ⟨v, κ1, κ2, e1, e2, hx1, g⟩ := k_match N h (by omega) (xs (i + 1))
  have hx := h.xx
  have hx1 := hx1.trans hx
  refine ⟨κ2, ?_, g⟩
  have x1 : ∀ κ, hk_x κ = ra_ex0 L xs → ra_xI (hp κ) 0 (n3 (i + 1)) = some (xs (i + 1)) := fun κ hx => lw_xI hx hL (by omega)
  simp only [nL_law_1375, lw_ad, x1 κ hx, x1 κ1 hx1, Option.bind_some, e1, e2, if_true, nL_law_1935]
theorem lw_1398 (cs : UInt32 → Nat → Nat → Int32 → ra_H → Option (Int32 × ra_H)) (h : Inv L xs c κ) (hL : L ≤ 3072) (hi : i + 6 ≤ L) (hc : c < 3990) (hN : 100000 < N) : ∃ κ2, nL_law_1398 N cs 0 0 69 (n3 i) (hp κ) = cs 0 0 69 (n3 (i + 6)) (hp κ2) ∧ Inv L xs (c + 1) κ2 := by
  obtain ⟨v, κ1, κ2, e1, e2, hx1, g⟩ := k_matched N h (by omega) (xs (i + 1)) (xs (i + 2))
  have hx := h.xx
  have hx1 := hx1.trans hx
  refine ⟨κ2, ?_, g⟩
  have x1 : ∀ κ, hk_x κ = ra_ex0 L xs → ra_xI (hp κ) 0 (n3 (i + 1)) = some (xs (i + 1)) := fun κ hx => lw_xI hx hL (by omega)
  have x2 : ∀ κ, hk_x κ = ra_ex0 L xs → ra_xI (hp κ) 0 (n3 (i + 2)) = some (xs (i + 2)) := fun κ hx => lw_xI hx hL (by omega)
  simp only [nL_law_1398, lw_ad, x1 κ hx, x1 κ1 hx1, x2 κ hx, x2 κ1 hx1, Option.bind_some, e1, e2, if_true, nL_law_1935]
theorem lw_1431 (cs : UInt32 → Nat → Nat → Int32 → ra_H → Option (Int32 × ra_H)) (h : Inv L xs c κ) (hL : L ≤ 3072) (hi : i + 6 ≤ L) (hc : c < 3990) (hN : 100000 < N) : ∃ κ2, nL_law_1431 N cs 0 0 69 (n3 i) (hp κ) = cs 0 0 69 (n3 (i + 6)) (hp κ2) ∧ Inv L xs (c + 1) κ2 := by
  obtain ⟨v, κ1, κ2, e1, e2, hx1, g⟩ := k_ours N h (by omega) (xs (i + 1)) (xs (i + 2)) (xs (i + 3))
  have hx := h.xx
  have hx1 := hx1.trans hx
  refine ⟨κ2, ?_, g⟩
  have x1 : ∀ κ, hk_x κ = ra_ex0 L xs → ra_xI (hp κ) 0 (n3 (i + 1)) = some (xs (i + 1)) := fun κ hx => lw_xI hx hL (by omega)
  have x2 : ∀ κ, hk_x κ = ra_ex0 L xs → ra_xI (hp κ) 0 (n3 (i + 2)) = some (xs (i + 2)) := fun κ hx => lw_xI hx hL (by omega)
  have x3 : ∀ κ, hk_x κ = ra_ex0 L xs → ra_xI (hp κ) 0 (n3 (i + 3)) = some (xs (i + 3)) := fun κ hx => lw_xI hx hL (by omega)
  simp only [nL_law_1431, lw_ad, x1 κ hx, x1 κ1 hx1, x2 κ hx, x2 κ1 hx1, x3 κ hx, x3 κ1 hx1, Option.bind_some, e1, e2, if_true, nL_law_1935]
theorem lw_1474 (cs : UInt32 → Nat → Nat → Int32 → ra_H → Option (Int32 × ra_H)) (h : Inv L xs c κ) (hL : L ≤ 3072) (hi : i + 6 ≤ L) (hc : c < 3990) (hN : 100000 < N) : ∃ κ2, nL_law_1474 N cs 0 0 69 (n3 i) (hp κ) = cs 0 0 69 (n3 (i + 6)) (hp κ2) ∧ Inv L xs (c + 1) κ2 := by
  obtain ⟨v, κ1, κ2, e1, e2, hx1, g⟩ := k_untrue N h (by omega) (xs (i + 1)) (xs (i + 2)) (xs (i + 3))
  have hx := h.xx
  have hx1 := hx1.trans hx
  refine ⟨κ2, ?_, g⟩
  have x1 : ∀ κ, hk_x κ = ra_ex0 L xs → ra_xI (hp κ) 0 (n3 (i + 1)) = some (xs (i + 1)) := fun κ hx => lw_xI hx hL (by omega)
  have x2 : ∀ κ, hk_x κ = ra_ex0 L xs → ra_xI (hp κ) 0 (n3 (i + 2)) = some (xs (i + 2)) := fun κ hx => lw_xI hx hL (by omega)
  have x3 : ∀ κ, hk_x κ = ra_ex0 L xs → ra_xI (hp κ) 0 (n3 (i + 3)) = some (xs (i + 3)) := fun κ hx => lw_xI hx hL (by omega)
  simp only [nL_law_1474, lw_ad, x1 κ hx, x1 κ1 hx1, x2 κ hx, x2 κ1 hx1, x3 κ hx, x3 κ1 hx1, Option.bind_some, e1, e2, if_true, nL_law_1935]
theorem lw_1517 (cs : UInt32 → Nat → Nat → Int32 → ra_H → Option (Int32 × ra_H)) (h : Inv L xs c κ) (hL : L ≤ 3072) (hi : i + 6 ≤ L) (hc : c < 3990) (hN : 100000 < N) : ∃ κ2, nL_law_1517 N cs 0 0 69 (n3 i) (hp κ) = cs 0 0 69 (n3 (i + 6)) (hp κ2) ∧ Inv L xs (c + 1) κ2 := by
  obtain ⟨v, κ1, κ2, e1, e2, hx1, g⟩ := k_twice N h (by omega) (xs (i + 1)) (xs (i + 2))
  have hx := h.xx
  have hx1 := hx1.trans hx
  refine ⟨κ2, ?_, g⟩
  have x1 : ∀ κ, hk_x κ = ra_ex0 L xs → ra_xI (hp κ) 0 (n3 (i + 1)) = some (xs (i + 1)) := fun κ hx => lw_xI hx hL (by omega)
  have x2 : ∀ κ, hk_x κ = ra_ex0 L xs → ra_xI (hp κ) 0 (n3 (i + 2)) = some (xs (i + 2)) := fun κ hx => lw_xI hx hL (by omega)
  simp only [nL_law_1517, lw_ad, x1 κ hx, x1 κ1 hx1, x2 κ hx, x2 κ1 hx1, Option.bind_some, e1, e2, if_true, nL_law_1935]
theorem lw_1550 (cs : UInt32 → Nat → Nat → Int32 → ra_H → Option (Int32 × ra_H)) (h : Inv L xs c κ) (hL : L ≤ 3072) (hi : i + 6 ≤ L) (hc : c < 3990) (hN : 100000 < N) : ∃ κ2, nL_law_1550 N cs 0 0 69 (n3 i) (hp κ) = cs 0 0 69 (n3 (i + 6)) (hp κ2) ∧ Inv L xs (c + 1) κ2 := by
  obtain ⟨v, κ1, κ2, e1, e2, hx1, g⟩ := k_stack N h (by omega) (xs (i + 1))
  have hx := h.xx
  have hx1 := hx1.trans hx
  refine ⟨κ2, ?_, g⟩
  have x1 : ∀ κ, hk_x κ = ra_ex0 L xs → ra_xI (hp κ) 0 (n3 (i + 1)) = some (xs (i + 1)) := fun κ hx => lw_xI hx hL (by omega)
  simp only [nL_law_1550, lw_ad, x1 κ hx, x1 κ1 hx1, Option.bind_some, e1, e2, if_true, nL_law_1935]
theorem lw_1573 (cs : UInt32 → Nat → Nat → Int32 → ra_H → Option (Int32 × ra_H)) (h : Inv L xs c κ) (hL : L ≤ 3072) (hi : i + 6 ≤ L) (hc : c < 3990) (hN : 100000 < N) : ∃ κ2, nL_law_1573 N cs 0 0 69 (n3 i) (hp κ) = cs 0 0 69 (n3 (i + 6)) (hp κ2) ∧ Inv L xs (c + 1) κ2 := by
  obtain ⟨v, κ1, κ2, e1, e2, hx1, g⟩ := k_clear N h  
  have hx := h.xx
  have hx1 := hx1.trans hx
  refine ⟨κ2, ?_, g⟩
  simp only [nL_law_1573, lw_ad, Option.bind_some, e1, e2, if_true, nL_law_1935]
theorem lw_1586 (cs : UInt32 → Nat → Nat → Int32 → ra_H → Option (Int32 × ra_H)) (h : Inv L xs c κ) (hL : L ≤ 3072) (hi : i + 6 ≤ L) (hc : c < 3990) (hN : 100000 < N) : ∃ κ2, nL_law_1586 N cs 0 0 69 (n3 i) (hp κ) = cs 0 0 69 (n3 (i + 6)) (hp κ2) ∧ Inv L xs (c + 1) κ2 := by
  obtain ⟨v, κ1, κ2, e1, e2, hx1, g⟩ := k_beside N h (by omega) (xs (i + 1))
  have hx := h.xx
  have hx1 := hx1.trans hx
  refine ⟨κ2, ?_, g⟩
  have x1 : ∀ κ, hk_x κ = ra_ex0 L xs → ra_xI (hp κ) 0 (n3 (i + 1)) = some (xs (i + 1)) := fun κ hx => lw_xI hx hL (by omega)
  simp only [nL_law_1586, lw_ad, x1 κ hx, x1 κ1 hx1, Option.bind_some, e1, e2, if_true, nL_law_1935]
theorem lw_1609 (cs : UInt32 → Nat → Nat → Int32 → ra_H → Option (Int32 × ra_H)) (h : Inv L xs c κ) (hL : L ≤ 3072) (hi : i + 6 ≤ L) (hc : c < 3990) (hN : 100000 < N) : ∃ κ2, nL_law_1609 N cs 0 0 69 (n3 i) (hp κ) = cs 0 0 69 (n3 (i + 6)) (hp κ2) ∧ Inv L xs (c + 1) κ2 := by
  obtain ⟨v, κ1, κ2, e1, e2, hx1, g⟩ := k_house N h  (xs (i + 1)) (xs (i + 2)) (xs (i + 3)) (xs (i + 4))
  have hx := h.xx
  have hx1 := hx1.trans hx
  refine ⟨κ2, ?_, g⟩
  have x1 : ∀ κ, hk_x κ = ra_ex0 L xs → ra_xI (hp κ) 0 (n3 (i + 1)) = some (xs (i + 1)) := fun κ hx => lw_xI hx hL (by omega)
  have x2 : ∀ κ, hk_x κ = ra_ex0 L xs → ra_xI (hp κ) 0 (n3 (i + 2)) = some (xs (i + 2)) := fun κ hx => lw_xI hx hL (by omega)
  have x3 : ∀ κ, hk_x κ = ra_ex0 L xs → ra_xI (hp κ) 0 (n3 (i + 3)) = some (xs (i + 3)) := fun κ hx => lw_xI hx hL (by omega)
  have x4 : ∀ κ, hk_x κ = ra_ex0 L xs → ra_xI (hp κ) 0 (n3 (i + 4)) = some (xs (i + 4)) := fun κ hx => lw_xI hx hL (by omega)
  simp only [nL_law_1609, lw_ad, x1 κ hx, x1 κ1 hx1, x2 κ hx, x2 κ1 hx1, x3 κ hx, x3 κ1 hx1, x4 κ hx, x4 κ1 hx1, Option.bind_some, e1, e2, if_true, nL_law_1935]
theorem lw_1662 (cs : UInt32 → Nat → Nat → Int32 → ra_H → Option (Int32 × ra_H)) (h : Inv L xs c κ) (hL : L ≤ 3072) (hi : i + 6 ≤ L) (hc : c < 3990) (hN : 100000 < N) : ∃ κ2, nL_law_1662 N cs 0 0 69 (n3 i) (hp κ) = cs 0 0 69 (n3 (i + 6)) (hp κ2) ∧ Inv L xs (c + 1) κ2 := by
  obtain ⟨v, κ1, κ2, e1, e2, hx1, g⟩ := k_expect N h (by omega) (xs (i + 1))
  have hx := h.xx
  have hx1 := hx1.trans hx
  refine ⟨κ2, ?_, g⟩
  have x1 : ∀ κ, hk_x κ = ra_ex0 L xs → ra_xI (hp κ) 0 (n3 (i + 1)) = some (xs (i + 1)) := fun κ hx => lw_xI hx hL (by omega)
  simp only [nL_law_1662, lw_ad, x1 κ hx, x1 κ1 hx1, Option.bind_some, e1, e2, if_true, nL_law_1935]
theorem lw_1685 (cs : UInt32 → Nat → Nat → Int32 → ra_H → Option (Int32 × ra_H)) (h : Inv L xs c κ) (hL : L ≤ 3072) (hi : i + 6 ≤ L) (hc : c < 3990) (hN : 100000 < N) : ∃ κ2, nL_law_1685 N cs 0 0 69 (n3 i) (hp κ) = cs 0 0 69 (n3 (i + 6)) (hp κ2) ∧ Inv L xs (c + 1) κ2 := by
  obtain ⟨v, κ1, κ2, e1, e2, hx1, g⟩ := k_next N h (by omega) 
  have hx := h.xx
  have hx1 := hx1.trans hx
  refine ⟨κ2, ?_, g⟩
  simp only [nL_law_1685, lw_ad, Option.bind_some, e1, e2, if_true, nL_law_1935]
theorem lw_1698 (cs : UInt32 → Nat → Nat → Int32 → ra_H → Option (Int32 × ra_H)) (h : Inv L xs c κ) (hL : L ≤ 3072) (hi : i + 6 ≤ L) (hc : c < 3990) (hN : 100000 < N) : ∃ κ2, nL_law_1698 N cs 0 0 69 (n3 i) (hp κ) = cs 0 0 69 (n3 (i + 6)) (hp κ2) ∧ Inv L xs (c + 1) κ2 := by
  obtain ⟨v, κ1, κ2, e1, e2, hx1, g⟩ := k_left N h (by omega) (xs (i + 1))
  have hx := h.xx
  have hx1 := hx1.trans hx
  refine ⟨κ2, ?_, g⟩
  have x1 : ∀ κ, hk_x κ = ra_ex0 L xs → ra_xI (hp κ) 0 (n3 (i + 1)) = some (xs (i + 1)) := fun κ hx => lw_xI hx hL (by omega)
  simp only [nL_law_1698, lw_ad, x1 κ hx, x1 κ1 hx1, Option.bind_some, e1, e2, if_true, nL_law_1935]
theorem lw_1721 (cs : UInt32 → Nat → Nat → Int32 → ra_H → Option (Int32 × ra_H)) (h : Inv L xs c κ) (hL : L ≤ 3072) (hi : i + 6 ≤ L) (hc : c < 3990) (hN : 100000 < N) : ∃ κ2, nL_law_1721 N cs 0 0 69 (n3 i) (hp κ) = cs 0 0 69 (n3 (i + 6)) (hp κ2) ∧ Inv L xs (c + 1) κ2 := by
  obtain ⟨v, κ1, κ2, e1, e2, hx1, g⟩ := k_grew N h (by omega) (xs (i + 1)) (xs (i + 2)) (xs (i + 3))
  have hx := h.xx
  have hx1 := hx1.trans hx
  refine ⟨κ2, ?_, g⟩
  have x1 : ∀ κ, hk_x κ = ra_ex0 L xs → ra_xI (hp κ) 0 (n3 (i + 1)) = some (xs (i + 1)) := fun κ hx => lw_xI hx hL (by omega)
  have x2 : ∀ κ, hk_x κ = ra_ex0 L xs → ra_xI (hp κ) 0 (n3 (i + 2)) = some (xs (i + 2)) := fun κ hx => lw_xI hx hL (by omega)
  have x3 : ∀ κ, hk_x κ = ra_ex0 L xs → ra_xI (hp κ) 0 (n3 (i + 3)) = some (xs (i + 3)) := fun κ hx => lw_xI hx hL (by omega)
  simp only [nL_law_1721, lw_ad, x1 κ hx, x1 κ1 hx1, x2 κ hx, x2 κ1 hx1, x3 κ hx, x3 κ1 hx1, Option.bind_some, e1, e2, if_true, nL_law_1935]
theorem lw_1764 (cs : UInt32 → Nat → Nat → Int32 → ra_H → Option (Int32 × ra_H)) (h : Inv L xs c κ) (hL : L ≤ 3072) (hi : i + 6 ≤ L) (hc : c < 3990) (hN : 100000 < N) : ∃ κ2, nL_law_1764 N cs 0 0 69 (n3 i) (hp κ) = cs 0 0 69 (n3 (i + 6)) (hp κ2) ∧ Inv L xs (c + 1) κ2 := by
  obtain ⟨v, κ1, κ2, e1, e2, hx1, g⟩ := k_scatter N h (by omega) (xs (i + 1)) (xs (i + 2))
  have hx := h.xx
  have hx1 := hx1.trans hx
  refine ⟨κ2, ?_, g⟩
  have x1 : ∀ κ, hk_x κ = ra_ex0 L xs → ra_xI (hp κ) 0 (n3 (i + 1)) = some (xs (i + 1)) := fun κ hx => lw_xI hx hL (by omega)
  have x2 : ∀ κ, hk_x κ = ra_ex0 L xs → ra_xI (hp κ) 0 (n3 (i + 2)) = some (xs (i + 2)) := fun κ hx => lw_xI hx hL (by omega)
  simp only [nL_law_1764, lw_ad, x1 κ hx, x1 κ1 hx1, x2 κ hx, x2 κ1 hx1, Option.bind_some, e1, e2, if_true, nL_law_1935]
theorem lw_1797 (cs : UInt32 → Nat → Nat → Int32 → ra_H → Option (Int32 × ra_H)) (h : Inv L xs c κ) (hL : L ≤ 3072) (hi : i + 6 ≤ L) (hc : c < 3990) (hN : 100000 < N) : ∃ κ2, nL_law_1797 N cs 0 0 69 (n3 i) (hp κ) = cs 0 0 69 (n3 (i + 6)) (hp κ2) ∧ Inv L xs (c + 1) κ2 := by
  obtain ⟨v, κ1, κ2, e1, e2, hx1, g⟩ := k_went N h  (xs (i + 1))
  have hx := h.xx
  have hx1 := hx1.trans hx
  refine ⟨κ2, ?_, g⟩
  have x1 : ∀ κ, hk_x κ = ra_ex0 L xs → ra_xI (hp κ) 0 (n3 (i + 1)) = some (xs (i + 1)) := fun κ hx => lw_xI hx hL (by omega)
  simp only [nL_law_1797, lw_ad, x1 κ hx, x1 κ1 hx1, Option.bind_some, e1, e2, if_true, nL_law_1935]
theorem lw_1820 (cs : UInt32 → Nat → Nat → Int32 → ra_H → Option (Int32 × ra_H)) (h : Inv L xs c κ) (hL : L ≤ 3072) (hi : i + 6 ≤ L) (hc : c < 3990) (hN : 100000 < N) : ∃ κ2, nL_law_1820 N cs 0 0 69 (n3 i) (hp κ) = cs 0 0 69 (n3 (i + 6)) (hp κ2) ∧ Inv L xs (c + 1) κ2 := by
  obtain ⟨v, κ1, κ2, e1, e2, hx1, g⟩ := k_together N h (by omega) (by omega) (xs (i + 1)) (xs (i + 2))
  have hx := h.xx
  have hx1 := hx1.trans hx
  refine ⟨κ2, ?_, g⟩
  have x1 : ∀ κ, hk_x κ = ra_ex0 L xs → ra_xI (hp κ) 0 (n3 (i + 1)) = some (xs (i + 1)) := fun κ hx => lw_xI hx hL (by omega)
  have x2 : ∀ κ, hk_x κ = ra_ex0 L xs → ra_xI (hp κ) 0 (n3 (i + 2)) = some (xs (i + 2)) := fun κ hx => lw_xI hx hL (by omega)
  simp only [nL_law_1820, lw_ad, x1 κ hx, x1 κ1 hx1, x2 κ hx, x2 κ1 hx1, Option.bind_some, e1, e2, if_true, nL_law_1935]
theorem lw_1853 (cs : UInt32 → Nat → Nat → Int32 → ra_H → Option (Int32 × ra_H)) (h : Inv L xs c κ) (hL : L ≤ 3072) (hi : i + 6 ≤ L) (hc : c < 3990) (hN : 100000 < N) : ∃ κ2, nL_law_1853 N cs 0 0 69 (n3 i) (hp κ) = cs 0 0 69 (n3 (i + 6)) (hp κ2) ∧ Inv L xs (c + 1) κ2 := by
  obtain ⟨v, κ1, κ2, e1, e2, hx1, g⟩ := k_image N h (by omega) (xs (i + 1))
  have hx := h.xx
  have hx1 := hx1.trans hx
  refine ⟨κ2, ?_, g⟩
  have x1 : ∀ κ, hk_x κ = ra_ex0 L xs → ra_xI (hp κ) 0 (n3 (i + 1)) = some (xs (i + 1)) := fun κ hx => lw_xI hx hL (by omega)
  simp only [nL_law_1853, lw_ad, x1 κ hx, x1 κ1 hx1, Option.bind_some, e1, e2, if_true, nL_law_1935]
theorem lw_1876 (cs : UInt32 → Nat → Nat → Int32 → ra_H → Option (Int32 × ra_H)) (h : Inv L xs c κ) (hL : L ≤ 3072) (hi : i + 6 ≤ L) (hc : c < 3990) (hN : 100000 < N) : ∃ κ2, nL_law_1876 N cs 0 0 69 (n3 i) (hp κ) = cs 0 0 69 (n3 (i + 6)) (hp κ2) ∧ Inv L xs (c + 1) κ2 := by
  obtain ⟨v, κ1, κ2, e1, e2, hx1, g⟩ := k_back N h (by omega) (xs (i + 1))
  have hx := h.xx
  have hx1 := hx1.trans hx
  refine ⟨κ2, ?_, g⟩
  have x1 : ∀ κ, hk_x κ = ra_ex0 L xs → ra_xI (hp κ) 0 (n3 (i + 1)) = some (xs (i + 1)) := fun κ hx => lw_xI hx hL (by omega)
  simp only [nL_law_1876, lw_ad, x1 κ hx, x1 κ1 hx1, Option.bind_some, e1, e2, if_true, nL_law_1935]
theorem lw_1899 (cs : UInt32 → Nat → Nat → Int32 → ra_H → Option (Int32 × ra_H)) (h : Inv L xs c κ) (hL : L ≤ 3072) (hi : i + 6 ≤ L) (hc : c < 3990) (hN : 100000 < N) : ∃ κ2, nL_law_1899 N cs 0 0 69 (n3 i) (hp κ) = cs 0 0 69 (n3 (i + 6)) (hp κ2) ∧ Inv L xs (c + 1) κ2 := by
  obtain ⟨v, κ1, κ2, e1, e2, hx1, g⟩ := k_count N h (by omega) (by omega) (xs (i + 1))
  have hx := h.xx
  have hx1 := hx1.trans hx
  refine ⟨κ2, ?_, g⟩
  have x1 : ∀ κ, hk_x κ = ra_ex0 L xs → ra_xI (hp κ) 0 (n3 (i + 1)) = some (xs (i + 1)) := fun κ hx => lw_xI hx hL (by omega)
  simp only [nL_law_1899, lw_ad, x1 κ hx, x1 κ1 hx1, Option.bind_some, e1, e2, if_true, nL_law_1935]
theorem lw_1922 (cs : UInt32 → Nat → Nat → Int32 → ra_H → Option (Int32 × ra_H)) (h : Inv L xs c κ) (hL : L ≤ 3072) (hi : i + 6 ≤ L) (hc : c < 3990) (hN : 100000 < N) : ∃ κ2, nL_law_1922 N cs 0 0 69 (n3 i) (hp κ) = cs 0 0 69 (n3 (i + 6)) (hp κ2) ∧ Inv L xs (c + 1) κ2 := by
  obtain ⟨v, κ1, κ2, e1, e2, hx1, g⟩ := k_status N h  
  have hx := h.xx
  have hx1 := hx1.trans hx
  refine ⟨κ2, ?_, g⟩
  simp only [nL_law_1922, lw_ad, Option.bind_some, e1, e2, if_true, nL_law_1935]
theorem lw_one (m : Nat) (h : Inv L xs c κ) (hL : L ≤ 3072) (hi : i + 6 ≤ L) (hc : c < 3990) (hN : 100000 < N) : ∃ κ2, nL_law_18 N (m + 1) 0 0 69 (n3 i) (hp κ) = nL_law_18 N m 0 0 69 (n3 (i + 6)) (hp κ2) ∧ Inv L xs (c + 1) κ2 := by
  have hx := h.xx
  have le : n3 i ≤ n3 L - (6 : Int32) := by
    show z3 (i : Int) ≤ z3 (L : Int) - z3 6
    rw [z3_sub, z3_le (by omega) (by omega) (by omega) (by omega)]
    omega
  obtain ⟨x, ex⟩ : ∃ x, x = xs i &&& (63 : Int32) := ⟨_, rfl⟩
  rw [nL_law_18, lw_xL hx, Option.bind_some, if_pos le, lw_xI hx hL (by omega), Option.bind_some, ← ex]
  by_cases c0 : x = (0 : Int32)
  · rw [if_pos c0]
    exact lw_252 N (nL_law_18 N m) h hL hi hc hN
  rw [if_neg c0]
  by_cases c1 : x = (1 : Int32)
  · rw [if_pos c1]
    exact lw_315 N (nL_law_18 N m) h hL hi hc hN
  rw [if_neg c1]
  by_cases c2 : x = (2 : Int32)
  · rw [if_pos c2]
    exact lw_358 N (nL_law_18 N m) h hL hi hc hN
  rw [if_neg c2]
  by_cases c3 : x = (3 : Int32)
  · rw [if_pos c3]
    exact lw_401 N (nL_law_18 N m) h hL hi hc hN
  rw [if_neg c3]
  by_cases c4 : x = (4 : Int32)
  · rw [if_pos c4]
    exact lw_434 N (nL_law_18 N m) h hL hi hc hN
  rw [if_neg c4]
  by_cases c5 : x = (5 : Int32)
  · rw [if_pos c5]
    exact lw_467 N (nL_law_18 N m) h hL hi hc hN
  rw [if_neg c5]
  by_cases c6 : x = (6 : Int32)
  · rw [if_pos c6]
    exact lw_520 N (nL_law_18 N m) h hL hi hc hN
  rw [if_neg c6]
  by_cases c7 : x = (7 : Int32)
  · rw [if_pos c7]
    exact lw_583 N (nL_law_18 N m) h hL hi hc hN
  rw [if_neg c7]
  by_cases c8 : x = (8 : Int32)
  · rw [if_pos c8]
    exact lw_606 N (nL_law_18 N m) h hL hi hc hN
  rw [if_neg c8]
  by_cases c9 : x = (9 : Int32)
  · rw [if_pos c9]
    exact lw_619 N (nL_law_18 N m) h hL hi hc hN
  rw [if_neg c9]
  by_cases c10 : x = (10 : Int32)
  · rw [if_pos c10]
    exact lw_632 N (nL_law_18 N m) h hL hi hc hN
  rw [if_neg c10]
  by_cases c11 : x = (11 : Int32)
  · rw [if_pos c11]
    exact lw_645 N (nL_law_18 N m) h hL hi hc hN
  rw [if_neg c11]
  by_cases c12 : x = (12 : Int32)
  · rw [if_pos c12]
    exact lw_658 N (nL_law_18 N m) h hL hi hc hN
  rw [if_neg c12]
  by_cases c13 : x = (13 : Int32)
  · rw [if_pos c13]
    exact lw_701 N (nL_law_18 N m) h hL hi hc hN
  rw [if_neg c13]
  by_cases c14 : x = (14 : Int32)
  · rw [if_pos c14]
    exact lw_744 N (nL_law_18 N m) h hL hi hc hN
  rw [if_neg c14]
  by_cases c15 : x = (15 : Int32)
  · rw [if_pos c15]
    exact lw_767 N (nL_law_18 N m) h hL hi hc hN
  rw [if_neg c15]
  by_cases c16 : x = (16 : Int32)
  · rw [if_pos c16]
    exact lw_810 N (nL_law_18 N m) h hL hi hc hN
  rw [if_neg c16]
  by_cases c17 : x = (17 : Int32)
  · rw [if_pos c17]
    exact lw_833 N (nL_law_18 N m) h hL hi hc hN
  rw [if_neg c17]
  by_cases c18 : x = (18 : Int32)
  · rw [if_pos c18]
    exact lw_876 N (nL_law_18 N m) h hL hi hc hN
  rw [if_neg c18]
  by_cases c19 : x = (19 : Int32)
  · rw [if_pos c19]
    exact lw_909 N (nL_law_18 N m) h hL hi hc hN
  rw [if_neg c19]
  by_cases c20 : x = (20 : Int32)
  · rw [if_pos c20]
    exact lw_962 N (nL_law_18 N m) h hL hi hc hN
  rw [if_neg c20]
  by_cases c21 : x = (21 : Int32)
  · rw [if_pos c21]
    exact lw_1015 N (nL_law_18 N m) h hL hi hc hN
  rw [if_neg c21]
  by_cases c22 : x = (22 : Int32)
  · rw [if_pos c22]
    exact lw_1078 N (nL_law_18 N m) h hL hi hc hN
  rw [if_neg c22]
  by_cases c23 : x = (23 : Int32)
  · rw [if_pos c23]
    exact lw_1111 N (nL_law_18 N m) h hL hi hc hN
  rw [if_neg c23]
  by_cases c24 : x = (24 : Int32)
  · rw [if_pos c24]
    exact lw_1144 N (nL_law_18 N m) h hL hi hc hN
  rw [if_neg c24]
  by_cases c25 : x = (25 : Int32)
  · rw [if_pos c25]
    exact lw_1187 N (nL_law_18 N m) h hL hi hc hN
  rw [if_neg c25]
  by_cases c26 : x = (26 : Int32)
  · rw [if_pos c26]
    exact lw_1210 N (nL_law_18 N m) h hL hi hc hN
  rw [if_neg c26]
  by_cases c27 : x = (27 : Int32)
  · rw [if_pos c27]
    exact lw_1253 N (nL_law_18 N m) h hL hi hc hN
  rw [if_neg c27]
  by_cases c28 : x = (28 : Int32)
  · rw [if_pos c28]
    exact lw_1276 N (nL_law_18 N m) h hL hi hc hN
  rw [if_neg c28]
  by_cases c29 : x = (29 : Int32)
  · rw [if_pos c29]
    exact lw_1309 N (nL_law_18 N m) h hL hi hc hN
  rw [if_neg c29]
  by_cases c30 : x = (30 : Int32)
  · rw [if_pos c30]
    exact lw_1342 N (nL_law_18 N m) h hL hi hc hN
  rw [if_neg c30]
  by_cases c31 : x = (31 : Int32)
  · rw [if_pos c31]
    exact lw_1375 N (nL_law_18 N m) h hL hi hc hN
  rw [if_neg c31]
  by_cases c32 : x = (32 : Int32)
  · rw [if_pos c32]
    exact lw_1398 N (nL_law_18 N m) h hL hi hc hN
  rw [if_neg c32]
  by_cases c33 : x = (33 : Int32)
  · rw [if_pos c33]
    exact lw_1431 N (nL_law_18 N m) h hL hi hc hN
  rw [if_neg c33]
  by_cases c34 : x = (34 : Int32)
  · rw [if_pos c34]
    exact lw_1474 N (nL_law_18 N m) h hL hi hc hN
  rw [if_neg c34]
  by_cases c35 : x = (35 : Int32)
  · rw [if_pos c35]
    exact lw_1517 N (nL_law_18 N m) h hL hi hc hN
  rw [if_neg c35]
  by_cases c36 : x = (36 : Int32)
  · rw [if_pos c36]
    exact lw_1550 N (nL_law_18 N m) h hL hi hc hN
  rw [if_neg c36]
  by_cases c37 : x = (37 : Int32)
  · rw [if_pos c37]
    exact lw_1573 N (nL_law_18 N m) h hL hi hc hN
  rw [if_neg c37]
  by_cases c38 : x = (38 : Int32)
  · rw [if_pos c38]
    exact lw_1586 N (nL_law_18 N m) h hL hi hc hN
  rw [if_neg c38]
  by_cases c39 : x = (39 : Int32)
  · rw [if_pos c39]
    exact lw_1609 N (nL_law_18 N m) h hL hi hc hN
  rw [if_neg c39]
  by_cases c40 : x = (40 : Int32)
  · rw [if_pos c40]
    exact lw_1662 N (nL_law_18 N m) h hL hi hc hN
  rw [if_neg c40]
  by_cases c41 : x = (41 : Int32)
  · rw [if_pos c41]
    exact lw_1685 N (nL_law_18 N m) h hL hi hc hN
  rw [if_neg c41]
  by_cases c42 : x = (42 : Int32)
  · rw [if_pos c42]
    exact lw_1698 N (nL_law_18 N m) h hL hi hc hN
  rw [if_neg c42]
  by_cases c43 : x = (43 : Int32)
  · rw [if_pos c43]
    exact lw_1721 N (nL_law_18 N m) h hL hi hc hN
  rw [if_neg c43]
  by_cases c44 : x = (44 : Int32)
  · rw [if_pos c44]
    exact lw_1764 N (nL_law_18 N m) h hL hi hc hN
  rw [if_neg c44]
  by_cases c45 : x = (45 : Int32)
  · rw [if_pos c45]
    exact lw_1797 N (nL_law_18 N m) h hL hi hc hN
  rw [if_neg c45]
  by_cases c46 : x = (46 : Int32)
  · rw [if_pos c46]
    exact lw_1820 N (nL_law_18 N m) h hL hi hc hN
  rw [if_neg c46]
  by_cases c47 : x = (47 : Int32)
  · rw [if_pos c47]
    exact lw_1853 N (nL_law_18 N m) h hL hi hc hN
  rw [if_neg c47]
  by_cases c48 : x = (48 : Int32)
  · rw [if_pos c48]
    exact lw_1876 N (nL_law_18 N m) h hL hi hc hN
  rw [if_neg c48]
  by_cases c49 : x = (49 : Int32)
  · rw [if_pos c49]
    exact lw_1899 N (nL_law_18 N m) h hL hi hc hN
  rw [if_neg c49]
  by_cases c50 : x = (50 : Int32)
  · rw [if_pos c50]
    exact lw_1922 N (nL_law_18 N m) h hL hi hc hN
  rw [if_neg c50]
  refine ⟨κ, ?_, h.more (by omega)⟩
  rw [nL_law_1935, lw_ad.2.2.2.2.2]
theorem lw_end (m : Nat) (h : Inv L xs c κ) (hL : L ≤ 3072) (hi : ¬ i + 6 ≤ L) (hi' : i ≤ L) : nL_law_18 N (m + 1) 0 0 69 (n3 i) (hp κ) = some (1, hp κ) := by
  have hx := h.xx
  have le : ¬ n3 i ≤ n3 L - (6 : Int32) := by
    show ¬ z3 (i : Int) ≤ z3 (L : Int) - z3 6
    rw [z3_sub, z3_le (by omega) (by omega) (by omega) (by omega)]
    omega
  rw [nL_law_18, lw_xL hx, Option.bind_some, if_neg le]
theorem lw_all (hL : L ≤ 3072) (hN : 100000 < N) : ∀ (d c m : Nat) (κ : hk_T), Inv L xs c κ → 6 * c ≤ L → L ≤ 6 * c + d → d < m → ∃ κ' c', nL_law_18 N m 0 0 69 (n3 (6 * c)) (hp κ) = some (1, hp κ') ∧ Inv L xs c' κ' ∧ c' ≤ 512 := by
  intro d
  induction d with
  | zero =>
    intro c m κ h h1 h2 h3
    obtain ⟨m, rfl⟩ : ∃ q, m = q + 1 := ⟨m - 1, by omega⟩
    exact ⟨κ, c, lw_end N m h hL (by omega) (by omega), h, by omega⟩
  | succ d ih =>
    intro c m κ h h1 h2 h3
    obtain ⟨m, rfl⟩ : ∃ q, m = q + 1 := ⟨m - 1, by omega⟩
    by_cases q : 6 * c + 6 ≤ L
    · obtain ⟨κ2, e, g⟩ := lw_one N m h hL q (by omega) hN
      rw [e, show 6 * c + 6 = 6 * (c + 1) by omega]
      exact ih (c + 1) m κ2 g (by omega) (by omega) (by omega)
    · exact ⟨κ, c, lw_end N m h hL q (by omega), h, by omega⟩
end
