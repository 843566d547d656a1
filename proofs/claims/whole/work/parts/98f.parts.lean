/-! the invariant's parts, one by one -/
def InvC (L : Nat) (xs : Nat → Int32) (c : Nat) (κ : hk_T) (n nT nL nS : Nat) (T : Nat → tauT) : Prop := hk_x κ = ra_ex0 L xs ∧ roI κ c ∧ HR (hk_I κ 1) (fun i => hk_A κ (2 + i)) (hk_A κ 71) n nT nL nS ∧ tTab κ (hk_Q κ 6) (hk_A κ 71) nT T ∧ (imOk κ 0 ∧ imOk κ 1 ∧ imDj κ) ∧ scI κ ∧ taI κ ∧ woI κ ∧ rfI κ c ∧ caI κ n nT nL nS T
theorem InvC.inv {L : Nat} {xs : Nat → Int32} {c : Nat} {κ : hk_T} {n nT nL nS : Nat} {T : Nat → tauT} (h : InvC L xs c κ n nT nL nS T) : Inv L xs c κ := ⟨n, nT, nL, nS, T, h⟩
section
variable {κ κ' : hk_T} {ks : List Nat} {fs : List (Nat × Nat)}
theorem same.ro (s : same ks fs κ κ') {c : Nat} (h : roI κ c) : roI κ' (c + 1) := by
  obtain ⟨a1, a2, a3, a4, a5, a6, a7, a8, a9⟩ := s
  obtain ⟨b1, b2, z, b3, b4⟩ := h
  exact ⟨by omega, by omega, z, b3.cg a5 a6 a7, by omega⟩
theorem same.xx (s : same ks fs κ κ') {L : Nat} {xs : Nat → Int32} (h : hk_x κ = ra_ex0 L xs) : hk_x κ' = ra_ex0 L xs := by rw [s.2.2.2.2.2.2.2.2]; exact h
theorem same.pl (s : same ks fs κ κ') : pL κ' = pL κ := by
  show [hk_P κ' 8, hk_P κ' 9, hk_P κ' 10, hk_P κ' 11] = [hk_P κ 8, hk_P κ 9, hk_P κ 10, hk_P κ 11]
  rw [s.2.2.2.2.1]
theorem same.tt (s : same ks fs κ κ') {nT : Nat} {T : Nat → tauT} {M M' : Nat → Int32} {Q : Nat → Option Nat} (h8 : nT ≤ 8) (e : ∀ x, 760 ≤ x → x < 7960 → M' x = M x) (h : tTab κ Q M nT T) : tTab κ' Q M' nT T := by
  have pl := s.pl
  obtain ⟨a1, a2, a3, a4, a5, a6, a7, a8, a9⟩ := s
  exact h.cg h8 (by omega) (fun k z => Or.inl (by rw [← pl]; exact z)) (fun i a _ e => Or.inl (by rw [← a4]; exact e)) (fun k _ => by rw [a6]) e
theorem same.ttq (s : same ks fs κ κ') {nT : Nat} {T : Nat → tauT} (h8 : nT ≤ 8) (e : ∀ x, 760 ≤ x → x < 7960 → hk_A κ' 71 x = hk_A κ 71 x) (h : tTab κ (hk_Q κ 6) (hk_A κ 71) nT T) : tTab κ' (hk_Q κ' 6) (hk_A κ' 71) nT T := by
  rw [s.2.2.2.1]
  exact s.tt h8 e h
theorem same.im (s : same ks fs κ κ') (h72 : 72 ∉ ks) (h73 : 73 ∉ ks) (h : imOk κ 0 ∧ imOk κ 1 ∧ imDj κ) : imOk κ' 0 ∧ imOk κ' 1 ∧ imDj κ' := by
  have pl := s.pl
  obtain ⟨a1, a2, a3, a4, a5, a6, a7, a8, a9⟩ := s
  have e2 : ∀ k, k ∈ pL κ' → k ∈ pL κ ∨ hk_n κ ≤ k := fun k z => Or.inl (by rw [← pl]; exact z)
  have e3 : ∀ i a, i < 2 → hk_Q κ' 15 i = some a → hk_Q κ 15 i = some a ∨ hk_n κ ≤ a := fun i a _ e => Or.inl (by rw [← a4]; exact e)
  refine ⟨?_, ?_, ?_⟩
  · exact h.1.cg (by omega) (by rw [a4]) (by omega) e2 e3 (fun k _ => by rw [a6]) (fun _ _ _ _ _ _ _ => by rw [a6]) (fun x _ => by rw [a1 72 h72]) (by rw [a1 73 h73])
  · exact h.2.1.cg (by omega) (by rw [a4]) (by omega) e2 e3 (fun k _ => by rw [a6]) (fun _ _ _ _ _ _ _ => by rw [a6]) (fun x _ => by rw [a1 72 h72]) (by rw [a1 73 h73])
  · intro a b
    rw [a4]
    exact h.2.2 a b
theorem same.sc (s : same ks fs κ κ') (h1 : ∀ k ∈ [68, 70], k ∉ ks) (h2 : ∀ q ∈ [(0, 10), (0, 11), (0, 12), (69, 1), (69, 6), (69, 13)], q ∉ fs) (h : scI κ) : scI κ' := by
  unfold scI
  rw [s.2.2.1 0 10 (h2 _ (by decide)), s.2.2.1 0 11 (h2 _ (by decide)), s.2.2.1 0 12 (h2 _ (by decide)), s.2.2.1 69 1 (h2 _ (by decide)), s.2.2.1 69 6 (h2 _ (by decide)), s.2.2.1 69 13 (h2 _ (by decide)), s.1 68 (h1 _ (by decide)), s.1 70 (h1 _ (by decide))]
  exact h
/-- accepted: both say 0 -/
theorem same.sa (s : same ks fs κ κ') (h1 : ∀ k ∈ [68, 70], k ∉ ks) (h2 : ∀ q ∈ [(0, 11), (0, 12), (69, 6), (69, 13)], q ∉ fs) (g1 : hk_I κ' 0 10 = n3 0) (g2 : hk_I κ' 69 1 = n3 0) (h : scI κ) : scI κ' := by
  unfold scI
  rw [g1, g2, s.2.2.1 0 11 (h2 _ (by decide)), s.2.2.1 0 12 (h2 _ (by decide)), s.2.2.1 69 6 (h2 _ (by decide)), s.2.2.1 69 13 (h2 _ (by decide)), s.1 68 (h1 _ (by decide)), s.1 70 (h1 _ (by decide))]
  exact ⟨rfl, h.2⟩
theorem same.ta (s : same ks fs κ κ') (h1 : ∀ k ∈ [17, 74], k ∉ ks) (h2 : ∀ q ∈ [(16, 1), (69, 8)], q ∉ fs) (h : taI κ) : taI κ' := by
  obtain ⟨B, len, b1, b2⟩ := h
  exact ⟨B, len, b1.same s (h1 _ (by decide)) (h2 _ (by decide)), b2.same s (h1 _ (by decide)) (h2 _ (by decide))⟩
theorem same.wo (s : same ks fs κ κ') (h1 : ∀ k ∈ [67, 100], k ∉ ks) (h2 : ∀ q ∈ [(66, 1), (69, 56)], q ∉ fs) (h : woI κ) : woI κ' := by
  unfold woI
  rw [s.2.2.1 66 1 (h2 _ (by decide)), s.2.2.1 69 56 (h2 _ (by decide)), s.1 67 (h1 _ (by decide)), s.1 100 (h1 _ (by decide))]
  exact h
theorem same.rf (s : same ks fs κ κ') (h1 : ∀ k ∈ [80, 81, 86], k ∉ ks) (h2 : (69, 38) ∉ fs) {c : Nat} (h : rfI κ c) : rfI κ' (c + 1) := by
  obtain ⟨a, u, b1, b2, b3⟩ := h
  refine ⟨a.same s (h1 _ (by decide)) (h1 _ (by decide)), u, by omega, by rw [s.2.2.1 69 38 h2]; exact b2, by rw [s.1 86 (h1 _ (by decide))]; exact b3⟩
theorem same.ca (s : same ks fs κ κ') {n nT nL nS : Nat} {T : Nat → tauT} (h1 : ∀ k ∈ [2, 3, 5, 7, 11, 24, 25, 27, 29, 35, 36, 37, 59, 60, 65], k ∉ ks) (h2 : ∀ q ∈ [(1, 17), (1, 18), (1, 19), (23, 9), (23, 10), (34, 3), (40, 12), (40, 15), (40, 16), (40, 17), (61, 4), (61, 6)], q ∉ fs) (h : caI κ n nT nL nS T) : caI κ' n nT nL nS T := h.cg (fun k hk => s.1 k (h1 k hk)) (fun k j hk => s.2.2.1 k j (h2 _ hk))
/-- holdings as they were -/
theorem same.hr (s : same ks fs κ κ') {n nT nL nS : Nat} (h1 : ∀ k ∈ [2, 3, 4, 5, 7, 8, 9, 10, 11, 12, 13, 14, 71], k ∉ ks) (h2 : ∀ q ∈ fs, q.1 ≠ 1) (h : HR (hk_I κ 1) (fun i => hk_A κ (2 + i)) (hk_A κ 71) n nT nL nS) : HR (hk_I κ' 1) (fun i => hk_A κ' (2 + i)) (hk_A κ' 71) n nT nL nS := by
  refine h.cg (fun j _ _ => s.2.2.1 1 j (fun z => h2 _ z rfl)) (fun i x hi h4 _ => ?_) (fun x _ => by rw [s.1 71 (h1 _ (by decide))])
  have c : i = 0 ∨ i = 1 ∨ i = 2 ∨ i = 3 ∨ i = 5 ∨ i = 6 ∨ i = 7 ∨ i = 8 ∨ i = 9 ∨ i = 10 ∨ i = 11 ∨ i = 12 := by omega
  show hk_A κ' (2 + i) x = hk_A κ (2 + i) x
  rw [s.1 (2 + i) (h1 _ (by rcases c with rfl | rfl | rfl | rfl | rfl | rfl | rfl | rfl | rfl | rfl | rfl | rfl <;> decide))]
end
/-! refused calls -/
theorem same.cRef (κ : hk_T) (k : Nat) : same [68] [(0, 10)] κ (cRef κ k) := ((same.refl _ _ _).wI (by decide)).wA (by decide)
theorem same.rRef (κ : hk_T) (k : Nat) : same [70] [(69, 0), (69, 1)] κ (rRef κ k) := (((same.refl _ _ _).wI (by decide)).wI (by decide)).wA (by decide)
theorem Inv.ref {L : Nat} {xs : Nat → Int32} {c k : Nat} {κ : hk_T} (h : Inv L xs c κ) : Inv L xs (c + 1) (rRef (cRef κ k) k) := by
  obtain ⟨n, nT, nL, nS, T, h1, h2, h3, h4, h5, h8, h9, h10, h11, h12⟩ := h
  have s : same [68, 70] [(0, 10), (69, 0), (69, 1)] κ (rRef (cRef κ k) k) := ((same.cRef κ k).weak (by decide) (by decide)).trans ((same.rRef _ k).weak (by decide) (by decide))
  refine InvC.inv (n := n) (nT := nT) (nL := nL) (nS := nS) (T := T) ⟨s.xx h1, s.ro h2, s.hr (by decide) (by decide) h3, s.ttq h3.1.2.1.2.1 (fun x _ _ => by rw [s.1 71 (by decide)]) h4, s.im (by decide) (by decide) h5, ?_, s.ta (by decide) (by decide) h9, s.wo (by decide) (by decide) h10, s.rf (by decide) (by decide) h11, s.ca (by decide) (by decide) h12⟩
  obtain ⟨b1, b2, b3, b4⟩ := h8
  have a68 : ∀ j, hk_A (rRef (cRef κ k) k) 68 j = if j = k then hk_A κ 68 k + n3 1 else hk_A κ 68 j := fun j => by
    show hk_A (hk_wA (hk_wI (hk_wI (cRef κ k) 69 0 (n3 0)) 69 1 (-n3 k)) 70 k _) 68 j = _
    rw [A_row (by decide)]
    show hk_A (hk_wA (hk_wI κ 0 10 (-n3 k)) 68 k (hk_A κ 68 k + n3 1)) 68 j = _
    by_cases e : j = k
    · rw [if_pos e, A_eq e]
    · rw [if_neg e, A_ne (Or.inr e)]
      rfl
  have a70 : ∀ j, hk_A (rRef (cRef κ k) k) 70 j = if j = k then hk_A κ 70 k + n3 1 else hk_A κ 70 j := fun j => by
    have e0 : hk_A (cRef κ k) 70 = hk_A κ 70 := (same.cRef κ k).1 70 (by decide)
    show hk_A (hk_wA (hk_wI (hk_wI (cRef κ k) 69 0 (n3 0)) 69 1 (-n3 k)) 70 k (hk_A (cRef κ k) 70 k + n3 1)) 70 j = _
    by_cases e : j = k
    · rw [if_pos e, A_eq e, e0]
    · rw [if_neg e, A_ne (Or.inr e)]
      show hk_A (cRef κ k) 70 j = _
      rw [e0]
  refine ⟨?_, ?_, ?_, fun j hj => ?_⟩
  · show hk_I (cRef κ k) 0 10 = hk_I (hk_wI (hk_wI (cRef κ k) 69 0 (n3 0)) 69 1 (-n3 k)) 69 1
    rw [I_eq]
    show hk_I (hk_wI κ 0 10 (-n3 k)) 0 10 = _
    exact I_eq
  · rw [s.2.2.1 0 11 (by decide), s.2.2.1 69 6 (by decide)]
    exact b2
  · rw [s.2.2.1 0 12 (by decide), s.2.2.1 69 13 (by decide)]
    exact b3
  · rw [a68, a70]
    by_cases e : j = k
    · rw [if_pos e, if_pos e, ← e, b4 j hj]
    · rw [if_neg e, if_neg e, b4 j hj]
theorem callOk.ref {L : Nat} {xs : Nat → Int32} {c k : Nat} {κ : hk_T} {fc fr : ra_H → Option (Int32 × ra_H)} (h : Inv L xs c κ) (e1 : fc (hp κ) = some (-n3 k, hp (cRef κ k))) (e2 : fr (hp (cRef κ k)) = some (-n3 k, hp (rRef (cRef κ k) k))) : callOk L xs c κ fc fr := ⟨_, _, _, e1, e2, rfl, h.ref⟩
/-- questions without a trace: the class leaves all as it is, the reference its first field -/
theorem callOk.ask {L : Nat} {xs : Nat → Int32} {c : Nat} {κ : hk_T} {fc fr : ra_H → Option (Int32 × ra_H)} {v v' : Int32} (h : Inv L xs c κ) (e1 : fc (hp κ) = some (v, hp κ)) (e2 : fr (hp κ) = some (v', hp (hk_wI κ 69 0 (n3 0)))) (e : v = v') : callOk L xs c κ fc fr := by
  subst e
  exact callOk.scr (ks := []) (fs := []) (ks' := []) (fs' := [(69, 0)]) h e1 e2 (same.refl _ _ _) ((same.refl _ _ _).wI (by decide)) (by decide) (by decide) (by decide) (by decide)
