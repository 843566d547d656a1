/-! holdings and caches, piece by piece -/
theorem hrN.r {I I' M M' : Nat → Int32} {n nT nL nS : Nat} (h : hrN I M n nT nL nS) (eI : ∀ j, 13 ≤ j → j < 17 → I' j = I j) (eM : ∀ x, 480 ≤ x → x < 484 → M' x = M x) : hrN I' M' n nT nL nS := by
  unfold hrN
  rw [eI 13 (by omega) (by omega), eI 14 (by omega) (by omega), eI 15 (by omega) (by omega), eI 16 (by omega) (by omega), eM 480 (by omega) (by omega), eM 481 (by omega) (by omega), eM 482 (by omega) (by omega), eM 483 (by omega) (by omega)]
  exact h
theorem hrK.r {I I' M M' : Nat → Int32} {nT : Nat} (h : hrK I M nT) (eI : ∀ j, 17 ≤ j → j < 20 → I' j = I j) (eM : ∀ x, 484 ≤ x → x < 487 → M' x = M x) : hrK I' M' nT := by
  unfold hrK
  rw [eI 17 (by omega) (by omega), eI 18 (by omega) (by omega), eI 19 (by omega) (by omega), eM 484 (by omega) (by omega), eM 485 (by omega) (by omega), eM 486 (by omega) (by omega)]
  exact h
theorem hrF.r {F F' M M' : Nat → Int32} {n : Nat} (h : hrF F M n) (eF : F' = F) (eM : ∀ x, x < 12 * n → M' x = M x) : hrF F' M' n := by
  subst eF
  exact ⟨fun i hi => by rw [eM i hi]; exact h.1 i hi, h.2⟩
theorem hrS.r {A B C A' B' C' M M' : Nat → Int32} (h : hrS A B C M) (e1 : A' = A) (e2 : B' = B) (e3 : C' = C) (eM : ∀ x, 490 ≤ x → x < 608 → M' x = M x) : hrS A' B' C' M' := by
  subst e1 e2 e3
  exact ⟨fun b hb => by rw [eM _ (by omega) (by omega)]; exact h.1 b hb, fun x hx => by rw [eM _ (by omega) (by omega), eM _ (by omega) (by omega)]; exact h.2 x hx⟩
theorem hrH.r {A B C A' B' C' M M' : Nat → Int32} (h : hrH A B C M) (e1 : A' = A) (e2 : B' = B) (e3 : C' = C) (eM : ∀ x, 610 ≤ x → x < 646 → M' x = M x) : hrH A' B' C' M' := by
  subst e1 e2 e3
  intro x hx
  rw [eM _ (by omega) (by omega), eM _ (by omega) (by omega), eM _ (by omega) (by omega)]
  exact h x hx
theorem hrL.r {A B A' B' M M' : Nat → Int32} {nL : Nat} (h : hrL A B M nL) (h12 : nL ≤ 12) (e1 : A' = A) (e2 : B' = B) (eM : ∀ x, 650 ≤ x → x < 722 → M' x = M x) : hrL A' B' M' nL := by
  subst e1 e2
  exact ⟨fun l hl => by rw [eM _ (by omega) (by omega), eM _ (by omega) (by omega), eM _ (by omega) (by omega), eM _ (by omega) (by omega), eM _ (by omega) (by omega), eM _ (by omega) (by omega)]; exact h.1 l hl, h.2⟩
theorem hrZ.r {A A' M M' : Nat → Int32} {nS n : Nat} (h : hrZ A M nS n) (h9 : nS ≤ 9) (e1 : A' = A) (eM : ∀ x, 725 ≤ x → x < 734 → M' x = M x) : hrZ A' M' nS n := by
  subst e1
  exact ⟨fun i hi => by rw [eM _ (by omega) (by omega)]; exact h.1 i hi, h.2⟩
theorem hrB.r {A B A' B' M M' : Nat → Int32} (h : hrB A B M) (e1 : A' = A) (e2 : B' = B) (eM : ∀ x, 735 ≤ x → x < 755 → M' x = M x) : hrB A' B' M' := by
  subst e1 e2
  intro s hs
  rw [eM _ (by omega) (by omega), eM _ (by omega) (by omega)]
  exact h s hs
/-- the same in the heap's words -/
def HK (κ : hk_T) (n nT nL nS : Nat) : Prop := hrN (hk_I κ 1) (hk_A κ 71) n nT nL nS ∧ hrK (hk_I κ 1) (hk_A κ 71) nT ∧ hrF (hk_A κ 2) (hk_A κ 71) n ∧ hrS (hk_A κ 3) (hk_A κ 4) (hk_A κ 5) (hk_A κ 71) ∧ hrH (hk_A κ 12) (hk_A κ 13) (hk_A κ 14) (hk_A κ 71) ∧ hrL (hk_A κ 7) (hk_A κ 8) (hk_A κ 71) nL ∧ hrZ (hk_A κ 11) (hk_A κ 71) nS n ∧ hrB (hk_A κ 9) (hk_A κ 10) (hk_A κ 71)
theorem HK.hr {κ : hk_T} {n nT nL nS : Nat} (h : HK κ n nT nL nS) : HR (hk_I κ 1) (fun i => hk_A κ (2 + i)) (hk_A κ 71) n nT nL nS := h
theorem HR.hk {κ : hk_T} {n nT nL nS : Nat} (h : HR (hk_I κ 1) (fun i => hk_A κ (2 + i)) (hk_A κ 71) n nT nL nS) : HK κ n nT nL nS := h
section
variable {κ κ' : hk_T} {ks : List Nat} {fs : List (Nat × Nat)}
def ca3P (κ : hk_T) (n : Nat) (T : Nat → tauT) : Prop := hk_I κ 23 9 = n3 0 ∨ ∃ fi sc y, (hk_I κ 1 17 = n3 fi ∧ fi < 8 ∧ sc < 8 ∧ y ≤ 200) ∧ hk_I κ 1 18 = n3 sc ∧ hk_I κ 1 19 = n3 y ∧ kRows κ n fi sc y T (hk_A κ 2) (hk_A κ 3) (hk_A κ 5)
def ca4P (κ : hk_T) (n nT : Nat) (T : Nat → tauT) : Prop := hk_I κ 23 10 = n3 0 ∨ hk_I κ 23 10 = n3 1 ∧ bR κ (bestF (rF κ T) (cmF (hk_A κ 2)) n nT)
def ca5P (κ : hk_T) (n nL : Nat) : Prop := hk_I κ 40 12 = n3 0 ∨ hk_I κ 40 12 = n3 1 ∧ mOut κ (agC κ) n nL
def ca6P (κ : hk_T) (nS : Nat) : Prop := hk_I κ 61 4 = n3 0 ∨ hk_I κ 61 4 = n3 1 ∧ layC κ nS (zF (hk_A κ 11)) (dmF (hk_A κ 2)) (hk_A κ 2)
theorem same.c1 (s : same ks fs κ κ') (h1 : ∀ k ∈ [2, 24, 25], k ∉ ks) {T : Nat → tauT} {nT n : Nat} (h : cA κ (hk_A κ 2) T nT n) : cA κ' (hk_A κ' 2) T nT n := by
  unfold cA at h ⊢
  rw [s.1 2 (h1 _ (by decide)), s.1 24 (h1 _ (by decide)), s.1 25 (h1 _ (by decide))]
  exact h
theorem same.c2 (s : same ks fs κ κ') (h1 : 27 ∉ ks) (h : ∀ s, s < 5346 → hk_A κ 27 s = n3 0) : ∀ s, s < 5346 → hk_A κ' 27 s = n3 0 := by
  rw [s.1 27 h1]
  exact h
theorem same.c3 (s : same ks fs κ κ') (h1 : ∀ k ∈ [2, 3, 5, 35, 36, 37], k ∉ ks) (h2 : ∀ q ∈ [(1, 17), (1, 18), (1, 19), (23, 9), (34, 3)], q ∉ fs) {n : Nat} {T : Nat → tauT} (h : ca3P κ n T) : ca3P κ' n T := by
  unfold ca3P
  rw [s.2.2.1 23 9 (h2 _ (by decide)), s.2.2.1 1 17 (h2 _ (by decide)), s.2.2.1 1 18 (h2 _ (by decide)), s.2.2.1 1 19 (h2 _ (by decide)), s.1 2 (h1 _ (by decide)), s.1 3 (h1 _ (by decide)), s.1 5 (h1 _ (by decide))]
  rcases h with h | ⟨fi, sc, y, b1, b2, b3, b4⟩
  · exact Or.inl h
  · exact Or.inr ⟨fi, sc, y, b1, b2, b3, b4.cg (s.1 35 (h1 _ (by decide))) (s.1 36 (h1 _ (by decide))) (s.1 37 (h1 _ (by decide))) (s.2.2.1 34 3 (h2 _ (by decide)))⟩
theorem same.c4 (s : same ks fs κ κ') (h1 : ∀ k ∈ [2, 3, 5, 29], k ∉ ks) (h2 : (23, 10) ∉ fs) {n nT : Nat} {T : Nat → tauT} (h : ca4P κ n nT T) : ca4P κ' n nT T := by
  have er : rF κ' T = rF κ T := by
    funext t b
    unfold rF
    rw [s.1 2 (h1 _ (by decide)), s.1 3 (h1 _ (by decide)), s.1 5 (h1 _ (by decide))]
  unfold ca4P
  rw [s.2.2.1 23 10 h2, er, s.1 2 (h1 _ (by decide))]
  rcases h with h | ⟨b1, b2⟩
  · exact Or.inl h
  · exact Or.inr ⟨b1, b2.keep (s.1 29 (h1 _ (by decide)))⟩
theorem same.c5 (s : same ks fs κ κ') (h1 : ∀ k ∈ [2, 7, 59, 60], k ∉ ks) (h2 : ∀ q ∈ [(40, 12), (40, 15), (40, 16), (40, 17)], q ∉ fs) {n nL : Nat} (h : ca5P κ n nL) : ca5P κ' n nL := by
  have er : agC κ' = agC κ := by
    funext l b
    unfold agC
    rw [s.1 2 (h1 _ (by decide)), s.1 7 (h1 _ (by decide))]
  unfold ca5P
  rw [s.2.2.1 40 12 (h2 _ (by decide)), er]
  rcases h with h | ⟨b1, b2⟩
  · exact Or.inl h
  · exact Or.inr ⟨b1, b2.cg (s.2.2.1 40 15 (h2 _ (by decide))) (s.2.2.1 40 16 (h2 _ (by decide))) (s.2.2.1 40 17 (h2 _ (by decide))) (s.1 59 (h1 _ (by decide))) (s.1 60 (h1 _ (by decide)))⟩
theorem same.c6 (s : same ks fs κ κ') (h1 : ∀ k ∈ [2, 11, 65], k ∉ ks) (h2 : ∀ q ∈ [(61, 4), (61, 6)], q ∉ fs) {nS : Nat} (h : ca6P κ nS) : ca6P κ' nS := by
  unfold ca6P
  rw [s.2.2.1 61 4 (h2 _ (by decide)), s.1 2 (h1 _ (by decide)), s.1 11 (h1 _ (by decide))]
  rcases h with h | ⟨b1, b2⟩
  · exact Or.inl h
  · exact Or.inr ⟨b1, b2.cg (s.2.2.1 61 6 (h2 _ (by decide))) (s.1 65 (h1 _ (by decide)))⟩
end
section
variable (N : Nat) {L c : Nat} {xs : Nat → Int32} {κ : hk_T}
theorem k_bay (h : Inv L xs c κ) (b s : Int32) : callOk L xs c κ (fX11_bay N 0 b s) (fX12_bay N 69 b s) := by
  by_cases v : vIn 0 8 b = true ∧ vIn 0 2 s = true
  · obtain ⟨n, nT, nL, nS, T, h1, h2, h3, h4, h5, h8, h9, h10, h11, h12⟩ := h
    obtain ⟨b, -, b1, rfl⟩ := vK (lo := 0) (hi := 8) v.1
    obtain ⟨s, -, s1, rfl⟩ := vK (lo := 0) (hi := 2) v.2
    have k3 := h3.hk
    have e1 := c_bay N κ (b := b) (s := s) (by omega) s1
    obtain ⟨κ1, q1⟩ : ∃ κ1, κ1 = hk_wI (hk_wI (hk_wI (hk_wA κ 3 b (n3 s)) 23 9 (n3 0)) 23 10 (n3 0)) 0 10 (n3 0) := ⟨_, rfl⟩
    have e2 := r_bay N κ1 (b := b) (s := s) (by omega) s1
    obtain ⟨κ2, q2⟩ : ∃ κ2, κ2 = hk_wI (hk_wA (hk_wI κ1 69 0 (n3 0)) 71 (490 + b) (n3 s)) 69 1 (n3 0) := ⟨_, rfl⟩
    rw [← q1] at e1
    rw [← q2] at e2
    have sa : same [3, 71] [(23, 9), (23, 10), (0, 10), (69, 0), (69, 1)] κ κ1 := by
      rw [q1]
      exact ((((same.refl _ _ _).wA (by decide)).wI (by decide)).wI (by decide)).wI (by decide)
    have sb : same [3, 71] [(23, 9), (23, 10), (0, 10), (69, 0), (69, 1)] κ κ2 := by
      rw [q2]
      exact ((sa.wI (by decide)).wA (by decide)).wI (by decide)
    have m1 : hk_A κ1 71 = hk_A κ 71 := by rw [q1]; show hk_A (hk_wA κ 3 b (n3 s)) 71 = _; exact A_row (by decide)
    have m2 : ∀ x, hk_A κ2 71 x = if x = 490 + b then n3 s else hk_A κ 71 x := fun x => by
      rw [q2]
      show hk_A (hk_wA (hk_wI κ1 69 0 (n3 0)) 71 (490 + b) (n3 s)) 71 x = _
      by_cases e : x = 490 + b
      · rw [if_pos e, A_eq e]
      · rw [if_neg e, A_ne (Or.inr e)]
        show hk_A κ1 71 x = _
        rw [m1]
    have d2 : ∀ x, hk_A κ2 3 x = if x = b then n3 s else hk_A κ 3 x := fun x => by
      rw [q2]
      show hk_A (hk_wA (hk_wI κ1 69 0 (n3 0)) 71 (490 + b) (n3 s)) 3 x = _
      rw [A_row (by decide), q1]
      show hk_A (hk_wA κ 3 b (n3 s)) 3 x = _
      by_cases e : x = b
      · rw [if_pos e, A_eq e]
      · rw [if_neg e, A_ne (Or.inr e)]
    have mo : ∀ x, (x < 490 ∨ 499 ≤ x) → hk_A κ2 71 x = hk_A κ 71 x := fun x hx => by rw [m2, if_neg (by omega)]
    have f9 : hk_I κ2 23 9 = n3 0 := by
      rw [q2, I_ne (by decide)]
      show hk_I (hk_wI κ1 69 0 (n3 0)) 23 9 = _
      rw [I_ne (by decide), q1, I_ne (by decide), I_ne (by decide), I_eq]
    have f10 : hk_I κ2 23 10 = n3 0 := by
      rw [q2, I_ne (by decide)]
      show hk_I (hk_wI κ1 69 0 (n3 0)) 23 10 = _
      rw [I_ne (by decide), q1, I_ne (by decide), I_eq]
    have g0 : hk_I κ2 0 10 = n3 0 := by
      rw [q2, I_ne (by decide)]
      show hk_I (hk_wI κ1 69 0 (n3 0)) 0 10 = _
      rw [I_ne (by decide), q1, I_eq]
    have g1 : hk_I κ2 69 1 = n3 0 := by rw [q2, I_eq]
    have eI : ∀ j, hk_I κ2 1 j = hk_I κ 1 j := fun j => sb.2.2.1 1 j (fun z => by
      have : ∀ q ∈ [(23, 9), (23, 10), (0, 10), (69, 0), (69, 1)], q.1 ≠ 1 := by decide
      exact this _ z rfl)
    refine ⟨hk_A κ 3 b, κ1, κ2, e1, ?_, sa.2.2.2.2.2.2.2.2, InvC.inv (n := n) (nT := nT) (nL := nL) (nS := nS) (T := T) ⟨sb.xx h1, sb.ro h2, HK.hr ⟨?_, ?_, ?_, ?_, ?_, ?_, ?_, ?_⟩, sb.ttq k3.1.2.1.2.1 (fun x _ _ => mo x (by omega)) h4, sb.im (by decide) (by decide) h5, sb.sa (by decide) (by decide) g0 g1 h8, sb.ta (by decide) (by decide) h9, sb.wo (by decide) (by decide) h10, sb.rf (by decide) (by decide) h11, ⟨sb.c1 (by decide) h12.1, sb.c2 (by decide) h12.2.1, Or.inl f9, Or.inl f10, sb.c5 (by decide) (by decide) h12.2.2.2.2.1, sb.c6 (by decide) (by decide) h12.2.2.2.2.2⟩⟩⟩
    · rw [e2, m1, (k3.2.2.2.1.1 b (by omega)).1]
    · exact k3.1.r (fun j _ _ => eI j) (fun x _ _ => mo x (by omega))
    · exact k3.2.1.r (fun j _ _ => eI j) (fun x _ _ => mo x (by omega))
    · exact k3.2.2.1.r (sb.1 2 (by decide)) (fun x hx => mo x (by have := k3.1.1.2.1; omega))
    · refine ⟨fun x hx => ?_, fun x hx => ?_⟩
      · rw [m2, d2]
        by_cases e : x = b
        · rw [if_pos (by omega), if_pos e]
          exact ⟨rfl, v.2⟩
        · rw [if_neg (by omega), if_neg e]
          exact k3.2.2.2.1.1 x hx
      · rw [mo _ (by omega), mo _ (by omega), sb.1 4 (by decide), sb.1 5 (by decide)]
        exact k3.2.2.2.1.2 x hx
    · exact k3.2.2.2.2.1.r (sb.1 12 (by decide)) (sb.1 13 (by decide)) (sb.1 14 (by decide)) (fun x _ _ => mo x (by omega))
    · exact k3.2.2.2.2.2.1.r k3.1.2.2.1.2.1 (sb.1 7 (by decide)) (sb.1 8 (by decide)) (fun x _ _ => mo x (by omega))
    · exact k3.2.2.2.2.2.2.1.r k3.1.2.2.2.2.1 (sb.1 11 (by decide)) (fun x _ _ => mo x (by omega))
    · exact k3.2.2.2.2.2.2.2.r (sb.1 9 (by decide)) (sb.1 10 (by decide)) (fun x _ _ => mo x (by omega))
  · exact callOk.ref h (c_bay_x N κ v) (r_bay_x N _ v)
end
