/-! the invariant kept where nothing of it changes -/
theorem tOwn.cg {κ κ' : hk_T} {k : Nat} (h : tOwn κ k) (e1 : hk_n κ ≤ hk_n κ') (e2 : k ∈ pL κ' → k ∈ pL κ ∨ hk_n κ ≤ k) (e3 : ∀ i a, i < 2 → hk_Q κ' 15 i = some a → hk_Q κ 15 i = some a ∨ hk_n κ ≤ a) : tOwn κ' k := by
  obtain ⟨h1, h2, h3, h4⟩ := h
  refine ⟨h1, by omega, fun z => ?_, fun i a hi e => ?_⟩
  · rcases e2 z with z | z
    · exact h3 z
    · omega
  · rcases e3 i a hi e with z | z
    · exact h4 i a hi z
    · omega
theorem tOne.cg {κ κ' : hk_T} {q : Nat} {τ : tauT} (h : tOne κ q τ) (e1 : hk_n κ ≤ hk_n κ') (e2 : ∀ k, k ∈ pL κ' → k ∈ pL κ ∨ hk_n κ ≤ k) (e3 : ∀ i a, i < 2 → hk_Q κ' 15 i = some a → hk_Q κ 15 i = some a ∨ hk_n κ ≤ a) (e4 : ∀ k, tOwn κ k → hk_D κ' k = hk_D κ k) : tOne κ' q τ := by
  obtain ⟨c, hh, b, a1, a2, a3, a4, a5⟩ := h
  exact ⟨c, hh, b, a1.cg (e4 _ a2) (e4 _ a3) (e4 _ a4) (e4 _ a5), a2.cg e1 (e2 _) e3, a3.cg e1 (e2 _) e3, a4.cg e1 (e2 _) e3, a5.cg e1 (e2 _) e3⟩
theorem rTx.cg {W W' : Nat → Int32} {τ : tauT} (h : rTx W τ) (e : ∀ i, i < 900 → W' i = W i) : rTx W' τ := by
  intro N κ t bk hd h1 h2 h3 h4 h5 h6
  exact h N κ t bk hd h1 h2 h3 h4 h5 (fun i hi => by rw [h6 i hi, e i hi])
theorem tTab.cg {κ κ' : hk_T} {Q : Nat → Option Nat} {M M' : Nat → Int32} {nT : Nat} {T : Nat → tauT} (h : tTab κ Q M nT T) (h8 : nT ≤ 8) (e1 : hk_n κ ≤ hk_n κ') (e2 : ∀ k, k ∈ pL κ' → k ∈ pL κ ∨ hk_n κ ≤ k) (e3 : ∀ i a, i < 2 → hk_Q κ' 15 i = some a → hk_Q κ 15 i = some a ∨ hk_n κ ≤ a) (e4 : ∀ k, tOwn κ k → hk_D κ' k = hk_D κ k) (e5 : ∀ x, 760 ≤ x → x < 7960 → M' x = M x) : tTab κ' Q M' nT T := by
  obtain ⟨a1, a2⟩ := h
  refine ⟨fun t ht => ?_, fun t q ht e => ?_⟩
  · obtain ⟨q, b1, b2, b3, b4⟩ := a1 t ht
    exact ⟨q, b1, b2.cg e1 e2 e3 e4, b3, b4.cg (fun i hi => e5 _ (by omega) (by omega))⟩
  · obtain ⟨τ, b⟩ := a2 t q ht e
    exact ⟨τ, b.cg e1 e2 e3 e4⟩
/-- an image that nobody touched -/
theorem imOk.cg {κ κ' : hk_T} {i : Nat} (h : imOk κ i) (hi : i < 2) (e0 : hk_Q κ' 15 i = hk_Q κ 15 i) (e1 : hk_n κ ≤ hk_n κ') (e2 : ∀ k, k ∈ pL κ' → k ∈ pL κ ∨ hk_n κ ≤ k) (e3 : ∀ i a, i < 2 → hk_Q κ' 15 i = some a → hk_Q κ 15 i = some a ∨ hk_n κ ≤ a) (e4 : ∀ k, tOwn κ k → hk_D κ' k = hk_D κ k) (e5 : ∀ a k, hk_Q κ 15 i = some a → a ≤ k → k ≤ a + 13 → k < hk_n κ → k ∉ pL κ → hk_D κ' k = hk_D κ k) (e6 : ∀ x, x < 7960 → hk_A κ' 72 (7960 * i + x) = hk_A κ 72 (7960 * i + x)) (e7 : hk_A κ' 73 i = hk_A κ 73 i) : imOk κ' i := by
  rcases h with ⟨a1, a2⟩ | ⟨a, I, R, Q, n, nT, nL, nS, T, a1, a2, a3, a4, a5, a6, a7, a8⟩
  · exact Or.inl ⟨by rw [e0]; exact a1, by rw [e7]; exact a2⟩
  · refine Or.inr ⟨a, I, R, Q, n, nT, nL, nS, T, by rw [e0]; exact a1, by rw [e7]; exact a2, a3, by omega, fun k hk => ?_, a6.cg (fun k g1 g2 => e5 a k a1 g1 g2 (by omega) (fun z => a5 k z ⟨g1, g2⟩)), a7.cg (fun _ _ _ => rfl) (fun _ _ _ _ _ => rfl) (fun x hx => e6 x (by omega)), a8.cg a7.1.2.1.2.1 e1 e2 e3 e4 (fun x _ hx => e6 x hx)⟩
    rcases e2 k hk with z | z
    · exact a5 k z
    · omega
theorem kRows.cg {κ κ' : hk_T} {n fi sc y : Nat} {T : Nat → tauT} {F SD HI : Nat → Int32} (h : kRows κ n fi sc y T F SD HI) (e1 : hk_A κ' 35 = hk_A κ 35) (e2 : hk_A κ' 36 = hk_A κ 36) (e3 : hk_A κ' 37 = hk_A κ 37) (e4 : hk_I κ' 34 3 = hk_I κ 34 3) : kRows κ' n fi sc y T F SD HI := by
  unfold kRows at h ⊢
  rw [e1, e2, e3, e4]
  exact h
theorem mOut.cg {κ κ' : hk_T} {a : Nat → Nat → Int} {n L : Nat} (h : mOut κ a n L) (e1 : hk_I κ' 40 15 = hk_I κ 40 15) (e2 : hk_I κ' 40 16 = hk_I κ 40 16) (e3 : hk_I κ' 40 17 = hk_I κ 40 17) (e4 : hk_A κ' 59 = hk_A κ 59) (e5 : hk_A κ' 60 = hk_A κ 60) : mOut κ' a n L := by
  unfold mOut at h ⊢
  rw [e1, e2, e3, e4, e5]
  exact h
theorem layC.cg {κ κ' : hk_T} {n : Nat} {z dm : Nat → Nat} {F : Nat → Int32} (h : layC κ n z dm F) (e1 : hk_I κ' 61 6 = hk_I κ 61 6) (e2 : hk_A κ' 65 = hk_A κ 65) : layC κ' n z dm F := by
  obtain ⟨g, st, a1, a2, a3, a4⟩ := h
  refine ⟨g, st, a1, a2, a3, ?_⟩
  unfold lay at a4 ⊢
  rw [e1, e2]
  exact a4
theorem caI.cg {κ κ' : hk_T} {n nT nL nS : Nat} {T : Nat → tauT} (h : caI κ n nT nL nS T) (e1 : ∀ k, k ∈ [2, 3, 5, 7, 11, 24, 25, 27, 29, 35, 36, 37, 59, 60, 65] → hk_A κ' k = hk_A κ k) (e2 : ∀ k j, (k, j) ∈ [(1, 17), (1, 18), (1, 19), (23, 9), (23, 10), (34, 3), (40, 12), (40, 15), (40, 16), (40, 17), (61, 4), (61, 6)] → hk_I κ' k j = hk_I κ k j) : caI κ' n nT nL nS T := by
  obtain ⟨h1, h2, h3, h4, h5, h6⟩ := h
  have r2 := e1 2 (by decide)
  have r3 := e1 3 (by decide)
  have r5 := e1 5 (by decide)
  have r7 := e1 7 (by decide)
  have r11 := e1 11 (by decide)
  refine ⟨?_, ?_, ?_, ?_, ?_, ?_⟩
  · unfold cA at h1 ⊢
    rw [r2, e1 24 (by decide), e1 25 (by decide)]
    exact h1
  · rw [e1 27 (by decide)]
    exact h2
  · rw [e2 23 9 (by decide), e2 1 17 (by decide), e2 1 18 (by decide), e2 1 19 (by decide), r2, r3, r5]
    rcases h3 with h3 | ⟨fi, sc, y, b1, b2, b3, b4⟩
    · exact Or.inl h3
    · exact Or.inr ⟨fi, sc, y, b1, b2, b3, b4.cg (e1 35 (by decide)) (e1 36 (by decide)) (e1 37 (by decide)) (e2 34 3 (by decide))⟩
  · have er : rF κ' T = rF κ T := by
      funext t b
      unfold rF
      rw [r2, r3, r5]
    rw [e2 23 10 (by decide), er, r2]
    rcases h4 with h4 | ⟨b1, b2⟩
    · exact Or.inl h4
    · exact Or.inr ⟨b1, b2.keep (e1 29 (by decide))⟩
  · have er : agC κ' = agC κ := by
      funext l b
      unfold agC
      rw [r2, r7]
    rw [e2 40 12 (by decide), er]
    rcases h5 with h5 | ⟨b1, b2⟩
    · exact Or.inl h5
    · exact Or.inr ⟨b1, b2.cg (e2 40 15 (by decide)) (e2 40 16 (by decide)) (e2 40 17 (by decide)) (e1 59 (by decide)) (e1 60 (by decide))⟩
  · rw [e2 61 4 (by decide), r2, r11]
    rcases h6 with h6 | ⟨b1, b2⟩
    · exact Or.inl h6
    · exact Or.inr ⟨b1, b2.cg (e2 61 6 (by decide)) (e1 65 (by decide))⟩
theorem roomZ.cg {κ κ' : hk_T} {z : Nat} (h : roomZ κ z) (hP : hk_P κ' = hk_P κ) (hD : hk_D κ' = hk_D κ) (hn : hk_n κ' = hk_n κ) : roomZ κ' z := by
  rcases h with ⟨a, b⟩ | ⟨q, S, W, R, C, a, b⟩
  · exact Or.inl ⟨by rw [hP]; exact a, b⟩
  · exact Or.inr ⟨q, S, W, R, C, a.keep hP hD hn, b⟩
theorem rzP.cg {κ κ' : hk_T} {z : Nat} (h : rzP κ z) (hP : hk_P κ' = hk_P κ) (hD : hk_D κ' = hk_D κ) (hn : hk_n κ' = hk_n κ) : rzP κ' z := by
  refine ⟨h.1.cg hP hD hn, fun k hk => ?_⟩
  have e : pL κ' = pL κ := by
    show [hk_P κ' 8, hk_P κ' 9, hk_P κ' 10, hk_P κ' 11] = [hk_P κ 8, hk_P κ 9, hk_P κ 10, hk_P κ 11]
    rw [hP]
  rw [e] at hk
  rw [hn]
  exact h.2 k hk
theorem Inv.key {L : Nat} {xs : Nat → Int32} {c : Nat} {κ κ' : hk_T} (h : Inv L xs c κ) (s : sameK κ κ') : Inv L xs c κ' := by
  obtain ⟨n, nT, nL, nS, T, h1, h2, h3, h4, ⟨h5, h6, h7⟩, h8, h9, h10, h11, h12⟩ := h
  have pl := s.pL
  obtain ⟨s1, s2, s3, s4, s5, s6, s7, s8, s9, s10⟩ := s
  have r71 := s1 71 (by decide)
  have e2 : ∀ k, k ∈ pL κ' → k ∈ pL κ ∨ hk_n κ ≤ k := fun k z => Or.inl (by rw [← pl]; exact z)
  have e3 : ∀ i a, i < 2 → hk_Q κ' 15 i = some a → hk_Q κ 15 i = some a ∨ hk_n κ ≤ a := fun i a _ e => Or.inl (by rw [← s5]; exact e)
  refine ⟨n, nT, nL, nS, T, by rw [s10]; exact h1, ?_, ?_, ?_, ⟨?_, ?_, ?_⟩, ?_, ?_, ?_, ?_, ?_⟩
  · obtain ⟨b1, b2, z, b3, b4⟩ := h2
    exact ⟨by omega, by omega, z, b3.cg s6 s7 s8, by rw [s9]; exact b4⟩
  · rw [s4, r71]
    refine h3.cg (fun _ _ _ => rfl) (fun i x hi h4 _ => ?_) (fun _ _ => rfl)
    have c : i = 0 ∨ i = 1 ∨ i = 2 ∨ i = 3 ∨ i = 5 ∨ i = 6 ∨ i = 7 ∨ i = 8 ∨ i = 9 ∨ i = 10 ∨ i = 11 ∨ i = 12 := by omega
    show hk_A κ' (2 + i) x = hk_A κ (2 + i) x
    rw [s1 (2 + i) (by rcases c with rfl | rfl | rfl | rfl | rfl | rfl | rfl | rfl | rfl | rfl | rfl | rfl <;> decide)]
  · rw [s5, r71]
    exact h4.cg h3.1.2.1.2.1 (by omega) e2 e3 (fun k _ => by rw [s7]) (fun _ _ _ => rfl)
  · exact h5.cg (by omega) (by rw [s5]) (by omega) e2 e3 (fun k _ => by rw [s7]) (fun _ _ _ _ _ _ _ => by rw [s7]) (fun x _ => by rw [s1 72 (by decide)]) (by rw [s1 73 (by decide)])
  · exact h6.cg (by omega) (by rw [s5]) (by omega) e2 e3 (fun k _ => by rw [s7]) (fun _ _ _ _ _ _ _ => by rw [s7]) (fun x _ => by rw [s1 72 (by decide)]) (by rw [s1 73 (by decide)])
  · intro a b
    rw [s5]
    exact h7 a b
  · unfold scI
    rw [s3 0 10 (by decide), s3 0 11 (by decide), s3 0 12 (by decide), s3 69 1 (by decide), s3 69 6 (by decide), s3 69 13 (by decide), s1 68 (by decide), s1 70 (by decide)]
    exact h8
  · obtain ⟨B, len, b1, b2⟩ := h9
    refine ⟨B, len, ?_, ?_⟩
    · unfold cTape
      rw [s3 16 1 (by decide), s1 17 (by decide)]
      exact b1
    · unfold rTape
      rw [s3 69 8 (by decide), s1 74 (by decide)]
      exact b2
  · unfold woI
    rw [s3 66 1 (by decide), s3 69 56 (by decide), s1 67 (by decide), s1 100 (by decide)]
    exact h10
  · unfold rfI rWd
    rw [s2 80 (by decide), s2 81 (by decide), s3 69 38 (by decide), s1 86 (by decide)]
    exact h11
  · refine h12.cg (fun k hk => s1 k ?_) (fun k j hk => ?_)
    · have : ∀ k ∈ [2, 3, 5, 7, 11, 24, 25, 27, 29, 35, 36, 37, 59, 60, 65], k ∈ keyR := by decide
      exact this k hk
    · by_cases e : k = 1
      · rw [e, s4]
      · have : ∀ q ∈ [(1, 17), (1, 18), (1, 19), (23, 9), (23, 10), (34, 3), (40, 12), (40, 15), (40, 16), (40, 17), (61, 4), (61, 6)], q.1 ≠ 1 → q ∈ keyF := by decide
        exact s3 k j (this (k, j) hk e)
theorem Inv.more {L : Nat} {xs : Nat → Int32} {c c' : Nat} {κ : hk_T} (h : Inv L xs c κ) (hc : c ≤ c') : Inv L xs c' κ := by
  obtain ⟨n, nT, nL, nS, T, h1, ⟨b1, b2, z, b3, b4⟩, h3, h4, h5, h8, h9, h10, ⟨d1, u, d2, d3⟩, h12⟩ := h
  exact ⟨n, nT, nL, nS, T, h1, ⟨b1, by omega, z, b3, by omega⟩, h3, h4, h5, h8, h9, h10, ⟨d1, u, by omega, d3⟩, h12⟩
/-- one call on both sides -/
def callOk (L : Nat) (xs : Nat → Int32) (c : Nat) (κ : hk_T) (fc fr : ra_H → Option (Int32 × ra_H)) : Prop := ∃ v κ1 κ2, fc (hp κ) = some (v, hp κ1) ∧ fr (hp κ1) = some (v, hp κ2) ∧ hk_x κ1 = hk_x κ ∧ Inv L xs (c + 1) κ2
theorem callOk.scr {L : Nat} {xs : Nat → Int32} {c : Nat} {κ κ1 κ2 : hk_T} {fc fr : ra_H → Option (Int32 × ra_H)} {v : Int32} {ks ks' : List Nat} {fs fs' : List (Nat × Nat)} (h : Inv L xs c κ) (e1 : fc (hp κ) = some (v, hp κ1)) (e2 : fr (hp κ1) = some (v, hp κ2)) (s1 : same ks fs κ κ1) (s2 : same ks' fs' κ1 κ2) (h1 : ∀ k ∈ ks, k ∉ keyR) (h2 : ∀ q ∈ fs, q ∉ keyF ∧ q.1 ≠ 1) (h3 : ∀ k ∈ ks', k ∉ keyR) (h4 : ∀ q ∈ fs', q ∉ keyF ∧ q.1 ≠ 1) : callOk L xs c κ fc fr := ⟨v, κ1, κ2, e1, e2, s1.2.2.2.2.2.2.2.2, ((h.key (s1.key h1 h2)).key (s2.key h3 h4)).more (by omega)⟩
