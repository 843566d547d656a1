/-! the kept history behind a call -/
theorem howG_cg {mk mk' : Nat → Bool} {se se' : Nat → Option Nat} {rt rt' : Nat → Nat → Bool} {n : Nat} (h1 : ∀ b, b < n → mk b = mk' b) (h2 : ∀ b, b < n → se b = se' b) (h3 : ∀ b s, b < n → se' b = some s → rt b s = rt' b s) {b : Nat} (hb : b < n) : howG mk se rt b = howG mk' se' rt' b := by
  have hr : ∀ b', b' < n → rsG se rt b' = rsG se' rt' b' := fun b' hb' => by
    unfold rsG
    rw [h2 b' hb']
    cases e : se' b' with
    | none => rfl
    | some s =>
      dsimp only
      rw [h3 b' s hb' e]
  have he : ∀ s, (∃ b', b' < b ∧ rsG se rt b' = some s) ↔ ∃ b', b' < b ∧ rsG se' rt' b' = some s := fun s =>
    ⟨fun ⟨b', g1, g2⟩ => ⟨b', g1, by rw [← hr b' (by omega)]; exact g2⟩, fun ⟨b', g1, g2⟩ => ⟨b', g1, by rw [hr b' (by omega)]; exact g2⟩⟩
  unfold howG
  rw [h1 b hb, h2 b hb]
  cases e : se' b with
  | none => rfl
  | some s =>
    dsimp only
    rw [h3 b s hb e]
    by_cases c : ∃ b', b' < b ∧ rsG se rt b' = some s
    · rw [if_pos c, if_pos ((he s).mp c)]
    · rw [if_neg c, if_neg (fun z => c ((he s).mpr z))]
theorem hist_m {F SD WI HI M : Nat → Int32} {n fi sc y : Nat} {T : Nat → tauT} (hF : hrF F M n) (hS : hrS SD WI HI M) {b : Nat} (hb : b < n) : seF T M fi sc y b = seF T F fi sc y b ∧ howG (mkF M) (seF T M fi sc y) (rtB (rSD M) (rHI M) M) b = howG (mkF F) (seF T F fi sc y) (rtB SD HI F) b := by
  have m : ∀ b, b < n → ∀ f, f < 12 → M (12 * b + f) = F (12 * b + f) := fun b hb f hf => hF.1 _ (by omega)
  have e0 : ∀ b, b < n → fx M b = fx F b := fun b hb => fx_congr (m b hb)
  have es : ∀ b, b < n → seF T M fi sc y b = seF T F fi sc y b := fun b hb => by
    unfold seF
    rw [m b hb 2 (by omega), e0 b hb]
  refine ⟨es b hb, howG_cg (n := n) (fun b hb => ?_) es (fun b s hb hs => ?_) hb⟩
  · unfold mkF
    have := m b hb 0 (by omega)
    rw [Nat.add_zero] at this
    rw [this]
  · have s5 := seF_lt hs
    have a1 : rSD M (s / 99 / 6) = SD (s / 99 / 6) := (hS.1 (s / 99 / 6) (by omega)).1
    have a2 : rHI M (s / 99) = HI (s / 99) := (hS.2 (s / 99) (by omega)).2.1
    unfold rtB
    rw [a1, a2, m b hb 5 (by omega), m b hb 4 (by omega)]
theorem same.ro0 {κ κ' : hk_T} {ks : List Nat} {fs : List (Nat × Nat)} (s : same ks fs κ κ') {c : Nat} (h : roI κ c) : roI κ' c := by
  obtain ⟨a1, a2, a3, a4, a5, a6, a7, a8, a9⟩ := s
  obtain ⟨b1, b2, z, b3, b4⟩ := h
  exact ⟨by rw [a7]; exact b1, by rw [a7]; exact b2, z, b3.cg a5 a6 a7, by rw [a8]; exact b4⟩
theorem same.rf0 {κ κ' : hk_T} {ks : List Nat} {fs : List (Nat × Nat)} (s : same ks fs κ κ') (h1 : ∀ k ∈ [80, 81, 86], k ∉ ks) (h2 : (69, 38) ∉ fs) {c : Nat} (h : rfI κ c) : rfI κ' c := by
  obtain ⟨a, u, b1, b2, b3⟩ := h
  exact ⟨a.same s (h1 _ (by decide)) (h1 _ (by decide)), u, b1, by rw [s.2.2.1 69 38 h2]; exact b2, by rw [s.1 86 (h1 86 (by decide))]; exact b3⟩
section
variable {L c : Nat} {xs : Nat → Int32} {κ κ' : hk_T} {n nT nL nS : Nat} {T : Nat → tauT} {ks : List Nat} {fs : List (Nat × Nat)}
/-- rows that tell nothing -/
theorem InvC.scr (h : InvC L xs c κ n nT nL nS T) (s : same ks fs κ κ') (d1 : ∀ k ∈ ks, k ∉ keyR) (d2 : ∀ q ∈ fs, q ∉ keyF ∧ q.1 ≠ 1) : InvC L xs c κ' n nT nL nS T := by
  obtain ⟨h1, h2, h3, h4, h5, h8, h9, h10, h11, h12⟩ := h
  have q : ∀ l : List Nat, (∀ k ∈ l, k ∈ keyR) → ∀ k ∈ l, k ∉ ks := fun l hl k hk z => d1 k z (hl k hk)
  have q2 : ∀ l : List (Nat × Nat), (∀ k ∈ l, k ∈ keyF ∨ k.1 = 1) → ∀ k ∈ l, k ∉ fs := fun l hl k hk z => by
    rcases hl k hk with g | g
    · exact (d2 k z).1 g
    · exact (d2 k z).2 g
  exact ⟨s.xx h1, s.ro0 h2, s.hr (q _ (by decide)) (fun q hq => (d2 q hq).2) h3, s.ttq h3.1.2.1.2.1 (fun x _ _ => by rw [s.1 71 (q [71] (by decide) 71 (by decide))]) h4, s.im (q [72] (by decide) 72 (by decide)) (q [73] (by decide) 73 (by decide)) h5, s.sc (q _ (by decide)) (q2 _ (by decide)) h8, s.ta (q _ (by decide)) (q2 _ (by decide)) h9, s.wo (q _ (by decide)) (q2 _ (by decide)) h10, s.rf0 (q _ (by decide)) (q2 [(69, 38)] (by decide) (69, 38) (by decide)) h11, s.ca (q _ (by decide)) (q2 _ (by decide)) h12⟩
/-- the class settles the kept history -/
theorem InvC.settle (N : Nat) (h : InvC L xs c κ n nT nL nS T) (hN : 100000 < N) {fi sc y : Nat} (hfi : fi < nT) (hsc : sc < nT) (hy : y ≤ 200) (k1 : hk_I κ 1 17 = n3 fi) (k2 : hk_I κ 1 18 = n3 sc) (k3 : hk_I κ 1 19 = n3 y) : ∃ κ1, fX1_settleKept N 23 (hp κ) = some (n3 1, hp κ1) ∧ same [22, 24, 25, 27, 35, 36, 37] [(34, 3), (23, 9)] κ κ1 ∧ InvC L xs c κ1 n nT nL nS T ∧ kRows κ1 n fi sc y T (hk_A κ 2) (hk_A κ 3) (hk_A κ 5) := by
  have H := h
  obtain ⟨h1, h2, h3, h4, h5, h8, h9, h10, h11, h12⟩ := h
  have t8 : nT ≤ 8 := h3.1.2.1.2.1
  obtain ⟨κ1, e, s, a1, a2, a3⟩ := c_settleKept N κ (y := y) H.toC hfi hsc hN k1 k2 k3 (fun z => by
    rcases h12.2.2.1 with g | ⟨fi', sc', y', ⟨b1, f1, f2, f3⟩, b2, b3, b4⟩
    · exact absurd g z
    · have q1 : fi' = fi := (n3_eq (by omega) (by omega)).mp (b1.symm.trans k1)
      have q2 : sc' = sc := (n3_eq (by omega) (by omega)).mp (b2.symm.trans k2)
      have q3 : y' = y := (n3_eq (by omega) (by omega)).mp (b3.symm.trans k3)
      subst q1 q2 q3
      exact b4)
  have r2 : hk_A κ1 2 = hk_A κ 2 := s.1 2 (by decide)
  have r3 : hk_A κ1 3 = hk_A κ 3 := s.1 3 (by decide)
  have r5 : hk_A κ1 5 = hk_A κ 5 := s.1 5 (by decide)
  refine ⟨κ1, e, s, ⟨s.xx h1, s.ro0 h2, s.hr (by decide) (by decide) h3, s.ttq t8 (fun x _ _ => by rw [s.1 71 (by decide)]) h4, s.im (by decide) (by decide) h5, s.sc (by decide) (by decide) h8, s.ta (by decide) (by decide) h9, s.wo (by decide) (by decide) h10, s.rf0 (by decide) (by decide) h11, ⟨a1.2.2.2.2.2.2.1, a1.2.2.2.2.2.2.2, Or.inr ⟨fi, sc, y, ⟨?_, by omega, by omega, hy⟩, ?_, ?_, ?_⟩, s.c4 (by decide) (by decide) h12.2.2.2.1, s.c5 (by decide) (by decide) h12.2.2.2.2.1, s.c6 (by decide) (by decide) h12.2.2.2.2.2⟩⟩, a2⟩
  · rw [s.2.2.1 1 17 (by decide)]; exact k1
  · rw [s.2.2.1 1 18 (by decide)]; exact k2
  · rw [s.2.2.1 1 19 (by decide)]; exact k3
  · rw [r2, r3, r5]; exact a2
/-- the reference looks at the kept history -/
theorem InvC.look (N : Nat) (h : InvC L xs c κ n nT nL nS T) (hc : c < 4000) (hN : 100000 < N) {fi sc y : Nat} (hfi : fi < nT) (hsc : sc < nT) (k1 : hk_A κ 71 484 = n3 fi) (k2 : hk_A κ 71 485 = n3 sc) (k3 : hk_A κ 71 486 = n3 y) : ∃ κ1, fX12_lookKept N 69 (hp κ) = some (n3 1, hp κ1) ∧ same [82, 83, 84, 85, 86, 87, 88] [(69, 27), (69, 30), (69, 33), (69, 38), (69, 41)] κ κ1 ∧ InvC L xs (c + 1) κ1 n nT nL nS T ∧ (∀ b, b < n → hk_A κ1 87 b = n3 (howG (mkF (hk_A κ 2)) (seF T (hk_A κ 2) fi sc y) (rtB (hk_A κ 3) (hk_A κ 5) (hk_A κ 2)) b) ∧ hk_A κ1 88 b = seatR (seF T (hk_A κ 2) fi sc y b)) ∧ hk_I κ1 69 41 = n3 (cnt (fun b => howG (mkF (hk_A κ 2)) (seF T (hk_A κ 2) fi sc y) (rtB (hk_A κ 3) (hk_A κ 5) (hk_A κ 2)) b = 4) n) ∧ ∀ c0, c0 < 4000 → rfI κ c0 → rfI κ1 (c0 + 1) := by
  have H := h
  obtain ⟨h1, h2, h3, h4, h5, h8, h9, h10, h11, h12⟩ := h
  have hm : ∀ b, b < n → seF T (hk_A κ 71) fi sc y b = seF T (hk_A κ 2) fi sc y b ∧ howG (mkF (hk_A κ 71)) (seF T (hk_A κ 71) fi sc y) (rtB (rSD (hk_A κ 71)) (rHI (hk_A κ 71)) (hk_A κ 71)) b = howG (mkF (hk_A κ 2)) (seF T (hk_A κ 2) fi sc y) (rtB (hk_A κ 3) (hk_A κ 5) (hk_A κ 2)) b := fun b hb => hist_m h3.2.2.1 h3.2.2.2.1 hb
  obtain ⟨u, hu, g⟩ := H.toR
  obtain ⟨κ1, e, s, a1, a2, a3⟩ := r_lookKept N κ (y := y) g (by omega) hfi hsc hN k1 k2 k3
  refine ⟨κ1, e, s, ⟨s.xx h1, s.ro h2, s.hr (by decide) (by decide) h3, s.ttq h3.1.2.1.2.1 (fun x _ _ => by rw [s.1 71 (by decide)]) h4, s.im (by decide) (by decide) h5, s.sc (by decide) (by decide) h8, s.ta (by decide) (by decide) h9, s.wo (by decide) (by decide) h10, ⟨h11.1.same s (by decide) (by decide), u + 1, by omega, a1.2.2.2.2.2.2.1, a1.2.2.2.2.2.2.2⟩, s.ca (by decide) (by decide) h12⟩, fun b hb => ?_, ?_, fun c0 hc0 hr => ?_⟩
  · obtain ⟨q1, q2⟩ := a2 b hb
    obtain ⟨m1, m2⟩ := hm b hb
    rw [m2] at q1
    rw [m1] at q2
    exact ⟨q1, q2⟩
  · rw [a3]
    congr 1
    exact cnt_cg0 n (fun i hi => by rw [(hm i hi).2])
  · obtain ⟨w1, u0, w2, w3, w4⟩ := hr
    have eu : u0 = u := (n3_eq (by omega) (by omega)).mp (w3.symm.trans g.2.2.2.2.2.2.1)
    exact ⟨w1.same s (by decide) (by decide), u + 1, by omega, a1.2.2.2.2.2.2.1, a1.2.2.2.2.2.2.2⟩
/-- both, one behind the other -/
theorem InvC.kept (N : Nat) (h : InvC L xs c κ n nT nL nS T) (hc : c < 4000) (hN : 100000 < N) : (hk_I κ 1 17 = -n3 1 ∧ hk_A κ 71 484 = -n3 1) ∨ ∃ (H : Nat → Nat) (se : Nat → Option Nat) (κ1 : hk_T), hOk H se ∧ fX1_settleKept N 23 (hp κ) = some (n3 1, hp κ1) ∧ same [22, 24, 25, 27, 35, 36, 37] [(34, 3), (23, 9)] κ κ1 ∧ InvC L xs c κ1 n nT nL nS T ∧ (∀ b, b < n → hk_A κ1 35 b = n3 (H b) ∧ hk_A κ1 36 b = seatI (se b)) ∧ (∀ x, x < 54 → hk_A κ1 37 x = fo (fun b s => if H b = 4 ∧ shO (se b) = x then s + hk_A κ 2 (12 * b + 3) else s) 0 n (n3 0)) ∧ hk_I κ1 34 3 = n3 (cnt (fun b => H b = 4) n) ∧
    ∀ κ2 c', c' < 4000 → InvC L xs c' κ2 n nT nL nS T → (∀ k ∈ [2, 3, 5, 71], hk_A κ2 k = hk_A κ k) → ∃ κ3, fX12_lookKept N 69 (hp κ2) = some (n3 1, hp κ3) ∧ same [82, 83, 84, 85, 86, 87, 88] [(69, 27), (69, 30), (69, 33), (69, 38), (69, 41)] κ2 κ3 ∧ InvC L xs (c' + 1) κ3 n nT nL nS T ∧ (∀ b, b < n → hk_A κ3 87 b = n3 (H b) ∧ hk_A κ3 88 b = seatR (se b)) ∧ hk_I κ3 69 41 = n3 (cnt (fun b => H b = 4) n) ∧ ∀ c0, c0 < 4000 → rfI κ2 c0 → rfI κ3 (c0 + 1) := by
  have H := h
  obtain ⟨h1, h2, h3, h4, h5, h8, h9, h10, h11, h12⟩ := h
  rcases h3.2.1 with z | ⟨fi, sc, y, f1, f2, f3, k1, k2, k3, m1, m2, m3⟩
  · exact Or.inl z
  · obtain ⟨κ1, e, s, a1, a2, a3, a4⟩ := H.settle N hN f1 f2 f3 k1 k2 k3
    refine Or.inr ⟨howG (mkF (hk_A κ 2)) (seF T (hk_A κ 2) fi sc y) (rtB (hk_A κ 3) (hk_A κ 5) (hk_A κ 2)), seF T (hk_A κ 2) fi sc y, κ1, hOk_of (fun b hb => ?_) (fun b s => seF_lt), e, s, a1, a2, a3, a4, fun κ2 c' hc' g hk => ?_⟩
    · unfold mkF at hb
      exact seF_0 (Classical.byContradiction fun z => by rw [decide_eq_true z] at hb; cases hb)
    · obtain ⟨κ3, b1, b2, b3, b4, b5, b6⟩ := g.look N hc' hN (y := y) f1 f2 (by rw [hk 71 (by decide)]; exact m1) (by rw [hk 71 (by decide)]; exact m2) (by rw [hk 71 (by decide)]; exact m3)
      rw [hk 2 (by decide), hk 3 (by decide), hk 5 (by decide)] at b4 b5
      exact ⟨κ3, b1, b2, b3, b4, b5, b6⟩
theorem InvC.put {c' : Nat} (h : InvC L xs c κ n nT nL nS T) (r : roI κ c') (f : rfI κ c') : InvC L xs c' κ n nT nL nS T := by
  obtain ⟨h1, h2, h3, h4, h5, h8, h9, h10, h11, h12⟩ := h
  exact ⟨h1, r, h3, h4, h5, h8, h9, h10, f, h12⟩
/-- one shelf of the kept history, lined up on both sides -/
theorem InvC.rows (N : Nat) (h : InvC L xs c κ n nT nL nS T) (hc : c < 4000) (hN : 100000 < N) {x : Nat} (hx : x < 54) : (hk_I κ 1 17 = -n3 1 ∧ hk_A κ 71 484 = -n3 1) ∨ ∃ (se : Nat → Option Nat) (κ1 κ2 : hk_T) (sz : Nat) (g : Nat → Nat) (κ3 κ4 : hk_T), fX1_settleKept N 23 (hp κ) = some (n3 1, hp κ1) ∧ fX5_lineUp N 38 (n3 x) (hp κ1) = some (n3 sz, hp κ2) ∧ hk_x κ2 = hk_x κ ∧ sz ≤ 40 ∧ (∀ k ∈ [2, 67, 71, 100], hk_A κ1 k = hk_A κ k ∧ hk_A κ2 k = hk_A κ k ∧ hk_A κ3 k = hk_A κ k ∧ hk_A κ4 k = hk_A κ k) ∧ (∀ q ∈ [(66, 1), (69, 56)], hk_I κ1 q.1 q.2 = hk_I κ q.1 q.2 ∧ hk_I κ2 q.1 q.2 = hk_I κ q.1 q.2 ∧ hk_I κ3 q.1 q.2 = hk_I κ q.1 q.2 ∧ hk_I κ4 q.1 q.2 = hk_I κ q.1 q.2) ∧ (∀ i, i < sz → g i < n ∧ ∃ s, se (g i) = some s ∧ s < 5346 ∧ hk_A κ2 39 i = n3 (g i) ∧ hk_A κ2 36 (g i) = n3 s ∧ hk_A κ4 89 i = n3 (g i) ∧ hk_A κ4 88 (g i) = n3 (rnum s)) ∧ fX12_lookKept N 69 (hp (hk_wI κ2 69 0 (n3 0))) = some (n3 1, hp κ3) ∧ fX12_lookAt N 69 (n3 x) (hp κ3) = some (hp κ4) ∧ hk_I κ4 69 43 = n3 sz ∧ InvC L xs (c + 1) κ4 n nT nL nS T := by
  have n40 := h.toC.2.1
  rcases h.kept N hc hN with z | ⟨H, se, κ1, ok, e1, s1, g1, r1, l1, t1, look⟩
  · exact Or.inl z
  obtain ⟨κ2, sz, g, e2, s2, l2, ll, hsz⟩ := c_lineUp N κ1 ok g1.toC.1 n40 hx (by omega) r1
  have sw : same [39] [(69, 0)] κ1 (hk_wI κ2 69 0 (n3 0)) := (s2.weak (by decide) (by decide)).wI (by decide)
  obtain ⟨κ3, e3, s3, g3, r3, -⟩ := look (hk_wI κ2 69 0 (n3 0)) c hc (g1.scr sw (by decide) (by decide)) (fun k hk => by
    have a1 : ∀ k ∈ [2, 3, 5, 71], k ∉ [39] := by decide
    have a2 : ∀ k ∈ [2, 3, 5, 71], k ∉ [22, 24, 25, 27, 35, 36, 37] := by decide
    rw [sw.1 k (a1 k hk), s1.1 k (a2 k hk)])
  obtain ⟨u, hu, gr⟩ := g3.toR
  obtain ⟨κ4, sz', g', e4, s4, h43, l4, ll'⟩ := r_lookAt N κ3 ok gr.1 n40 hx (by omega) r3
  obtain ⟨q1, q2⟩ := LL_uniq ll ll'
  subst q1
  refine Or.inr ⟨se, κ1, κ2, sz, g, κ3, κ4, e1, e2, ?_, by omega, fun k hk => ?_, fun q hq => ?_, fun i hi => ?_, e3, e4, h43, g3.scr s4 (by decide) (by decide)⟩
  · rw [s2.2.2.2.2.2.2.2.2, s1.2.2.2.2.2.2.2.2]
  · have a1 : ∀ k ∈ [2, 67, 71, 100], k ∉ [22, 24, 25, 27, 35, 36, 37] := by decide
    have a2 : ∀ k ∈ [2, 67, 71, 100], k ∉ [39] := by decide
    have a3 : ∀ k ∈ [2, 67, 71, 100], k ∉ [82, 83, 84, 85, 86, 87, 88] := by decide
    have a4 : ∀ k ∈ [2, 67, 71, 100], k ∉ [89] := by decide
    have b1 := s1.1 k (a1 k hk)
    have b2 := (s2.1 k (a2 k hk)).trans b1
    have b3 := (s3.1 k (a3 k hk)).trans b2
    exact ⟨b1, b2, b3, (s4.1 k (a4 k hk)).trans b3⟩
  · have a1 : ∀ q ∈ [(66, 1), (69, 56)], q ∉ [(34, 3), (23, 9)] := by decide
    have a2 : ∀ q ∈ [(66, 1), (69, 56)], q ∉ [(69, 0)] := by decide
    have a3 : ∀ q ∈ [(66, 1), (69, 56)], q ∉ [(69, 27), (69, 30), (69, 33), (69, 38), (69, 41)] := by decide
    have a4 : ∀ q ∈ [(66, 1), (69, 56)], q ∉ [(69, 43)] := by decide
    have b1 := s1.2.2.1 q.1 q.2 (a1 q hq)
    have b2 := (s2.2.2.1 q.1 q.2 (List.not_mem_nil)).trans b1
    have b2' := (sw.2.2.1 q.1 q.2 (a2 q hq)).trans b1
    have b3 := (s3.2.2.1 q.1 q.2 (a3 q hq)).trans b2'
    exact ⟨b1, b2, b3, (s4.2.2.1 q.1 q.2 (a4 q hq)).trans b3⟩
  · obtain ⟨p1, p2, p3⟩ := ll.1 i hi
    obtain ⟨s, hs⟩ := ok.2.2.1 _ p2
    have r36 := (r1 _ p1).2
    have r88 := (r3 _ p1).2
    rw [hs] at r36 r88
    refine ⟨p1, s, hs, ok.2.1 _ _ hs, l2 i hi, ?_, ?_, ?_⟩
    · rw [s2.1 36 (by decide)]; exact r36
    · rw [l4 i hi, q2 i hi]
    · rw [s4.1 88 (by decide)]; exact r88
theorem callOk.of (h : InvC L xs c κ n nT nL nS T) {fc fr : ra_H → Option (Int32 × ra_H)} {v v' : Int32} {κ1 κ2 : hk_T} {n' nT' nL' nS' : Nat} {T' : Nat → tauT} (e1 : fc (hp κ) = some (v, hp κ1)) (e2 : fr (hp κ1) = some (v', hp κ2)) (e : v = v') (hx : hk_x κ1 = hk_x κ) (g : InvC L xs (c + 1) κ2 n' nT' nL' nS' T') : callOk L xs c κ fc fr := by
  subst e
  exact ⟨v, κ1, κ2, e1, e2, hx, g.inv⟩
end
