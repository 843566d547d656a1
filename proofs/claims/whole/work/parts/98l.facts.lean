/-! feed, end, book, mark, fact -/
def agT (f g : Nat → Int32) (l : Nat) : Prop := ∀ i, i < l → ∃ v, v < 256 ∧ f i = n3 v ∧ g i = n3 v
theorem taI_of {κ : hk_T} {l : Nat} (h4 : l ≤ 400) (e1 : hk_I κ 16 1 = n3 l) (e2 : hk_I κ 69 8 = n3 l) (h : agT (hk_A κ 17) (hk_A κ 74) l) : taI κ := by
  have q : ∀ i, i < l → (hk_A κ 17 i).toInt.toNat < 256 ∧ hk_A κ 17 i = n3 (hk_A κ 17 i).toInt.toNat ∧ hk_A κ 74 i = n3 (hk_A κ 17 i).toInt.toNat := fun i hi => by
    obtain ⟨v, v1, v2, v3⟩ := h i hi
    have : (hk_A κ 17 i).toInt.toNat = v := by rw [v2, n3_toInt (by omega)]; omega
    rw [this]
    exact ⟨v1, v2, v3⟩
  exact ⟨fun i => (hk_A κ 17 i).toInt.toNat, l, ⟨h4, e1, fun i hi => ⟨(q i hi).2.1, (q i hi).1⟩⟩, ⟨h4, e2, fun i hi => ⟨(q i hi).2.2, (q i hi).1⟩⟩⟩
theorem taI.ex {κ : hk_T} (h : taI κ) : ∃ l, l ≤ 400 ∧ hk_I κ 16 1 = n3 l ∧ hk_I κ 69 8 = n3 l ∧ agT (hk_A κ 17) (hk_A κ 74) l := by
  obtain ⟨B, l, a, b⟩ := h
  exact ⟨l, a.1, a.2.1, b.2.1, fun i hi => ⟨B i, (a.2.2 i hi).2, (a.2.2 i hi).1, (b.2.2 i hi).1⟩⟩
theorem agT_4 {κ κ' : hk_T} {l : Nat} (x : Int32) (h : agT (hk_A κ 17) (hk_A κ' 74) l) : agT (hk_A (tap4 κ 17 16 1 l x) 17) (hk_A (tap4 κ' 74 69 8 l x) 74) (l + 4) := by
  intro i hi
  rw [tap4_at, tap4_at]
  by_cases c0 : i = l
  · rw [if_pos c0, if_pos c0]; exact ⟨_, byt_lt _ _, rfl, rfl⟩
  · rw [if_neg c0, if_neg c0]
    by_cases c1 : i = l + 1
    · rw [if_pos c1, if_pos c1]; exact ⟨_, byt_lt _ _, rfl, rfl⟩
    · rw [if_neg c1, if_neg c1]
      by_cases c2 : i = l + 2
      · rw [if_pos c2, if_pos c2]; exact ⟨_, byt_lt _ _, rfl, rfl⟩
      · rw [if_neg c2, if_neg c2]
        by_cases c3 : i = l + 3
        · rw [if_pos c3, if_pos c3]; exact ⟨_, byt_lt _ _, rfl, rfl⟩
        · rw [if_neg c3, if_neg c3]
          exact h i (by omega)
theorem Inv.tape {L c : Nat} {xs : Nat → Int32} {κ κ' : hk_T} {n nT nL nS : Nat} {T : Nat → tauT} (h : InvC L xs c κ n nT nL nS T) (s : same [17, 74] [(16, 1), (69, 8), (69, 0)] κ κ') (t : taI κ') : Inv L xs (c + 1) κ' := by
  obtain ⟨h1, h2, h3, h4, h5, h8, h9, h10, h11, h12⟩ := h
  exact InvC.inv (n := n) (nT := nT) (nL := nL) (nS := nS) (T := T) ⟨s.xx h1, s.ro h2, s.hr (by decide) (by decide) h3, s.ttq h3.1.2.1.2.1 (fun x _ _ => by rw [s.1 71 (by decide)]) h4, s.im (by decide) (by decide) h5, s.sc (by decide) (by decide) h8, t, s.wo (by decide) (by decide) h10, s.rf (by decide) (by decide) h11, s.ca (by decide) (by decide) h12⟩
section
variable (N : Nat) {L c : Nat} {xs : Nat → Int32} {κ : hk_T}
theorem k_end (h : Inv L xs c κ) (x : Int32) : callOk L xs c κ (fX11_end N 0 x) (fX12_end N 69 x) := by
  have h0 := h
  obtain ⟨n, nT, nL, nS, T, H⟩ := h0
  obtain ⟨l, l4, e1, e2, ag⟩ := H.2.2.2.2.2.2.1.ex
  have c1 := c_end N κ (x := x) e1 l4
  by_cases v : vIn 0 l x = true
  · rw [if_pos v] at c1
    obtain ⟨k, -, k2, rfl⟩ := vK (lo := 0) (hi := l) v
    have r1 := r_end N (hk_wI κ 16 1 (n3 k)) (x := n3 k) (l := l) (by rw [I_ne (by decide)]; exact e2) l4
    rw [if_pos v] at r1
    refine ⟨n3 k, _, _, c1, r1, rfl, Inv.tape H ((((same.refl _ _ _).wI (by decide)).wI (by decide)).wI (by decide)) (taI_of (l := k) (by omega) ?_ I_eq (fun i hi => ag i (by omega)))⟩
    rw [I_ne (by decide), I_ne (by decide), I_eq]
  · rw [if_neg v] at c1
    have r1 := r_end N κ (x := x) e2 l4
    rw [if_neg v] at r1
    exact callOk.ask h c1 r1 rfl
theorem k_feed (h : Inv L xs c κ) (hN : 1000 < N) (a b d e f : Int32) : callOk L xs c κ (fX11_feed N 0 a b d e f) (fX12_feed N 69 a b d e f) := by
  have h0 := h
  obtain ⟨n, nT, nL, nS, T, H⟩ := h0
  obtain ⟨l, l4, e1, e2, ag⟩ := H.2.2.2.2.2.2.1.ex
  have c1 := c_feed N κ (a := a) (b := b) (c := d) (d := e) (e := f) e1 l4 hN
  by_cases v : l + 20 ≤ 400
  · rw [if_pos v] at c1
    obtain ⟨κ1, q1⟩ : ∃ κ1, κ1 = tap20 κ 17 16 1 l a b d e f := ⟨_, rfl⟩
    rw [← q1] at c1
    have t4 : ∀ (κ : hk_T) (k o f n : Nat) (x : Int32), same [k] [(o, f)] κ (tap4 κ k o f n x) := fun κ k o f n x => tap4_same κ k o f n x
    have sa : same [17] [(16, 1)] κ κ1 := by
      rw [q1]
      exact (t4 _ _ _ _ _ _).trans ((t4 _ _ _ _ _ _).trans ((t4 _ _ _ _ _ _).trans ((t4 _ _ _ _ _ _).trans (t4 _ _ _ _ _ _))))
    have r1 := r_feed N κ1 (a := a) (b := b) (c := d) (d := e) (e := f) (l := l) (by rw [sa.2.2.1 69 8 (by decide)]; exact e2) l4 hN
    rw [if_pos v] at r1
    obtain ⟨κ2, q2⟩ : ∃ κ2, κ2 = tap20 (hk_wI κ1 69 0 (n3 0)) 74 69 8 l a b d e f := ⟨_, rfl⟩
    rw [← q2] at r1
    have sb : same [74] [(69, 8)] (hk_wI κ1 69 0 (n3 0)) κ2 := by
      rw [q2]
      exact (t4 _ _ _ _ _ _).trans ((t4 _ _ _ _ _ _).trans ((t4 _ _ _ _ _ _).trans ((t4 _ _ _ _ _ _).trans (t4 _ _ _ _ _ _))))
    have sw : same [17, 74] [(16, 1), (69, 8), (69, 0)] κ1 (hk_wI κ1 69 0 (n3 0)) := (same.refl _ _ _).wI (by decide)
    have s2 : same [17, 74] [(16, 1), (69, 8), (69, 0)] κ κ2 := (sa.weak (by decide) (by decide)).trans (sw.trans (sb.weak (by decide) (by decide)))
    have ag0 : agT (hk_A κ 17) (hk_A (hk_wI κ1 69 0 (n3 0)) 74) l := by
      rw [A_wI, sa.1 74 (by decide)]
      exact ag
    have ag5 : agT (hk_A κ1 17) (hk_A κ2 74) (l + 4 + 4 + 4 + 4 + 4) := by
      rw [q2, q1]
      rw [q1] at ag0
      exact agT_4 f (agT_4 e (agT_4 d (agT_4 b (agT_4 a ag0))))
    refine ⟨n3 (l + 20), κ1, κ2, c1, r1, sa.2.2.2.2.2.2.2.2, Inv.tape H s2 (taI_of (l := l + 20) v ?_ ?_ ?_)⟩
    · rw [sb.2.2.1 16 1 (by decide), I_ne (by decide), q1]
      exact tap4_len _ 17 16 1 (l + 16) f
    · rw [q2]
      exact tap4_len _ 74 69 8 (l + 16) f
    · rw [sb.1 17 (by decide), A_wI]
      exact ag5
  · rw [if_neg v] at c1
    have r1 := r_feed N κ (a := a) (b := b) (c := d) (d := e) (e := f) e2 l4 hN
    rw [if_neg v] at r1
    exact callOk.ask h c1 r1 rfl
end
/-- the row of the stack looks at its books alone -/
theorem layC.facts {κ κ' : hk_T} {nS : Nat} {Z F F' : Nat → Int32} (h : layC κ nS (zF Z) (dmF F) F) (e1 : hk_I κ' 61 6 = hk_I κ 61 6) (e2 : hk_A κ' 65 = hk_A κ 65) (e : ∀ i, i < nS → F' (12 * zF Z i + 7) = F (12 * zF Z i + 7) ∧ F' (12 * zF Z i + 8) = F (12 * zF Z i + 8)) : layC κ' nS (zF Z) (dmF F') F' := by
  obtain ⟨g, st, a1, a2, a3, a4⟩ := h
  refine ⟨g, st, a1, fun i j hi hj => ?_, a3, ?_⟩
  · rw [a2 i j hi hj]
    obtain ⟨i', i1, i2⟩ := a1.1 i hi
    obtain ⟨j', j1, j2⟩ := a1.1 j hj
    obtain ⟨p1, p2⟩ := e i' i1
    obtain ⟨r1, r2⟩ := e j' j1
    rw [i2] at p1 p2
    rw [j2] at r1 r2
    unfold stp dmF
    rw [p1, p2, r1, r2]
  · unfold lay at a4 ⊢
    rw [e1, e2]
    exact a4
theorem fx_cg {F F' : Nat → Int32} {b : Nat} (e : ∀ i, 12 * b ≤ i → i < 12 * b + 12 → F' i = F i) : fx F' b = fx F b := by
  funext f
  unfold fx
  by_cases c : f < 12
  · rw [if_pos c, if_pos c, e _ (by omega) (by omega)]
  · rw [if_neg c, if_neg c]
theorem zF_lt {Z M : Nat → Int32} {nS n i : Nat} (h : hrZ Z M nS n) (hn : n ≤ 40) (hi : i < nS) : zF Z i < n := by
  obtain ⟨z, z1, z2, -⟩ := h.1 i hi
  unfold zF
  rw [z2, n3_toInt (by omega)]
  omega
