/-! the worths that are found are right ones -/
def gS (t : Nat → Nat) : Nat → Nat
  | 0 => 0
  | b + 1 => if t (b + 1) = 0 then gS t b else gS t b ||| 2 ^ (t (b + 1) - 1)
theorem gS_bit (t : Nat → Nat) (l : Nat) : ∀ b, (gS t b).testBit l = true ↔ ∃ b', b' < b ∧ t (b' + 1) = l + 1 := by
  intro b
  induction b with
  | zero =>
    show Nat.testBit 0 l = true ↔ _
    rw [Nat.zero_testBit]
    constructor
    · intro h; cases h
    · rintro ⟨b', h, -⟩; omega
  | succ b ih =>
    rw [gS]
    by_cases c : t (b + 1) = 0
    · rw [if_pos c, ih]
      constructor
      · rintro ⟨b', h1, h2⟩; exact ⟨b', by omega, h2⟩
      · rintro ⟨b', h1, h2⟩
        by_cases e : b' = b
        · rw [e] at h2; omega
        · exact ⟨b', by omega, h2⟩
    · rw [if_neg c, tb_or, Bool.or_eq_true, ih, decide_eq_true_iff]
      constructor
      · rintro (⟨b', h1, h2⟩ | h)
        · exact ⟨b', by omega, h2⟩
        · exact ⟨b, by omega, by omega⟩
      · rintro ⟨b', h1, h2⟩
        by_cases e : b' = b
        · rw [e] at h2; right; omega
        · left; exact ⟨b', by omega, h2⟩
def sh1 (u : Nat → Int) (l : Nat) : Int := u (l + 1)
def sh2 (a : Nat → Nat → Int) (l b : Nat) : Int := a (l + 1) (b + 1)
theorem HI_good {a : Nat → Nat → Int} {P nB L : Nat} {u v : Nat → Int} {t : Nat → Nat} (ok : aOk a P nB L) (h : HI a P L u v t) : dualOk (sh2 a) (sh1 u) (sh1 v) L nB ∧ goodAt (sh2 a) (sh1 u) (sh1 v) L nB nB 0 := by
  have hb := HI_b ok (Nat.le_refl _) h
  obtain ⟨o1, o2, o3, o4, o5⟩ := ok
  obtain ⟨h1, h2, h3, h4, h5, h6⟩ := h
  have hd : dualOk (sh2 a) (sh1 u) (sh1 v) L nB := ⟨fun l hl => (hb.1 (l + 1) (by omega) (by omega)).1, fun b hb' => (hb.2 (b + 1) (by omega) (by omega)).1, fun l b hl hb' => h5 (l + 1) (b + 1) (by omega) (by omega) (by omega) (by omega)⟩
  refine ⟨hd, ?_, ?_⟩
  · have := eqAt_of hd (fun b => if t (b + 1) = 0 then L else t (b + 1) - 1) (gS t) (by
      intro b hbn
      show ((if t (b + 1) = 0 then L else t (b + 1) - 1) = L ∧ v (b + 1) = 0 ∧ gS t (b + 1) = gS t b) ∨ ((if t (b + 1) = 0 then L else t (b + 1) - 1) < L ∧ a ((if t (b + 1) = 0 then L else t (b + 1) - 1) + 1) (b + 1) = u ((if t (b + 1) = 0 then L else t (b + 1) - 1) + 1) + v (b + 1) ∧ ¬ (gS t b).testBit (if t (b + 1) = 0 then L else t (b + 1) - 1) = true ∧ gS t (b + 1) = gS t b ||| 2 ^ (if t (b + 1) = 0 then L else t (b + 1) - 1))
      by_cases c : t (b + 1) = 0
      · left
        rw [if_pos c]
        refine ⟨rfl, (h6 (b + 1) (by omega) (by omega)).2 c, ?_⟩
        rw [gS, if_pos c]
      · right
        rw [if_neg c]
        have c1 := h3 (b + 1) (by omega) (by omega)
        have c2 : t (b + 1) - 1 + 1 = t (b + 1) := by omega
        refine ⟨by omega, ?_, ?_, ?_⟩
        · rw [c2]; exact (h4 (b + 1) (by omega) (by omega) c).symm
        · rw [gS_bit]
          rintro ⟨b', d1, d2⟩
          have := h2 (b' + 1) (b + 1) (by omega) (by omega) (by omega) (by omega) (by omega) (by omega)
          omega
        · rw [gS, if_neg c]) (by
      intro l hl hn
      show u (l + 1) = 0
      obtain ⟨p, p1, p2, p3⟩ := h1 (l + 1) (by omega) (by omega)
      have hpn : nB < p := by
        rcases Nat.lt_or_ge nB p with c | c
        · exact c
        · exfalso
          apply hn
          rw [gS_bit]
          refine ⟨p - 1, by omega, ?_⟩
          have : p - 1 + 1 = p := by omega
          rw [this]; exact p3
      have e1 := h4 p p1 p2 (by omega)
      rw [p3, o5 _ p hpn p2] at e1
      have := (hb.1 (l + 1) (by omega) (by omega)).1
      have := (hb.2 p p1 p2).1
      omega) nB (Nat.le_refl _)
    rw [Nat.sub_self] at this
    exact this
  · intro l hl
    rw [Nat.zero_testBit] at hl
    cases hl
