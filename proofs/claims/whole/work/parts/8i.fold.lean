/-! to go over all that are listed is to go over all -/
theorem fo_list {σ : Type} (st : Nat → σ → σ) (q : Nat → Prop) (hq : ∀ l, ¬ q l → ∀ s, st l s = s) : ∀ L sz g s, LL (fun l => l < L ∧ q l) (fun l => l) sz g → fo st 0 L s = fo (fun i => st (g i)) 0 sz s := by
  intro L
  induction L with
  | zero =>
    intro sz g s h
    have : sz = 0 := by
      rcases Nat.eq_zero_or_pos sz with e | e
      · exact e
      · have := (h.1 0 e).1; omega
    subst this
    rfl
  | succ L ih =>
    intro sz g s h
    obtain ⟨h1, h2, h3⟩ := h
    by_cases c : q L
    · obtain ⟨i, hi, e⟩ := h2 L ⟨by omega, c⟩
      have ei : i = sz - 1 := by
        rcases Nat.lt_or_ge i (sz - 1) with z | z
        · have a1 := h3 i (sz - 1) z (by omega)
          have a2 := (h1 (sz - 1) (by omega)).1
          dsimp only at a1
          omega
        · omega
      obtain ⟨k, rfl⟩ : ∃ k, sz = k + 1 := ⟨sz - 1, by omega⟩
      have ek : i = k := by omega
      subst ek
      have hL : LL (fun l => l < L ∧ q l) (fun l => l) i g := by
        refine ⟨?_, ?_, fun x y hx hy => h3 x y hx (by omega)⟩
        · intro x hx
          have a1 := h3 x i hx (by omega)
          dsimp only at a1
          exact ⟨by omega, (h1 x (by omega)).2⟩
        · rintro l ⟨a1, a2⟩
          obtain ⟨x, hx, ex⟩ := h2 l ⟨by omega, a2⟩
          refine ⟨x, ?_, ex⟩
          by_cases z : x = i
          · rw [z] at ex; omega
          · omega
      rw [fo_last, fo_last, Nat.zero_add, Nat.zero_add, ih i g s hL, e]
    · have hL : LL (fun l => l < L ∧ q l) (fun l => l) sz g := by
        refine ⟨?_, ?_, h3⟩
        · intro x hx
          obtain ⟨a1, a2⟩ := h1 x hx
          refine ⟨?_, a2⟩
          by_cases z : g x = L
          · rw [z] at a2; exact absurd a2 c
          · omega
        · rintro l ⟨a1, a2⟩
          exact h2 l ⟨by omega, a2⟩
      rw [fo_last, Nat.zero_add, hq L c, ih sz g s hL]
