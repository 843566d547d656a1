/-! all parts of a mask, upwards -/
theorem and_2 (x y a b : Nat) (ha : a < 2) (hb : b < 2) : (2 * x + a) &&& (2 * y + b) = 2 * (x &&& y) + (a * b) := by
  apply Nat.eq_of_testBit_eq
  intro i
  have hab : a * b < 2 := by
    rcases (by omega : a = 0 ∨ a = 1) with e | e <;> rcases (by omega : b = 0 ∨ b = 1) with e' | e' <;> subst e <;> subst e' <;> decide
  rw [Nat.testBit_and]
  cases i with
  | zero =>
    rw [Nat.testBit_zero, Nat.testBit_zero, Nat.testBit_zero]
    have e1 : (2 * x + a) % 2 = a := by omega
    have e2 : (2 * y + b) % 2 = b := by omega
    have e3 : (2 * (x &&& y) + a * b) % 2 = a * b := by omega
    rw [e1, e2, e3]
    rcases (by omega : a = 0 ∨ a = 1) with e | e <;> rcases (by omega : b = 0 ∨ b = 1) with e' | e' <;> subst e <;> subst e' <;> decide
  | succ i =>
    rw [Nat.testBit_succ, Nat.testBit_succ, Nat.testBit_succ]
    have e1 : (2 * x + a) / 2 = x := by omega
    have e2 : (2 * y + b) / 2 = y := by omega
    have e3 : (2 * (x &&& y) + a * b) / 2 = x &&& y := by omega
    rw [e1, e2, e3, Nat.testBit_and]
def dep : Nat → Nat → Nat → Nat
  | 0, _, _ => 0
  | w + 1, O, j => if O % 2 = 1 then 2 * dep w (O / 2) (j / 2) + j % 2 else 2 * dep w (O / 2) j
def pcw : Nat → Nat → Nat
  | 0, _ => 0
  | w + 1, O => pcw w (O / 2) + O % 2
theorem dep_zero : ∀ w O, dep w O 0 = 0 := by
  intro w
  induction w with
  | zero => intro O; rfl
  | succ w ih =>
    intro O
    rw [dep]
    split
    · rw [ih (O / 2)]
    · rw [ih (O / 2)]
theorem dep_le : ∀ w O j, O < 2 ^ w → dep w O j ≤ O := by
  intro w
  induction w with
  | zero => intro O j h; exact Nat.zero_le _
  | succ w ih =>
    intro O j h
    have e2 : 2 ^ (w + 1) = 2 * 2 ^ w := by rw [Nat.pow_succ, Nat.mul_comm]
    have i1 := ih (O / 2) (j / 2) (by omega)
    have i2 := ih (O / 2) j (by omega)
    rw [dep]
    split <;> omega
theorem dep_self : ∀ w O j, O < 2 ^ w → (2 ^ w - 1 + dep w O j - O) &&& O = dep w O j := by
  intro w
  induction w with
  | zero => intro O j h; have : O = 0 := by omega
            subst this; rw [Nat.and_zero]; rfl
  | succ w ih =>
    intro O j h
    have e2 : 2 ^ (w + 1) = 2 * 2 ^ w := by rw [Nat.pow_succ, Nat.mul_comm]
    have hO : O / 2 < 2 ^ w := by omega
    have i1 := ih (O / 2) (j / 2) hO
    have i2 := ih (O / 2) j hO
    have l1 := dep_le w (O / 2) (j / 2) hO
    have l2 := dep_le w (O / 2) j hO
    rw [dep]
    by_cases c : O % 2 = 1
    · rw [if_pos c]
      have eO : O = 2 * (O / 2) + 1 := by omega
      have eX : 2 ^ (w + 1) - 1 + (2 * dep w (O / 2) (j / 2) + j % 2) - O = 2 * (2 ^ w - 1 + dep w (O / 2) (j / 2) - O / 2) + j % 2 := by omega
      have a2 := and_2 (2 ^ w - 1 + dep w (O / 2) (j / 2) - O / 2) (O / 2) (j % 2) 1 (by omega) (by omega)
      rw [i1, ← eO, Nat.mul_one] at a2
      rw [eX]
      exact a2
    · rw [if_neg c]
      have eO : O = 2 * (O / 2) + 0 := by omega
      have eX : 2 ^ (w + 1) - 1 + 2 * dep w (O / 2) j - O = 2 * (2 ^ w - 1 + dep w (O / 2) j - O / 2) + 1 := by omega
      have a2 := and_2 (2 ^ w - 1 + dep w (O / 2) j - O / 2) (O / 2) 1 0 (by omega) (by omega)
      rw [i2, ← eO, Nat.mul_zero, Nat.add_zero] at a2
      rw [eX]
      exact a2
theorem dep_next : ∀ w O j, O < 2 ^ w → j + 1 < 2 ^ pcw w O → (2 ^ w + dep w O j - O) &&& O = dep w O (j + 1) := by
  intro w
  induction w with
  | zero => intro O j h h2; have : (2 : Nat) ^ pcw 0 O = 1 := rfl
            omega
  | succ w ih =>
    intro O j h h2
    have e2 : 2 ^ (w + 1) = 2 * 2 ^ w := by rw [Nat.pow_succ, Nat.mul_comm]
    have hO : O / 2 < 2 ^ w := by omega
    rw [pcw] at h2
    rw [dep, dep]
    by_cases c : O % 2 = 1
    · rw [if_pos c, if_pos c]
      rw [c, Nat.pow_succ] at h2
      have eO : O = 2 * (O / 2) + 1 := by omega
      have l1 := dep_le w (O / 2) (j / 2) hO
      by_cases cj : j % 2 = 0
      · have ej : (j + 1) / 2 = j / 2 := by omega
        have ej2 : (j + 1) % 2 = 1 := by omega
        have i1 := dep_self w (O / 2) (j / 2) hO
        have hp := Nat.two_pow_pos w
        have eX : 2 ^ (w + 1) + (2 * dep w (O / 2) (j / 2) + j % 2) - O = 2 * (2 ^ w - 1 + dep w (O / 2) (j / 2) - O / 2) + 1 := by omega
        have a2 := and_2 (2 ^ w - 1 + dep w (O / 2) (j / 2) - O / 2) (O / 2) 1 1 (by omega) (by omega)
        rw [i1, ← eO, Nat.mul_one] at a2
        rw [eX, ej, ej2]
        exact a2
      · have ej : (j + 1) / 2 = j / 2 + 1 := by omega
        have ej2 : (j + 1) % 2 = 0 := by omega
        have i1 := ih (O / 2) (j / 2) hO (by omega)
        have eX : 2 ^ (w + 1) + (2 * dep w (O / 2) (j / 2) + j % 2) - O = 2 * (2 ^ w + dep w (O / 2) (j / 2) - O / 2) + 0 := by omega
        have a2 := and_2 (2 ^ w + dep w (O / 2) (j / 2) - O / 2) (O / 2) 0 1 (by omega) (by omega)
        rw [i1, ← eO, Nat.zero_mul] at a2
        rw [eX, ej, ej2]
        exact a2
    · rw [if_neg c, if_neg c]
      have c0 : O % 2 = 0 := by omega
      rw [c0, Nat.add_zero] at h2
      have eO : O = 2 * (O / 2) + 0 := by omega
      have l2 := dep_le w (O / 2) j hO
      have i1 := ih (O / 2) j hO h2
      have eX : 2 ^ (w + 1) + 2 * dep w (O / 2) j - O = 2 * (2 ^ w + dep w (O / 2) j - O / 2) + 0 := by omega
      have a2 := and_2 (2 ^ w + dep w (O / 2) j - O / 2) (O / 2) 0 0 (by omega) (by omega)
      rw [i1, ← eO, Nat.zero_mul, Nat.add_zero] at a2
      rw [eX]
      exact a2
theorem dep_lt : ∀ w O j j', j < j' → j' < 2 ^ pcw w O → dep w O j < dep w O j' := by
  intro w
  induction w with
  | zero => intro O j j' h h2; have : (2 : Nat) ^ pcw 0 O = 1 := rfl
            omega
  | succ w ih =>
    intro O j j' h h2
    rw [pcw] at h2
    rw [dep, dep]
    by_cases c : O % 2 = 1
    · rw [if_pos c, if_pos c]
      rw [c, Nat.pow_succ] at h2
      by_cases e : j / 2 = j' / 2
      · rw [e]; omega
      · have := ih (O / 2) (j / 2) (j' / 2) (by omega) (by omega)
        omega
    · rw [if_neg c, if_neg c]
      have c0 : O % 2 = 0 := by omega
      rw [c0, Nat.add_zero] at h2
      have := ih (O / 2) j j' h h2
      omega
theorem dep_sur : ∀ w O p, p < 2 ^ w → p &&& O = p → ∃ j, j < 2 ^ pcw w O ∧ dep w O j = p := by
  intro w
  induction w with
  | zero => intro O p h _; exact ⟨0, Nat.one_pos, by have : p = 0 := by omega
                                                     rw [this]; rfl⟩
  | succ w ih =>
    intro O p h hp
    have e2 : 2 ^ (w + 1) = 2 * 2 ^ w := by rw [Nat.pow_succ, Nat.mul_comm]
    have a2 := and_2 (p / 2) (O / 2) (p % 2) (O % 2) (by omega) (by omega)
    have ep : 2 * (p / 2) + p % 2 = p := by omega
    have eO : 2 * (O / 2) + O % 2 = O := by omega
    rw [ep, eO, hp] at a2
    by_cases c : O % 2 = 1
    · rw [c, Nat.mul_one] at a2
      obtain ⟨j, hj, e⟩ := ih (O / 2) (p / 2) (by omega) (by omega)
      refine ⟨2 * j + p % 2, ?_, ?_⟩
      · rw [pcw, c, Nat.pow_succ]; omega
      · rw [dep, if_pos c]
        have e3 : (2 * j + p % 2) / 2 = j := by omega
        have e4 : (2 * j + p % 2) % 2 = p % 2 := by omega
        rw [e3, e4, e]; omega
    · have c0 : O % 2 = 0 := by omega
      rw [c0, Nat.mul_zero] at a2
      obtain ⟨j, hj, e⟩ := ih (O / 2) (p / 2) (by omega) (by omega)
      refine ⟨j, ?_, ?_⟩
      · rw [pcw, c0, Nat.add_zero]; exact hj
      · rw [dep, if_neg c, e]; omega
