/-! matches, pure: a l b by how much line l and book b agree; sets of lines as bits; k books are left, the first of them is n - k -/
theorem fo_ge {w : Nat → Int} {c : Nat → Prop} [DecidablePred c] : ∀ (L i : Nat) (m : Int), m ≤ fo (fun l m => if c l then m else if m < w l then w l else m) i L m := by
  intro L
  induction L with
  | zero => intro i m; exact Int.le_refl _
  | succ L ih =>
    intro i m
    refine Int.le_trans ?_ (ih (i + 1) _)
    show m ≤ if c i then m else if m < w i then w i else m
    split
    · exact Int.le_refl _
    · split <;> omega
theorem fo_all {w : Nat → Int} {c : Nat → Prop} [DecidablePred c] : ∀ (L i : Nat) (m : Int) (l : Nat), i ≤ l → l < i + L → ¬ c l → w l ≤ fo (fun l m => if c l then m else if m < w l then w l else m) i L m := by
  intro L
  induction L with
  | zero => intro i m l h1 h2; omega
  | succ L ih =>
    intro i m l h1 h2 hc
    by_cases e : l = i
    · subst e
      refine Int.le_trans ?_ (fo_ge L (l + 1) _)
      show w l ≤ if c l then m else if m < w l then w l else m
      rw [if_neg hc]
      split <;> omega
    · exact ih (i + 1) _ l (by omega) (by omega) hc
theorem fo_at {w : Nat → Int} {c : Nat → Prop} [DecidablePred c] : ∀ (L i : Nat) (m : Int), (fo (fun l m => if c l then m else if m < w l then w l else m) i L m = m) ∨ ∃ l, i ≤ l ∧ l < i + L ∧ ¬ c l ∧ fo (fun l m => if c l then m else if m < w l then w l else m) i L m = w l := by
  intro L
  induction L with
  | zero => intro i m; exact Or.inl rfl
  | succ L ih =>
    intro i m
    have st : fo (fun l m => if c l then m else if m < w l then w l else m) i (L + 1) m = fo (fun l m => if c l then m else if m < w l then w l else m) (i + 1) L (if c i then m else if m < w i then w i else m) := rfl
    rw [st]
    rcases ih (i + 1) (if c i then m else if m < w i then w i else m) with h | ⟨l, h1, h2, h3, h4⟩
    · by_cases hc : c i
      · rw [if_pos hc] at h ⊢; exact Or.inl h
      · rw [if_neg hc] at h ⊢
        by_cases hw : m < w i
        · rw [if_pos hw] at h ⊢
          exact Or.inr ⟨i, Nat.le_refl _, by omega, hc, h⟩
        · rw [if_neg hw] at h ⊢; exact Or.inl h
    · exact Or.inr ⟨l, by omega, by omega, h3, h4⟩
def mS (a : Nat → Nat → Int) (L n : Nat) : Nat → Nat → Int
  | 0, _ => 0
  | k + 1, s => fo (fun l m => if s.testBit l = true then m else if m < a l (n - (k + 1)) + mS a L n k (s ||| 2 ^ l) then a l (n - (k + 1)) + mS a L n k (s ||| 2 ^ l) else m) 0 L (mS a L n k s)
theorem mS_none (a : Nat → Nat → Int) (L n k s : Nat) : mS a L n k s ≤ mS a L n (k + 1) s := fo_ge L 0 _
theorem mS_line (a : Nat → Nat → Int) (L n k s l : Nat) (hl : l < L) (hs : ¬ s.testBit l = true) : a l (n - (k + 1)) + mS a L n k (s ||| 2 ^ l) ≤ mS a L n (k + 1) s :=
  fo_all (w := fun l => a l (n - (k + 1)) + mS a L n k (s ||| 2 ^ l)) (c := fun l => s.testBit l = true) L 0 _ l (by omega) (by omega) hs
theorem mS_some (a : Nat → Nat → Int) (L n k s : Nat) : mS a L n (k + 1) s = mS a L n k s ∨ ∃ l, l < L ∧ ¬ s.testBit l = true ∧ mS a L n (k + 1) s = a l (n - (k + 1)) + mS a L n k (s ||| 2 ^ l) := by
  rcases fo_at (w := fun l => a l (n - (k + 1)) + mS a L n k (s ||| 2 ^ l)) (c := fun l => s.testBit l = true) L 0 (mS a L n k s) with h | ⟨l, h1, h2, h3, h4⟩
  · exact Or.inl h
  · exact Or.inr ⟨l, by omega, h3, h4⟩
theorem mS_nonneg (a : Nat → Nat → Int) (L n : Nat) : ∀ k s, 0 ≤ mS a L n k s := by
  intro k
  induction k with
  | zero => intro s; exact Int.le_refl _
  | succ k ih => intro s; exact Int.le_trans (ih s) (mS_none a L n k s)
/-- worths of the lines that are not in a set -/
def uS (u : Nat → Int) : Nat → Nat → Int
  | 0, _ => 0
  | L + 1, s => uS u L s + if s.testBit L = true then 0 else u L
theorem uS_big (u : Nat → Int) : ∀ (L s l : Nat), L ≤ l → uS u L (s ||| 2 ^ l) = uS u L s := by
  intro L
  induction L with
  | zero => intro s l _; rfl
  | succ L ih =>
    intro s l h
    have e : (s ||| 2 ^ l).testBit L = s.testBit L := by
      rw [tb_or, decide_eq_false (by omega), Bool.or_false]
    rw [uS, uS, ih s l (by omega), e]
theorem uS_take (u : Nat → Int) : ∀ (L s l : Nat), l < L → ¬ s.testBit l = true → uS u L s = u l + uS u L (s ||| 2 ^ l) := by
  intro L
  induction L with
  | zero => intro s l h; omega
  | succ L ih =>
    intro s l h hs
    by_cases e : l = L
    · subst e
      have e1 : (s ||| 2 ^ l).testBit l = true := by rw [tb_or, decide_eq_true rfl, Bool.or_true]
      rw [uS, uS, uS_big u l s l (Nat.le_refl _), if_neg hs, if_pos e1]
      omega
    · have e1 : (s ||| 2 ^ l).testBit L = s.testBit L := by rw [tb_or, decide_eq_false e, Bool.or_false]
      rw [uS, uS, ih s l (by omega) hs, e1]
      omega
theorem uS_nonneg (u : Nat → Int) : ∀ (L s : Nat), (∀ l, l < L → 0 ≤ u l) → 0 ≤ uS u L s := by
  intro L
  induction L with
  | zero => intro s _; exact Int.le_refl _
  | succ L ih =>
    intro s h
    have h1 := ih s (fun l hl => h l (by omega))
    have h2 := h L (by omega)
    rw [uS]
    split <;> omega
theorem uS_zero (u : Nat → Int) : ∀ (L s : Nat), (∀ l, l < L → 0 ≤ u l) → uS u L s = 0 → ∀ l, l < L → ¬ s.testBit l = true → u l = 0 := by
  intro L
  induction L with
  | zero => intro s _ _ l hl; omega
  | succ L ih =>
    intro s h h0 l hl hs
    have h1 := uS_nonneg u L s (fun l hl => h l (by omega))
    have h2 := h L (by omega)
    rw [uS] at h0
    by_cases e : l = L
    · subst e; rw [if_neg hs] at h0; omega
    · refine ih s (fun l hl => h l (by omega)) ?_ l (by omega) hs
      split at h0 <;> omega
theorem uS_zero' (u : Nat → Int) : ∀ (L s : Nat), (∀ l, l < L → ¬ s.testBit l = true → u l = 0) → uS u L s = 0 := by
  intro L
  induction L with
  | zero => intro s _; rfl
  | succ L ih =>
    intro s h
    rw [uS, ih s (fun l hl hs => h l (by omega) hs)]
    split
    · rfl
    · rename_i hs; rw [h L (by omega) hs]; rfl
def vS (v : Nat → Int) (n : Nat) : Nat → Int
  | 0 => 0
  | k + 1 => v (n - (k + 1)) + vS v n k
/-- worths: never below 0, and of a pair never below what it agrees by -/
def dualOk (a : Nat → Nat → Int) (u v : Nat → Int) (L n : Nat) : Prop := (∀ l, l < L → 0 ≤ u l) ∧ (∀ b, b < n → 0 ≤ v b) ∧ ∀ l b, l < L → b < n → a l b ≤ u l + v b
theorem mS_le {a : Nat → Nat → Int} {u v : Nat → Int} {L n : Nat} (h : dualOk a u v L n) : ∀ k s, k ≤ n → mS a L n k s ≤ uS u L s + vS v n k := by
  intro k
  induction k with
  | zero =>
    intro s _
    have := uS_nonneg u L s h.1
    show (0 : Int) ≤ uS u L s + 0
    omega
  | succ k ih =>
    intro s hk
    have hv := h.2.1 (n - (k + 1)) (by omega)
    rcases mS_some a L n k s with e | ⟨l, hl, hs, e⟩
    · rw [e]
      have := ih s (by omega)
      show mS a L n k s ≤ uS u L s + (v (n - (k + 1)) + vS v n k)
      omega
    · rw [e, uS_take u L s l hl hs]
      have h1 := ih (s ||| 2 ^ l) (by omega)
      have h2 := h.2.2 l (n - (k + 1)) hl (by omega)
      show _ ≤ u l + uS u L (s ||| 2 ^ l) + (v (n - (k + 1)) + vS v n k)
      omega
/-- here the sum is the worths' -/
def eqAt (a : Nat → Nat → Int) (u v : Nat → Int) (L n k s : Nat) : Prop := mS a L n k s = uS u L s + vS v n k
theorem eqAt_none {a : Nat → Nat → Int} {u v : Nat → Int} {L n k s : Nat} (h : dualOk a u v L n) (hk : k < n) (he : eqAt a u v L n (k + 1) s) (ho : mS a L n k s = mS a L n (k + 1) s) : v (n - (k + 1)) = 0 ∧ eqAt a u v L n k s := by
  have hv := h.2.1 (n - (k + 1)) (by omega)
  have h1 := mS_le h k s (by omega)
  unfold eqAt at he ⊢
  rw [← ho] at he
  have e : vS v n (k + 1) = v (n - (k + 1)) + vS v n k := rfl
  rw [e] at he
  constructor <;> omega
theorem eqAt_line {a : Nat → Nat → Int} {u v : Nat → Int} {L n k s l : Nat} (h : dualOk a u v L n) (hk : k < n) (he : eqAt a u v L n (k + 1) s) (hl : l < L) (hs : ¬ s.testBit l = true) (ho : a l (n - (k + 1)) + mS a L n k (s ||| 2 ^ l) = mS a L n (k + 1) s) : a l (n - (k + 1)) = u l + v (n - (k + 1)) ∧ eqAt a u v L n k (s ||| 2 ^ l) := by
  have h1 := mS_le h k (s ||| 2 ^ l) (by omega)
  have h2 := h.2.2 l (n - (k + 1)) hl (by omega)
  have h3 := uS_take u L s l hl hs
  unfold eqAt at he ⊢
  have e : vS v n (k + 1) = v (n - (k + 1)) + vS v n k := rfl
  rw [e] at he
  constructor <;> omega
/-- lines that are worth something are taken at the end -/
theorem eqAt_end {a : Nat → Nat → Int} {u v : Nat → Int} {L n s : Nat} (h : dualOk a u v L n) (he : eqAt a u v L n 0 s) {l : Nat} (hl : l < L) (hu : 0 < u l) : s.testBit l = true := by
  by_cases hs : s.testBit l = true
  · exact hs
  · have e : mS a L n 0 s = 0 := rfl
    have e1 : vS v n 0 = 0 := rfl
    unfold eqAt at he
    rw [e, e1] at he
    have := uS_zero u L s h.1 (by omega) l hl hs
    omega
/-- a line that is worth something and fits no book from here on is taken already -/
theorem eqAt_must {a : Nat → Nat → Int} {u v : Nat → Int} {L n : Nat} (h : dualOk a u v L n) {l : Nat} (hl : l < L) (hu : 0 < u l) : ∀ k s, k ≤ n → eqAt a u v L n k s → (∀ b, n - k ≤ b → b < n → a l b ≠ u l + v b) → s.testBit l = true := by
  intro k
  induction k with
  | zero => intro s _ he _; exact eqAt_end h he hl hu
  | succ k ih =>
    intro s hk he hb
    rcases mS_some a L n k s with e | ⟨j, hj, hs, e⟩
    · exact ih s (by omega) (eqAt_none h (by omega) he e.symm).2 (fun b h1 h2 => hb b (by omega) h2)
    · obtain ⟨e1, e2⟩ := eqAt_line h (by omega) he hj hs e.symm
      have h3 := ih (s ||| 2 ^ j) (by omega) e2 (fun b h1 h2 => hb b (by omega) h2)
      rw [tb_or] at h3
      by_cases ej : j = l
      · subst ej; exact absurd e1 (hb _ (by omega) (by omega))
      · rw [decide_eq_false ej, Bool.or_false] at h3; exact h3
/-- a match whose pairs agree by both worths and that leaves out nothing of worth: g b the line of a book (L: none), S b the lines of the books ahead -/
theorem eqAt_of {a : Nat → Nat → Int} {u v : Nat → Int} {L n : Nat} (h : dualOk a u v L n) (g : Nat → Nat) (S : Nat → Nat)
    (h1 : ∀ b, b < n → (g b = L ∧ v b = 0 ∧ S (b + 1) = S b) ∨ (g b < L ∧ a (g b) b = u (g b) + v b ∧ ¬ (S b).testBit (g b) = true ∧ S (b + 1) = S b ||| 2 ^ g b))
    (h2 : ∀ l, l < L → ¬ (S n).testBit l = true → u l = 0) : ∀ k, k ≤ n → eqAt a u v L n k (S (n - k)) := by
  intro k
  induction k with
  | zero =>
    intro _
    show (0 : Int) = uS u L (S n) + 0
    rw [uS_zero' u L (S n) h2]; rfl
  | succ k ih =>
    intro hk
    have he := ih (by omega)
    have hle := mS_le h (k + 1) (S (n - (k + 1))) hk
    have eS : n - (k + 1) + 1 = n - k := by omega
    have e : vS v n (k + 1) = v (n - (k + 1)) + vS v n k := rfl
    rcases h1 (n - (k + 1)) (by omega) with ⟨g1, g2, g3⟩ | ⟨g1, g2, g3, g4⟩
    · rw [eS] at g3
      rw [g3] at he
      have := mS_none a L n k (S (n - (k + 1)))
      unfold eqAt at he ⊢
      rw [e] at hle ⊢
      omega
    · rw [eS] at g4
      rw [g4] at he
      have h5 := mS_line a L n k (S (n - (k + 1))) (g (n - (k + 1))) g1 g3
      have h6 := uS_take u L (S (n - (k + 1))) _ g1 g3
      unfold eqAt at he ⊢
      rw [e] at hle ⊢
      omega
