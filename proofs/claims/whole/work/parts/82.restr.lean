/-! the table of few sets is the whole table where it counts -/
theorem and_sub {s m : Nat} : s &&& m = m ↔ ∀ l, m.testBit l = true → s.testBit l = true := by
  constructor
  · intro h l hl
    have := congrArg (fun x => Nat.testBit x l) h
    rw [Nat.testBit_and, hl, Bool.and_true] at this
    exact this
  · intro h
    apply Nat.eq_of_testBit_eq
    intro l
    rw [Nat.testBit_and]
    by_cases hl : m.testBit l = true
    · rw [hl, h l hl]; rfl
    · simp only [Bool.not_eq_true] at hl; rw [hl, Bool.and_false]
def cT (a : Nat → Nat → Int) (us : Nat → Nat → Bool) (mst : Nat → Nat) (L n : Nat) : Nat → Nat → Int × Nat × Nat
  | 0, _ => (0, 1, 0)
  | k + 1, s => fo (st3 (fun l => ¬ (us l (n - (k + 1)) = true ∧ ¬ s.testBit l = true ∧ (s ||| 2 ^ l) &&& mst (n - k) = mst (n - k))) (fun l => a l (n - (k + 1)) + (cT a us mst L n k (s ||| 2 ^ l)).1) (fun l => (cT a us mst L n k (s ||| 2 ^ l)).2.1) 1000000000) 0 L
      (if s &&& mst (n - k) = mst (n - k) then ((cT a us mst L n k s).1, (cT a us mst L n k s).2.1, 2 ^ 12) else (-1000000, 0, 0))
def mW (a : Nat → Nat → Int) (L n : Nat) : Nat → Nat → Nat
  | 0, _ => 1
  | k + 1, s => min ((if mS a L n k s = mS a L n (k + 1) s then mW a L n k s else 0) + tS (fun l => ¬ s.testBit l = true ∧ a l (n - (k + 1)) + mS a L n k (s ||| 2 ^ l) = mS a L n (k + 1) s) (fun l => mW a L n k (s ||| 2 ^ l)) L) 1000000000
theorem mW_le (a : Nat → Nat → Int) (L n : Nat) : ∀ k s, mW a L n k s ≤ 1000000000 := by
  intro k s
  cases k with
  | zero => show 1 ≤ 1000000000; decide
  | succ k => rw [mW]; exact Nat.min_le_right _ _
/-- what the fold of the table gives -/
theorem cT_ways (a : Nat → Nat → Int) (us : Nat → Nat → Bool) (mst : Nat → Nat) (L n : Nat) (hL : L ≤ 12) : ∀ k s, (cT a us mst L n k s).2.1 ≤ 1000000000 := by
  intro k
  induction k with
  | zero => intro s; show 1 ≤ 1000000000; decide
  | succ k ih =>
    intro s
    rw [cT]
    split
    · obtain ⟨-, -, -, h, -⟩ := arg3 (fun l => ¬ (us l (n - (k + 1)) = true ∧ ¬ s.testBit l = true ∧ (s ||| 2 ^ l) &&& mst (n - k) = mst (n - k))) (fun l => a l (n - (k + 1)) + (cT a us mst L n k (s ||| 2 ^ l)).1) (fun l => (cT a us mst L n k (s ||| 2 ^ l)).2.1) 1000000000 (cT a us mst L n k s).1 (cT a us mst L n k s).2.1 (2 ^ 12) (ih s) (fun l => ih _) L (by
        intro l hl; rw [Nat.testBit_two_pow]; simp; omega)
      rw [h]; exact Nat.min_le_right _ _
    · obtain ⟨-, -, -, h, -⟩ := arg3 (fun l => ¬ (us l (n - (k + 1)) = true ∧ ¬ s.testBit l = true ∧ (s ||| 2 ^ l) &&& mst (n - k) = mst (n - k))) (fun l => a l (n - (k + 1)) + (cT a us mst L n k (s ||| 2 ^ l)).1) (fun l => (cT a us mst L n k (s ||| 2 ^ l)).2.1) 1000000000 (-1000000) 0 0 (by decide) (fun l => ih _) L (by intro l hl; simp)
      rw [h]; exact Nat.min_le_right _ _
theorem cT_arg (a : Nat → Nat → Int) (us : Nat → Nat → Bool) (mst : Nat → Nat) (L n k s : Nat) (hL : L ≤ 12) (m0 : Int) (t0 B0 : Nat) (h0 : (if s &&& mst (n - k) = mst (n - k) then ((cT a us mst L n k s).1, (cT a us mst L n k s).2.1, 2 ^ 12) else (-1000000, 0, 0)) = (m0, t0, B0)) :
    m0 ≤ (cT a us mst L n (k + 1) s).1 ∧ (∀ l, l < L → (us l (n - (k + 1)) = true ∧ ¬ s.testBit l = true ∧ (s ||| 2 ^ l) &&& mst (n - k) = mst (n - k)) → a l (n - (k + 1)) + (cT a us mst L n k (s ||| 2 ^ l)).1 ≤ (cT a us mst L n (k + 1) s).1) ∧
    ((cT a us mst L n (k + 1) s).1 = m0 ∨ ∃ l, l < L ∧ (us l (n - (k + 1)) = true ∧ ¬ s.testBit l = true ∧ (s ||| 2 ^ l) &&& mst (n - k) = mst (n - k)) ∧ (cT a us mst L n (k + 1) s).1 = a l (n - (k + 1)) + (cT a us mst L n k (s ||| 2 ^ l)).1) ∧
    (cT a us mst L n (k + 1) s).2.1 = min ((if m0 = (cT a us mst L n (k + 1) s).1 then t0 else 0) + tS (fun l => (us l (n - (k + 1)) = true ∧ ¬ s.testBit l = true ∧ (s ||| 2 ^ l) &&& mst (n - k) = mst (n - k)) ∧ a l (n - (k + 1)) + (cT a us mst L n k (s ||| 2 ^ l)).1 = (cT a us mst L n (k + 1) s).1) (fun l => (cT a us mst L n k (s ||| 2 ^ l)).2.1) L) 1000000000 ∧
    (∀ l, l < L → ((cT a us mst L n (k + 1) s).2.2.testBit l = true ↔ (us l (n - (k + 1)) = true ∧ ¬ s.testBit l = true ∧ (s ||| 2 ^ l) &&& mst (n - k) = mst (n - k)) ∧ a l (n - (k + 1)) + (cT a us mst L n k (s ||| 2 ^ l)).1 = (cT a us mst L n (k + 1) s).1)) ∧
    (∀ l, L ≤ l → ((cT a us mst L n (k + 1) s).2.2.testBit l = true ↔ B0.testBit l = true ∧ m0 = (cT a us mst L n (k + 1) s).1)) := by
  have hB : ∀ l, l < L → ¬ B0.testBit l = true := by
    intro l hl
    split at h0
    · have : B0 = 2 ^ 12 := (congrArg (fun q => q.2.2) h0).symm
      rw [this, Nat.testBit_two_pow]
      simp only [decide_eq_true_eq]
      omega
    · have : B0 = 0 := (congrArg (fun q => q.2.2) h0).symm
      rw [this]; simp
  have ht : t0 ≤ 1000000000 := by
    split at h0
    · have : t0 = (cT a us mst L n k s).2.1 := (congrArg (fun q => q.2.1) h0).symm
      rw [this]; exact cT_ways a us mst L n hL k s
    · have : t0 = 0 := (congrArg (fun q => q.2.1) h0).symm
      omega
  have key := arg3 (fun l => ¬ (us l (n - (k + 1)) = true ∧ ¬ s.testBit l = true ∧ (s ||| 2 ^ l) &&& mst (n - k) = mst (n - k))) (fun l => a l (n - (k + 1)) + (cT a us mst L n k (s ||| 2 ^ l)).1) (fun l => (cT a us mst L n k (s ||| 2 ^ l)).2.1) 1000000000 m0 t0 B0 ht (fun l => cT_ways a us mst L n hL k _) L hB
  have e : fo (st3 (fun l => ¬ (us l (n - (k + 1)) = true ∧ ¬ s.testBit l = true ∧ (s ||| 2 ^ l) &&& mst (n - k) = mst (n - k))) (fun l => a l (n - (k + 1)) + (cT a us mst L n k (s ||| 2 ^ l)).1) (fun l => (cT a us mst L n k (s ||| 2 ^ l)).2.1) 1000000000) 0 L (m0, t0, B0) = cT a us mst L n (k + 1) s := by
    rw [cT, h0]
  rw [e] at key
  obtain ⟨k1, k2, k3, k4, k5, k6⟩ := key
  refine ⟨k1, fun l hl hc => k2 l hl (fun z => z hc), ?_, ?_, ?_, k6⟩
  · rcases k3 with e | ⟨l, hl, hc, e⟩
    · exact Or.inl e
    · exact Or.inr ⟨l, hl, Classical.not_not.mp hc, e⟩
  · rw [k4]
    congr 2
    exact tS_congr _ _ _ _ L (fun l _ => by rw [Classical.not_not]) (fun _ _ _ => rfl)
  · intro l hl
    rw [k5 l hl, Classical.not_not]
/-- where the sum is the worths' and only lines that fit a book ahead are taken -/
def goodAt (a : Nat → Nat → Int) (u v : Nat → Int) (L n k s : Nat) : Prop := eqAt a u v L n k s ∧ ∀ l, s.testBit l = true → l < L ∧ ∃ b, b < n - k ∧ a l b = u l + v b
section
variable {a : Nat → Nat → Int} {u v : Nat → Int} {us : Nat → Nat → Bool} {mst : Nat → Nat} {L n : Nat}
theorem good_none {k s : Nat} (h : dualOk a u v L n) (hk : k < n) (hg : goodAt a u v L n (k + 1) s) (ho : mS a L n k s = mS a L n (k + 1) s) : goodAt a u v L n k s := by
  refine ⟨(eqAt_none h hk hg.1 ho).2, fun l hl => ?_⟩
  obtain ⟨h1, b, hb, e⟩ := hg.2 l hl
  exact ⟨h1, b, by omega, e⟩
theorem good_line {k s l : Nat} (h : dualOk a u v L n) (hk : k < n) (hg : goodAt a u v L n (k + 1) s) (hl : l < L) (hs : ¬ s.testBit l = true) (ho : a l (n - (k + 1)) + mS a L n k (s ||| 2 ^ l) = mS a L n (k + 1) s) : a l (n - (k + 1)) = u l + v (n - (k + 1)) ∧ goodAt a u v L n k (s ||| 2 ^ l) := by
  obtain ⟨e1, e2⟩ := eqAt_line h hk hg.1 hl hs ho
  refine ⟨e1, e2, fun j hj => ?_⟩
  rw [tb_or] at hj
  by_cases e : l = j
  · subst e; exact ⟨hl, n - (k + 1), by omega, e1⟩
  · rw [decide_eq_false e, Bool.or_false] at hj
    obtain ⟨h1, b, hb, e⟩ := hg.2 j hj
    exact ⟨h1, b, by omega, e⟩
theorem good_must (h : dualOk a u v L n) (hm : ∀ b, b ≤ n → ∀ l, (mst b).testBit l = true → l < L ∧ 0 < u l ∧ ∀ b', b ≤ b' → b' < n → a l b' ≠ u l + v b') {k s : Nat} (hk : k ≤ n) (hg : goodAt a u v L n k s) : s &&& mst (n - k) = mst (n - k) := by
  refine and_sub.mpr (fun l hl => ?_)
  obtain ⟨h1, h2, h3⟩ := hm (n - k) (by omega) l hl
  exact eqAt_must h h1 h2 k s hk hg.1 h3
theorem cT_le (hL : L ≤ 12) : ∀ k s, (cT a us mst L n k s).1 ≤ mS a L n k s := by
  intro k
  induction k with
  | zero => intro s; exact Int.le_refl _
  | succ k ih =>
    intro s
    generalize hq : (if s &&& mst (n - k) = mst (n - k) then ((cT a us mst L n k s).1, (cT a us mst L n k s).2.1, 2 ^ 12) else (-1000000, 0, 0)) = q
    obtain ⟨m0, t0, B0⟩ := q
    obtain ⟨-, -, h3, -⟩ := cT_arg a us mst L n k s hL m0 t0 B0 hq
    rcases h3 with e | ⟨l, hl, ⟨hu, hs, -⟩, e⟩
    · rw [e]
      split at hq
      · have : m0 = (cT a us mst L n k s).1 := (congrArg (fun q => q.1) hq).symm
        have h1 := ih s
        have h2 := mS_none a L n k s
        omega
      · have : m0 = -1000000 := (congrArg (fun q => q.1) hq).symm
        have := mS_nonneg a L n (k + 1) s
        omega
    · rw [e]
      have h1 := ih (s ||| 2 ^ l)
      have h2 := mS_line a L n k s l hl hs
      omega
theorem cT_good (hL : L ≤ 12) (h : dualOk a u v L n) (hus : ∀ l b, l < L → b < n → (us l b = true ↔ a l b = u l + v b)) (hm : ∀ b, b ≤ n → ∀ l, (mst b).testBit l = true → l < L ∧ 0 < u l ∧ ∀ b', b ≤ b' → b' < n → a l b' ≠ u l + v b') : ∀ k s, k ≤ n → goodAt a u v L n k s →
    (cT a us mst L n k s).1 = mS a L n k s ∧ (cT a us mst L n k s).2.1 = mW a L n k s := by
  intro k
  induction k with
  | zero => intro s _ _; exact ⟨rfl, rfl⟩
  | succ k ih =>
    intro s hk hg
    generalize hq : (if s &&& mst (n - k) = mst (n - k) then ((cT a us mst L n k s).1, (cT a us mst L n k s).2.1, 2 ^ 12) else (-1000000, 0, 0)) = q
    obtain ⟨m0, t0, B0⟩ := q
    obtain ⟨g1, g2, g3, g4, -⟩ := cT_arg a us mst L n k s hL m0 t0 B0 hq
    have hle := cT_le (a := a) (us := us) (mst := mst) (n := n) hL (k + 1) s
    have hM : (cT a us mst L n (k + 1) s).1 = mS a L n (k + 1) s := by
      rcases mS_some a L n k s with e | ⟨l, hl, hs, e⟩
      · have hg' := good_none h (by omega) hg e.symm
        have hp := good_must h hm (by omega) hg'
        rw [if_pos hp] at hq
        have e1 : m0 = (cT a us mst L n k s).1 := (congrArg (fun q => q.1) hq).symm
        have := (ih s (by omega) hg').1
        omega
      · obtain ⟨t, hg'⟩ := good_line h (by omega) hg hl hs e.symm
        have := g2 l hl ⟨(hus l _ hl (by omega)).mpr t, hs, good_must h hm (by omega) hg'⟩
        have := (ih (s ||| 2 ^ l) (by omega) hg').1
        omega
    refine ⟨hM, ?_⟩
    rw [g4, mW, hM]
    congr 2
    · by_cases e : mS a L n k s = mS a L n (k + 1) s
      · have hg' := good_none h (by omega) hg e
        rw [if_pos (good_must h hm (by omega) hg')] at hq
        have e1 : m0 = (cT a us mst L n k s).1 := (congrArg (fun q => q.1) hq).symm
        have e2 : t0 = (cT a us mst L n k s).2.1 := (congrArg (fun q => q.2.1) hq).symm
        obtain ⟨i1, i2⟩ := ih s (by omega) hg'
        rw [if_pos e, if_pos (by omega), e2, i2]
      · rw [if_neg e]
        split
        · rename_i e0
          split at hq
          · have e1 : m0 = (cT a us mst L n k s).1 := (congrArg (fun q => q.1) hq).symm
            have h1 := cT_le (a := a) (us := us) (mst := mst) (n := n) hL k s
            have h2 := mS_none a L n k s
            omega
          · exact (congrArg (fun q => q.2.1) hq).symm
        · rfl
    · refine tS_congr _ _ _ _ L (fun l hl => ?_) (fun l hl hq' => ?_)
      · constructor
        · rintro ⟨⟨-, c2, -⟩, e⟩
          refine ⟨c2, ?_⟩
          have h1 := cT_le (a := a) (us := us) (mst := mst) (n := n) hL k (s ||| 2 ^ l)
          have h2 := mS_line a L n k s l hl c2
          omega
        · rintro ⟨c2, e⟩
          obtain ⟨t, hg'⟩ := good_line h (by omega) hg hl c2 e
          refine ⟨⟨(hus l _ hl (by omega)).mpr t, c2, good_must h hm (by omega) hg'⟩, ?_⟩
          rw [(ih (s ||| 2 ^ l) (by omega) hg').1]
          exact e
      · obtain ⟨⟨-, c2, -⟩, e⟩ := hq'
        have h1 := cT_le (a := a) (us := us) (mst := mst) (n := n) hL k (s ||| 2 ^ l)
        have h2 := mS_line a L n k s l hl c2
        obtain ⟨t, hg'⟩ := good_line h (by omega) hg hl c2 (by omega)
        exact (ih (s ||| 2 ^ l) (by omega) hg').2
/-- what is best for a book at a good set -/
theorem cT_mask (hL : L ≤ 12) (h : dualOk a u v L n) (hus : ∀ l b, l < L → b < n → (us l b = true ↔ a l b = u l + v b)) (hm : ∀ b, b ≤ n → ∀ l, (mst b).testBit l = true → l < L ∧ 0 < u l ∧ ∀ b', b ≤ b' → b' < n → a l b' ≠ u l + v b') {k s : Nat} (hk : k < n) (hg : goodAt a u v L n (k + 1) s) :
    (∀ l, l < L → ((cT a us mst L n (k + 1) s).2.2.testBit l = true ↔ ¬ s.testBit l = true ∧ a l (n - (k + 1)) + mS a L n k (s ||| 2 ^ l) = mS a L n (k + 1) s)) ∧
    (∀ l, L ≤ l → ((cT a us mst L n (k + 1) s).2.2.testBit l = true ↔ l = 12 ∧ mS a L n k s = mS a L n (k + 1) s)) := by
  generalize hq : (if s &&& mst (n - k) = mst (n - k) then ((cT a us mst L n k s).1, (cT a us mst L n k s).2.1, 2 ^ 12) else (-1000000, 0, 0)) = q
  obtain ⟨m0, t0, B0⟩ := q
  obtain ⟨-, -, -, -, g5, g6⟩ := cT_arg a us mst L n k s hL m0 t0 B0 hq
  have hM := (cT_good hL h hus hm (k + 1) s (by omega) hg).1
  constructor
  · intro l hl
    rw [g5 l hl, hM]
    constructor
    · rintro ⟨⟨-, c2, -⟩, e⟩
      refine ⟨c2, ?_⟩
      have h1 := cT_le (a := a) (us := us) (mst := mst) (n := n) hL k (s ||| 2 ^ l)
      have h2 := mS_line a L n k s l hl c2
      omega
    · rintro ⟨c2, e⟩
      obtain ⟨t, hg'⟩ := good_line h hk hg hl c2 e
      refine ⟨⟨(hus l _ hl (by omega)).mpr t, c2, good_must h hm (by omega) hg'⟩, ?_⟩
      rw [(cT_good hL h hus hm k _ (by omega) hg').1]
      exact e
  · intro l hl
    rw [g6 l hl, hM]
    constructor
    · rintro ⟨c, e⟩
      split at hq
      · have e1 : m0 = (cT a us mst L n k s).1 := (congrArg (fun q => q.1) hq).symm
        have e2 : B0 = 2 ^ 12 := (congrArg (fun q => q.2.2) hq).symm
        rw [e2, Nat.testBit_two_pow] at c
        have h1 := cT_le (a := a) (us := us) (mst := mst) (n := n) hL k s
        have h2 := mS_none a L n k s
        simp only [decide_eq_true_eq] at c
        exact ⟨c.symm, by omega⟩
      · have e2 : B0 = 0 := (congrArg (fun q => q.2.2) hq).symm
        rw [e2] at c
        simp at c
    · rintro ⟨rfl, e⟩
      have hg' := good_none h hk hg e
      rw [if_pos (good_must h hm (by omega) hg')] at hq
      have e1 : m0 = (cT a us mst L n k s).1 := (congrArg (fun q => q.1) hq).symm
      have e2 : B0 = 2 ^ 12 := (congrArg (fun q => q.2.2) hq).symm
      rw [e2, e1, (cT_good hL h hus hm k s (by omega) hg').1]
      exact ⟨by rw [Nat.testBit_two_pow]; rfl, e⟩
end
