/-! few sets are enough -/
def tS (q : Nat → Prop) [DecidablePred q] (wt : Nat → Nat) : Nat → Nat
  | 0 => 0
  | p + 1 => tS q wt p + if q p then wt p else 0
theorem tS_no {q : Nat → Prop} [DecidablePred q] {wt : Nat → Nat} {p : Nat} (h : ¬ q p) : tS q wt (p + 1) = tS q wt p := by rw [tS, if_neg h]; rfl
theorem tS_yes {q : Nat → Prop} [DecidablePred q] {wt : Nat → Nat} {p : Nat} (h : q p) : tS q wt (p + 1) = tS q wt p + wt p := by rw [tS, if_pos h]
theorem tS_zero (q : Nat → Prop) [DecidablePred q] (wt : Nat → Nat) : ∀ p, (∀ l, l < p → ¬ q l) → tS q wt p = 0 := by
  intro p
  induction p with
  | zero => intro _; rfl
  | succ p ih => intro h; rw [tS, ih (fun l hl => h l (by omega)), if_neg (h p (by omega))]
theorem tS_congr (q q' : Nat → Prop) [DecidablePred q] [DecidablePred q'] (wt wt' : Nat → Nat) : ∀ p, (∀ l, l < p → (q l ↔ q' l)) → (∀ l, l < p → q l → wt l = wt' l) → tS q wt p = tS q' wt' p := by
  intro p
  induction p with
  | zero => intro _ _; rfl
  | succ p ih =>
    intro h g
    rw [tS, tS, ih (fun l hl => h l (by omega)) (fun l hl => g l (by omega))]
    by_cases hq : q p
    · rw [if_pos hq, if_pos ((h p (by omega)).mp hq), g p (by omega) hq]
    · rw [if_neg hq, if_neg (fun z => hq ((h p (by omega)).mpr z))]
/-- the most, how often, by what: the capped form -/
def st3 (c : Nat → Prop) [DecidablePred c] (val : Nat → Int) (wt : Nat → Nat) (cap : Nat) (l : Nat) (r : Int × Nat × Nat) : Int × Nat × Nat :=
  if c l then r else if r.1 < val l then (val l, wt l, 2 ^ l) else if val l = r.1 then (r.1, min (r.2.1 + wt l) cap, r.2.2 ||| 2 ^ l) else r
theorem arg3 (c : Nat → Prop) [DecidablePred c] (val : Nat → Int) (wt : Nat → Nat) (cap : Nat) (m0 : Int) (t0 B0 : Nat) (ht : t0 ≤ cap) (hw : ∀ l, wt l ≤ cap) : ∀ p, (∀ l, l < p → ¬ B0.testBit l = true) →
    m0 ≤ (fo (st3 c val wt cap) 0 p (m0, t0, B0)).1 ∧ (∀ l, l < p → ¬ c l → val l ≤ (fo (st3 c val wt cap) 0 p (m0, t0, B0)).1) ∧
    ((fo (st3 c val wt cap) 0 p (m0, t0, B0)).1 = m0 ∨ ∃ l, l < p ∧ ¬ c l ∧ (fo (st3 c val wt cap) 0 p (m0, t0, B0)).1 = val l) ∧
    (fo (st3 c val wt cap) 0 p (m0, t0, B0)).2.1 = min ((if m0 = (fo (st3 c val wt cap) 0 p (m0, t0, B0)).1 then t0 else 0) + tS (fun l => ¬ c l ∧ val l = (fo (st3 c val wt cap) 0 p (m0, t0, B0)).1) wt p) cap ∧
    (∀ l, l < p → ((fo (st3 c val wt cap) 0 p (m0, t0, B0)).2.2.testBit l = true ↔ ¬ c l ∧ val l = (fo (st3 c val wt cap) 0 p (m0, t0, B0)).1)) ∧
    (∀ l, p ≤ l → ((fo (st3 c val wt cap) 0 p (m0, t0, B0)).2.2.testBit l = true ↔ B0.testBit l = true ∧ m0 = (fo (st3 c val wt cap) 0 p (m0, t0, B0)).1)) := by
  intro p
  induction p with
  | zero =>
    intro _
    refine ⟨Int.le_refl _, fun l hl => by omega, Or.inl rfl, ?_, fun l hl => by omega, fun l _ => ?_⟩
    · show t0 = min ((if m0 = m0 then t0 else 0) + 0) cap
      rw [if_pos rfl]; omega
    · show B0.testBit l = true ↔ _ ∧ m0 = m0
      simp
  | succ p ih =>
    intro hB
    obtain ⟨h1, h2, h3, h4, h5, h6⟩ := ih (fun l hl => hB l (by omega))
    rw [fo_last, Nat.zero_add]
    generalize fo (st3 c val wt cap) 0 p (m0, t0, B0) = r at h1 h2 h3 h4 h5 h6 ⊢
    obtain ⟨m, t, B⟩ := r
    dsimp only at h1 h2 h3 h4 h5 h6
    unfold st3
    dsimp only
    by_cases hc : c p
    · rw [if_pos hc]
      dsimp only
      refine ⟨h1, ?_, ?_, ?_, ?_, ?_⟩
      · intro l hl hcl
        by_cases e : l = p
        · subst e; exact absurd hc hcl
        · exact h2 l (by omega) hcl
      · rcases h3 with e | ⟨l, hl, e⟩
        · exact Or.inl e
        · exact Or.inr ⟨l, by omega, e⟩
      · rw [h4, tS_no (fun z => z.1 hc)]
      · intro l hl
        by_cases e : l = p
        · subst e
          rw [h6 l (Nat.le_refl _)]
          constructor
          · intro z; exact absurd z.1 (hB l (by omega))
          · intro z; exact absurd hc z.1
        · exact h5 l (by omega)
      · intro l hl; exact h6 l (by omega)
    · rw [if_neg hc]
      by_cases hlt : m < val p
      · rw [if_pos hlt]
        dsimp only
        have hz : tS (fun l => ¬ c l ∧ val l = val p) wt p = 0 := tS_zero _ _ p (by
          intro l hl z
          have := h2 l hl z.1
          have := z.2
          omega)
        refine ⟨by omega, ?_, ?_, ?_, ?_, ?_⟩
        · intro l hl hcl
          by_cases e : l = p
          · subst e; exact Int.le_refl _
          · have := h2 l (by omega) hcl; omega
        · exact Or.inr ⟨p, by omega, hc, rfl⟩
        · have hm : ¬ m0 = val p := by omega
          rw [tS_yes ⟨hc, rfl⟩, hz, if_neg hm]
          have := hw p
          omega
        · intro l hl
          rw [Nat.testBit_two_pow]
          by_cases e : l = p
          · subst e; simp [hc]
          · have : ¬ p = l := fun z => e z.symm
            simp only [this, decide_false, Bool.false_eq_true, false_iff]
            intro z
            have := h2 l (by omega) z.1
            have := z.2
            omega
        · intro l hl
          rw [Nat.testBit_two_pow]
          have : ¬ p = l := by omega
          simp only [this, decide_false, Bool.false_eq_true, false_iff]
          intro z
          have := z.2
          omega
      · rw [if_neg hlt]
        by_cases heq : val p = m
        · rw [if_pos heq]
          dsimp only
          refine ⟨h1, ?_, ?_, ?_, ?_, ?_⟩
          · intro l hl hcl
            by_cases e : l = p
            · subst e; omega
            · exact h2 l (by omega) hcl
          · rcases h3 with e | ⟨l, hl, e⟩
            · exact Or.inl e
            · exact Or.inr ⟨l, by omega, e⟩
          · rw [tS_yes ⟨hc, heq⟩, h4]
            omega
          · intro l hl
            rw [tb_or]
            by_cases e : l = p
            · subst e; simp [hc, heq]
            · have : ¬ p = l := fun z => e z.symm
              simp only [this, decide_false, Bool.or_false]
              exact h5 l (by omega)
          · intro l hl
            rw [tb_or]
            have : ¬ p = l := by omega
            simp only [this, decide_false, Bool.or_false]
            exact h6 l (by omega)
        · rw [if_neg heq]
          dsimp only
          refine ⟨h1, ?_, ?_, ?_, ?_, ?_⟩
          · intro l hl hcl
            by_cases e : l = p
            · subst e; omega
            · exact h2 l (by omega) hcl
          · rcases h3 with e | ⟨l, hl, e⟩
            · exact Or.inl e
            · exact Or.inr ⟨l, by omega, e⟩
          · rw [tS_no (fun z => heq z.2)]; exact h4
          · intro l hl
            by_cases e : l = p
            · subst e
              rw [h6 l (Nat.le_refl _)]
              constructor
              · intro z; exact absurd z.1 (hB l (by omega))
              · intro z; exact absurd z.2 heq
            · exact h5 l (by omega)
          · intro l hl; exact h6 l (by omega)
/-- the most and how often, without a cap -/
def st2 (c : Nat → Prop) [DecidablePred c] (val : Nat → Int) (wt : Nat → Nat) (l : Nat) (r : Int × Nat) : Int × Nat :=
  if c l then r else (if r.1 < val l then val l else r.1, (if r.1 < val l then 0 else r.2) + if r.1 ≤ val l then wt l else 0)
theorem arg2 (c : Nat → Prop) [DecidablePred c] (val : Nat → Int) (wt : Nat → Nat) (m0 : Int) (t0 : Nat) : ∀ p,
    (fo (st2 c val wt) 0 p (m0, t0)).1 = fo (fun l m => if c l then m else if m < val l then val l else m) 0 p m0 ∧
    (fo (st2 c val wt) 0 p (m0, t0)).2 = (if m0 = (fo (st2 c val wt) 0 p (m0, t0)).1 then t0 else 0) + tS (fun l => ¬ c l ∧ val l = (fo (st2 c val wt) 0 p (m0, t0)).1) wt p := by
  intro p
  induction p with
  | zero => exact ⟨rfl, by show t0 = (if m0 = m0 then t0 else 0) + 0; rw [if_pos rfl]; rfl⟩
  | succ p ih =>
    obtain ⟨h1, h2⟩ := ih
    have h0 : m0 ≤ (fo (st2 c val wt) 0 p (m0, t0)).1 := by rw [h1]; exact fo_ge p 0 m0
    have h3 : ∀ l, l < p → ¬ c l → val l ≤ (fo (st2 c val wt) 0 p (m0, t0)).1 := by
      intro l hl hc; rw [h1]; exact fo_all p 0 m0 l (by omega) (by omega) hc
    rw [fo_last, fo_last, Nat.zero_add, ← h1]
    generalize fo (st2 c val wt) 0 p (m0, t0) = r at h0 h1 h2 h3 ⊢
    obtain ⟨m, t⟩ := r
    dsimp only at h0 h1 h2 h3
    unfold st2
    dsimp only
    by_cases hc : c p
    · rw [if_pos hc, if_pos hc]
      refine ⟨rfl, ?_⟩
      dsimp only
      rw [tS_no (fun z => z.1 hc)]; exact h2
    · rw [if_neg hc, if_neg hc]
      refine ⟨rfl, ?_⟩
      dsimp only
      by_cases hlt : m < val p
      · have hz : tS (fun l => ¬ c l ∧ val l = val p) wt p = 0 := tS_zero _ _ p (by
          intro l hl z
          have := h3 l hl z.1
          have := z.2
          omega)
        simp only [if_pos hlt, if_pos (Int.le_of_lt hlt)]
        have hm : ¬ m0 = val p := by omega
        rw [tS_yes ⟨hc, rfl⟩, hz, if_neg hm]
        omega
      · simp only [if_neg hlt]
        by_cases heq : val p = m
        · have hm : m ≤ val p := by omega
          rw [tS_yes ⟨hc, heq⟩, if_pos hm, h2]; omega
        · have hm : ¬ m ≤ val p := by omega
          rw [tS_no (fun z => heq z.2), if_neg hm, h2]; omega
