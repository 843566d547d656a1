/-! worths are found line by line: a l p for lines 1 .. L and places 1 .. P, t p the line that has a place (0: none) -/
/-- lines 1 .. i have their places -/
def HI (a : Nat → Nat → Int) (P i : Nat) (u v : Nat → Int) (t : Nat → Nat) : Prop :=
  (∀ l, 1 ≤ l → l ≤ i → ∃ p, 1 ≤ p ∧ p ≤ P ∧ t p = l) ∧
  (∀ p q, 1 ≤ p → p ≤ P → 1 ≤ q → q ≤ P → t p = t q → t p ≠ 0 → p = q) ∧
  (∀ p, 1 ≤ p → p ≤ P → t p ≤ i) ∧
  (∀ p, 1 ≤ p → p ≤ P → t p ≠ 0 → u (t p) + v p = a (t p) p) ∧
  (∀ l p, 1 ≤ l → l ≤ i → 1 ≤ p → p ≤ P → a l p ≤ u l + v p) ∧
  (∀ p, 1 ≤ p → p ≤ P → 0 ≤ v p ∧ (t p = 0 → v p = 0))
/-- a place behind the first n that no line has -/
theorem HI_free {a : Nat → Nat → Int} {P i : Nat} {u v : Nat → Int} {t : Nat → Nat} (h : HI a P i u v t) {n : Nat} (hP : n + i < P) : ∃ p, n < p ∧ p ≤ P ∧ t p = 0 := by
  obtain ⟨-, h2, h3, -⟩ := h
  by_cases hx : ∃ p, n < p ∧ p ≤ P ∧ t p = 0
  · exact hx
  · exfalso
    have hne : ∀ p, n < p → p ≤ P → t p ≠ 0 := fun p h1 h2 h3 => hx ⟨p, h1, h2, h3⟩
    have := pigeon i (P - n) (fun x => t (n + 1 + x) - 1) (by
      intro x hx
      have h4 := hne (n + 1 + x) (by omega) (by omega)
      have h5 := h3 (n + 1 + x) (by omega) (by omega)
      omega) (by
      intro x y hx hy e
      have h4 := hne (n + 1 + x) (by omega) (by omega)
      have h5 := hne (n + 1 + y) (by omega) (by omega)
      have := h2 (n + 1 + x) (n + 1 + y) (by omega) (by omega) (by omega) (by omega) (by omega) h4
      omega)
    omega
/-- on the way: line i + 1 stands at place 0; q 0 .. q (n - 1) were seen, in this order; o is at hand -/
def SI (a : Nat → Nat → Int) (P i : Nat) (u v : Nat → Int) (t : Nat → Nat) (ov : Nat → Int) (bf : Nat → Nat) (q : Nat → Nat) (n o : Nat) : Prop :=
  (t 0 = i + 1 ∧ (∀ p, 1 ≤ p → p ≤ P → t p ≤ i) ∧ (∀ l, 1 ≤ l → l ≤ i → ∃ p, 1 ≤ p ∧ p ≤ P ∧ t p = l) ∧ ∀ p q, 1 ≤ p → p ≤ P → 1 ≤ q → q ≤ P → t p = t q → t p ≠ 0 → p = q) ∧
  (∀ p, 1 ≤ p → p ≤ P → t p ≠ 0 → u (t p) + v p = a (t p) p) ∧
  (∀ l p, 1 ≤ l → l ≤ i + 1 → 1 ≤ p → p ≤ P → a l p ≤ u l + v p) ∧
  (∀ p, 1 ≤ p → p ≤ P → 0 ≤ v p ∧ (t p = 0 → v p = 0)) ∧
  (0 < n ∧ q 0 = 0 ∧ (∀ j, j < n → q j ≤ P ∧ t (q j) ≠ 0 ∧ (0 < j → 1 ≤ q j)) ∧ (∀ j k, j < n → k < n → q j = q k → j = k)) ∧
  (1 ≤ o ∧ o ≤ P ∧ ∀ j, j < n → q j ≠ o) ∧
  (∀ p, 1 ≤ p → p ≤ P → (∀ j, j < n → q j ≠ p) → (∃ j, j < n ∧ bf p = q j) ∧ ov p = u (t (bf p)) + v p - a (t (bf p)) p ∧ ∀ j, j < n → ov p ≤ u (t (q j)) + v p - a (t (q j)) p) ∧
  (∀ j, 0 < j → j < n → (∃ k, k < j ∧ bf (q j) = q k) ∧ u (t (bf (q j))) + v (q j) = a (t (bf (q j))) (q j)) ∧
  (u (t (bf o)) + v o = a (t (bf o)) o) ∧ (u (i + 1) ≤ 17)
theorem SI_n {a : Nat → Nat → Int} {P i : Nat} {u v : Nat → Int} {t : Nat → Nat} {ov : Nat → Int} {bf q : Nat → Nat} {n o : Nat} (h : SI a P i u v t ov bf q n o) : n ≤ i + 1 := by
  obtain ⟨⟨h1, h2, -, h3⟩, -, -, -, ⟨g1, g2, g3, g4⟩, -⟩ := h
  refine pigeon (i + 1) n (fun j => t (q j) - 1) ?_ ?_
  · intro j hj
    obtain ⟨c1, c2, c3⟩ := g3 j hj
    rcases Nat.eq_zero_or_pos j with e | e
    · subst e; rw [g2, h1]; omega
    · have := h2 (q j) (c3 e) c1; omega
  · intro j k hj hk e
    obtain ⟨c1, c2, c3⟩ := g3 j hj
    obtain ⟨d1, d2, d3⟩ := g3 k hk
    rcases Nat.eq_zero_or_pos j with ej | ej
    · rcases Nat.eq_zero_or_pos k with ek | ek
      · omega
      · have := h2 (q k) (d3 ek) d1; subst ej; rw [g2, h1] at e; omega
    · rcases Nat.eq_zero_or_pos k with ek | ek
      · have := h2 (q j) (c3 ej) c1; subst ek; rw [g2, h1] at e; omega
      · exact g4 j k hj hk (h3 (q j) (q k) (c3 ej) c1 (d3 ek) d1 (by omega) c2)
/-- all that goOn does: w is by how much worths change, o' the next place -/
def goR (a : Nat → Nat → Int) (P : Nat) (t : Nat → Nat) (u v ov : Nat → Int) (bf : Nat → Nat) (seen : Nat → Prop) (o : Nat) (w : Int) (u' v' ov' : Nat → Int) (bf' : Nat → Nat) (o' : Nat) : Prop :=
  (∀ p, 1 ≤ p → p ≤ P → ¬ seen p → ov' p = (if u (t o) + v p - a (t o) p < ov p then u (t o) + v p - a (t o) p else ov p) - w) ∧
  (∀ p, 1 ≤ p → p ≤ P → (¬ seen p ∧ u (t o) + v p - a (t o) p < ov p → bf' p = o) ∧ (¬ (¬ seen p ∧ u (t o) + v p - a (t o) p < ov p) → bf' p = bf p)) ∧
  (∀ p, 1 ≤ p → p ≤ P → ¬ seen p → w ≤ (if u (t o) + v p - a (t o) p < ov p then u (t o) + v p - a (t o) p else ov p)) ∧
  (1 ≤ o' ∧ o' ≤ P ∧ ¬ seen o' ∧ w = (if u (t o) + v o' - a (t o) o' < ov o' then u (t o) + v o' - a (t o) o' else ov o')) ∧
  (∀ l, (∃ p, p ≤ P ∧ seen p ∧ t p = l) → u' l = u l - w) ∧ (∀ l, (¬ ∃ p, p ≤ P ∧ seen p ∧ t p = l) → u' l = u l) ∧
  (∀ p, p ≤ P → seen p → v' p = v p + w) ∧ (∀ p, p ≤ P → ¬ seen p → v' p = v p)
theorem SI_first {a : Nat → Nat → Int} {P i : Nat} {u v : Nat → Int} {t : Nat → Nat} {ov : Nat → Int} {bf : Nat → Nat} {u' v' ov' : Nat → Int} {bf' : Nat → Nat} {o' : Nat} {w : Int} (h : HI a P i u v t) (h0 : t 0 = i + 1) (hu : u (i + 1) = 0) (ha : ∀ l p, 1 ≤ p → p ≤ P → a l p ≤ 17)
    (hov : ∀ p, 1 ≤ p → p ≤ P → u (t 0) + v p - a (t 0) p < ov p) (hg : goR a P t u v ov bf (fun p => p = 0) 0 w u' v' ov' bf' o') : SI a P i u' v' t ov' bf' (fun _ => 0) 1 o' := by
  obtain ⟨h1, h2, h3, h4, h5, h6⟩ := h
  obtain ⟨g1, g2, g3, ⟨g4, g5, g6, g7⟩, g8, g9, g10, g11⟩ := hg
  have hv : ∀ p, 1 ≤ p → p ≤ P → v' p = v p := fun p a1 a2 => g11 p a2 (by omega)
  have hub : u' (i + 1) = u (i + 1) - w := g8 _ ⟨0, by omega, rfl, h0⟩
  have huo : ∀ l, l ≠ i + 1 → u' l = u l := fun l hl => g9 l (by rintro ⟨p, a1, a2, a3⟩; subst a2; omega)
  have hbf : ∀ p, 1 ≤ p → p ≤ P → bf' p = 0 := fun p a1 a2 => (g2 p a1 a2).1 ⟨by omega, hov p a1 a2⟩
  have hw : ∀ p, 1 ≤ p → p ≤ P → w ≤ u (i + 1) + v p - a (i + 1) p := fun p a1 a2 => by
    have := g3 p a1 a2 (by omega); rw [if_pos (hov p a1 a2), h0] at this; exact this
  have hwo : w = u (i + 1) + v o' - a (i + 1) o' := by rw [if_pos (hov o' g4 g5), h0] at g7; exact g7
  refine ⟨⟨h0, h3, h1, h2⟩, ?_, ?_, ?_, ⟨by omega, rfl, ?_, ?_⟩, ⟨g4, g5, fun j _ => by show (0 : Nat) ≠ o'; omega⟩, ?_, ?_, ?_, ?_⟩
  · intro p a1 a2 a3
    have := h3 p a1 a2
    rw [huo _ (by omega), hv p a1 a2]
    exact h4 p a1 a2 a3
  · intro l p a1 a2 a3 a4
    rw [hv p a3 a4]
    by_cases e : l = i + 1
    · rw [e, hub]; have := hw p a3 a4; omega
    · rw [huo l e]; exact h5 l p a1 (by omega) a3 a4
  · intro p a1 a2
    rw [hv p a1 a2]; exact h6 p a1 a2
  · intro j hj
    show (0 : Nat) ≤ P ∧ t 0 ≠ 0 ∧ (0 < j → 1 ≤ (0 : Nat))
    exact ⟨by omega, by rw [h0]; omega, by omega⟩
  · intro j k hj hk _; omega
  · intro p a1 a2 _
    refine ⟨⟨0, by omega, hbf p a1 a2⟩, ?_, ?_⟩
    · rw [hbf p a1 a2, h0, hub, hv p a1 a2, g1 p a1 a2 (by omega), if_pos (hov p a1 a2), h0]; omega
    · intro j _
      rw [h0, hub, hv p a1 a2, g1 p a1 a2 (by omega), if_pos (hov p a1 a2), h0]; omega
  · intro j h1 h2; omega
  · rw [hbf o' g4 g5, h0, hub, hv o' g4 g5]; omega
  · have h7 := (h6 o' g4 g5).1
    have h8 := ha (i + 1) o' g4 g5
    omega
theorem SI_next {a : Nat → Nat → Int} {P i : Nat} {u v : Nat → Int} {t : Nat → Nat} {ov : Nat → Int} {bf : Nat → Nat} {q : Nat → Nat} {n o : Nat} {u' v' ov' : Nat → Int} {bf' : Nat → Nat} {o' : Nat} {w : Int} (h : SI a P i u v t ov bf q n o) (ho : t o ≠ 0)
    (hg : goR a P t u v ov bf (fun p => ∃ j, j < n + 1 ∧ (if j = n then o else q j) = p) o w u' v' ov' bf' o') : SI a P i u' v' t ov' bf' (fun j => if j = n then o else q j) (n + 1) o' := by
  obtain ⟨⟨h0, h3, h1, h2⟩, h4, h5, h6, ⟨q1, q2, q3, q4⟩, ⟨o1, o2, o3⟩, s1, s2, s3, s4⟩ := h
  obtain ⟨g1, g2, g3, ⟨g4, g5, g6, g7⟩, g8, g9, g10, g11⟩ := hg
  -- what was seen
  have hse : ∀ p, (∃ j, j < n + 1 ∧ (if j = n then o else q j) = p) ↔ p = o ∨ ∃ j, j < n ∧ q j = p := by
    intro p
    constructor
    · rintro ⟨j, hj, e⟩
      by_cases c : j = n
      · rw [if_pos c] at e; exact Or.inl e.symm
      · rw [if_neg c] at e; exact Or.inr ⟨j, by omega, e⟩
    · rintro (e | ⟨j, hj, e⟩)
      · exact ⟨n, by omega, by rw [if_pos rfl]; exact e.symm⟩
      · exact ⟨j, by omega, by rw [if_neg (by omega)]; exact e⟩
  -- one line, one place, place 0 too
  have inj : ∀ p p', p ≤ P → p' ≤ P → t p = t p' → t p ≠ 0 → p = p' := by
    intro p p' a1 a2 a3 a4
    rcases Nat.eq_zero_or_pos p with e | e
    · rcases Nat.eq_zero_or_pos p' with e' | e'
      · omega
      · have := h3 p' e' a2; subst e; omega
    · rcases Nat.eq_zero_or_pos p' with e' | e'
      · have := h3 p e a1; subst e'; omega
      · exact h2 p p' e a1 e' a2 a3 a4
  have htl : ∀ p, p ≤ P → t p ≤ i + 1 := by
    intro p hp
    rcases Nat.eq_zero_or_pos p with e | e
    · subst e; omega
    · have := h3 p e hp; omega
  have hsP : ∀ p, (p = o ∨ ∃ j, j < n ∧ q j = p) → p ≤ P ∧ t p ≠ 0 := by
    rintro p (e | ⟨j, hj, e⟩)
    · subst e; exact ⟨o2, ho⟩
    · subst e; exact ⟨(q3 j hj).1, (q3 j hj).2.1⟩
  have su : ∀ p, (p = o ∨ ∃ j, j < n ∧ q j = p) → u' (t p) = u (t p) - w := fun p hp => g8 _ ⟨p, (hsP p hp).1, (hse p).mpr hp, rfl⟩
  have nu : ∀ p, p ≤ P → t p ≠ 0 → ¬ (p = o ∨ ∃ j, j < n ∧ q j = p) → u' (t p) = u (t p) := by
    intro p hp h0 hn
    refine g9 _ ?_
    rintro ⟨p', a1, a2, a3⟩
    have := inj p' p a1 hp a3 (by omega)
    subst this
    exact hn ((hse p').mp a2)
  have sv : ∀ p, (p = o ∨ ∃ j, j < n ∧ q j = p) → v' p = v p + w := fun p hp => g10 p (hsP p hp).1 ((hse p).mpr hp)
  have nv : ∀ p, p ≤ P → ¬ (p = o ∨ ∃ j, j < n ∧ q j = p) → v' p = v p := fun p h1 hp => g11 p h1 (fun z => hp ((hse p).mp z))
  have hto : 1 ≤ t o ∧ t o ≤ i + 1 := ⟨by omega, htl o o2⟩
  -- worths change by no less than 0
  have hw0 : 0 ≤ w := by
    have e := g7
    have f1 := h5 (t o) o' hto.1 hto.2 g4 g5
    have hn : ¬ (o' = o ∨ ∃ j, j < n ∧ q j = o') := fun z => g6 ((hse o').mpr z)
    obtain ⟨⟨j, hj, e1⟩, e2, -⟩ := s1 o' g4 g5 (fun j hj z => hn (Or.inr ⟨j, hj, z⟩))
    have f2 := h5 (t (q j)) o' (by have := (q3 j hj).2.1; omega) (htl _ (q3 j hj).1) g4 g5
    rw [e1] at e2
    split at e <;> omega
  have hmin : ∀ p, 1 ≤ p → p ≤ P → ¬ (p = o ∨ ∃ j, j < n ∧ q j = p) → ∀ p', (p' = o ∨ ∃ j, j < n ∧ q j = p') → (if u (t o) + v p - a (t o) p < ov p then u (t o) + v p - a (t o) p else ov p) ≤ u (t p') + v p - a (t p') p := by
    intro p a1 a2 hn p' hp'
    obtain ⟨-, -, e3⟩ := s1 p a1 a2 (fun j hj z => hn (Or.inr ⟨j, hj, z⟩))
    rcases hp' with e | ⟨j, hj, e⟩
    · subst e; split <;> omega
    · subst e; have := e3 j hj; split <;> omega
  refine ⟨⟨h0, h3, h1, h2⟩, ?_, ?_, ?_, ⟨by omega, ?_, ?_, ?_⟩, ⟨g4, g5, ?_⟩, ?_, ?_, ?_, ?_⟩
  · intro p a1 a2 a3
    have := h4 p a1 a2 a3
    by_cases hp : p = o ∨ ∃ j, j < n ∧ q j = p
    · rw [su p hp, sv p hp]; omega
    · rw [nu p a2 a3 hp, nv p a2 hp]; exact this
  · intro l p a1 a2 a3 a4
    have hf := h5 l p a1 a2 a3 a4
    by_cases hl : ∃ p', p' ≤ P ∧ (∃ j, j < n + 1 ∧ (if j = n then o else q j) = p') ∧ t p' = l
    · obtain ⟨p', b1, b2, b3⟩ := hl
      have b2' := (hse p').mp b2
      rw [← b3, su p' b2']
      by_cases hp : p = o ∨ ∃ j, j < n ∧ q j = p
      · rw [sv p hp]; rw [← b3] at hf; omega
      · rw [nv p a4 hp]
        have c1 := hmin p a3 a4 hp p' b2'
        have c2 := g3 p a3 a4 (fun z => hp ((hse p).mp z))
        omega
    · rw [g9 l hl]
      by_cases hp : p = o ∨ ∃ j, j < n ∧ q j = p
      · rw [sv p hp]; omega
      · rw [nv p a4 hp]; exact hf
  · intro p a1 a2
    obtain ⟨c1, c2⟩ := h6 p a1 a2
    by_cases hp : p = o ∨ ∃ j, j < n ∧ q j = p
    · rw [sv p hp]; exact ⟨by omega, fun z => absurd z (hsP p hp).2⟩
    · rw [nv p a2 hp]; exact ⟨c1, c2⟩
  · show (if 0 = n then o else q 0) = 0
    rw [if_neg (by omega)]; exact q2
  · intro j hj
    by_cases c : j = n
    · simp only [c, if_true]; exact ⟨o2, ho, fun _ => o1⟩
    · simp only [c, if_false]; exact q3 j (by omega)
  · intro j k hj hk e
    by_cases c : j = n
    · by_cases d : k = n
      · omega
      · simp only [c, d, if_true, if_false] at e; exact absurd e.symm (o3 k (by omega))
    · by_cases d : k = n
      · simp only [c, d, if_true, if_false] at e; exact absurd e (o3 j (by omega))
      · simp only [c, d, if_false] at e; exact q4 j k (by omega) (by omega) e
  · intro j hj z; exact g6 ⟨j, hj, z⟩
  · intro p a1 a2 hns
    have hn : ¬ (p = o ∨ ∃ j, j < n ∧ q j = p) := fun z => by
      obtain ⟨j, hj, e⟩ := (hse p).mpr z
      exact hns j hj e
    have hns' : ¬ ∃ j, j < n + 1 ∧ (if j = n then o else q j) = p := fun z => hn ((hse p).mp z)
    obtain ⟨⟨j, hj, e1⟩, e2, e3⟩ := s1 p a1 a2 (fun j hj z => hn (Or.inr ⟨j, hj, z⟩))
    rw [nv p a2 hn, g1 p a1 a2 hns']
    by_cases c : u (t o) + v p - a (t o) p < ov p
    · rw [(g2 p a1 a2).1 ⟨hns', c⟩, if_pos c, su o (Or.inl rfl)]
      refine ⟨⟨n, by omega, (if_pos rfl).symm⟩, by omega, ?_⟩
      intro k hk
      have hk' := (hse (if k = n then o else q k)).mp ⟨k, hk, rfl⟩
      have := hmin p a1 a2 hn _ hk'
      rw [if_pos c] at this
      have h8 := su _ hk'
      show u (t o) + v p - a (t o) p - w ≤ u' (t (if k = n then o else q k)) + v p - a (t (if k = n then o else q k)) p
      omega
    · rw [(g2 p a1 a2).2 (fun z => c z.2), if_neg c]
      refine ⟨⟨j, by omega, e1.trans (if_neg (by omega)).symm⟩, ?_, ?_⟩
      · rw [e1, su (q j) (Or.inr ⟨j, hj, rfl⟩)]; rw [e1] at e2; omega
      · intro k hk
        have hk' := (hse (if k = n then o else q k)).mp ⟨k, hk, rfl⟩
        have := hmin p a1 a2 hn _ hk'
        rw [if_neg c] at this
        have h8 := su _ hk'
        show ov p - w ≤ u' (t (if k = n then o else q k)) + v p - a (t (if k = n then o else q k)) p
        omega
  · intro j hj hjn
    have old : ∀ p, 1 ≤ p → p ≤ P → (p = o ∨ ∃ j, j < n ∧ q j = p) → bf' p = bf p := fun p a1 a2 hp => by
      exact (g2 p a1 a2).2 (fun z => z.1 ((hse p).mpr hp))
    by_cases c : j = n
    · simp only [c, if_true]
      rw [old o o1 o2 (Or.inl rfl)]
      obtain ⟨⟨k, hk, e1⟩, -, -⟩ := s1 o o1 o2 o3
      refine ⟨⟨k, by omega, by rw [if_neg (by omega)]; exact e1⟩, ?_⟩
      rw [e1, su (q k) (Or.inr ⟨k, hk, rfl⟩), sv o (Or.inl rfl)]
      rw [e1] at s3
      omega
    · simp only [c, if_false]
      have hj' : j < n := by omega
      obtain ⟨c1, c2, c3⟩ := q3 j hj'
      rw [old (q j) (c3 hj) c1 (Or.inr ⟨j, hj', rfl⟩)]
      obtain ⟨⟨k, hk, e1⟩, e2⟩ := s2 j hj hj'
      refine ⟨⟨k, hk, by rw [if_neg (by omega)]; exact e1⟩, ?_⟩
      rw [e1, su (q k) (Or.inr ⟨k, by omega, rfl⟩), sv (q j) (Or.inr ⟨j, hj', rfl⟩)]
      rw [e1] at e2
      omega
  · have hn : ¬ (o' = o ∨ ∃ j, j < n ∧ q j = o') := fun z => g6 ((hse o').mpr z)
    obtain ⟨⟨j, hj, e1⟩, e2, -⟩ := s1 o' g4 g5 (fun j hj z => hn (Or.inr ⟨j, hj, z⟩))
    rw [nv o' g5 hn]
    by_cases c : u (t o) + v o' - a (t o) o' < ov o'
    · rw [(g2 o' g4 g5).1 ⟨g6, c⟩, su o (Or.inl rfl)]; rw [if_pos c] at g7; omega
    · rw [(g2 o' g4 g5).2 (fun z => c z.2), e1, su (q j) (Or.inr ⟨j, hj, rfl⟩)]; rw [if_neg c] at g7; rw [e1] at e2; omega
  · have hq0 : (0 : Nat) = o ∨ ∃ j, j < n ∧ q j = 0 := Or.inr ⟨0, by omega, q2⟩
    have := su 0 hq0
    rw [h0] at this
    omega
/-- lines change places along the way back: z is the place that is left free, the j-th seen (o the n-th) -/
def BI (a : Nat → Nat → Int) (P i : Nat) (u v : Nat → Int) (t0 t : Nat → Nat) (q : Nat → Nat) (j : Nat) : Prop :=
  (∀ l, 1 ≤ l → l ≤ i + 1 → ∃ p, p ≤ P ∧ p ≠ q j ∧ t p = l) ∧
  (∀ p p', p ≤ P → p' ≤ P → p ≠ q j → p' ≠ q j → t p = t p' → t p ≠ 0 → p = p') ∧
  (∀ p, p ≤ P → p ≠ q j → t p ≤ i + 1) ∧
  (∀ p, 1 ≤ p → p ≤ P → p ≠ q j → t p ≠ 0 → u (t p) + v p = a (t p) p) ∧
  (∀ p, 1 ≤ p → p ≤ P → p ≠ q j → t p = 0 → v p = 0) ∧
  (∀ k, k < j → t (q k) = t0 (q k))
theorem SI_back {a : Nat → Nat → Int} {P i : Nat} {u v : Nat → Int} {t : Nat → Nat} {ov : Nat → Int} {bf : Nat → Nat} {q : Nat → Nat} {n o : Nat} (h : SI a P i u v t ov bf q n o) (ho : t o = 0) : BI a P i u v t t (fun j => if j = n then o else q j) n := by
  obtain ⟨⟨h0, h3, h1, h2⟩, h4, h5, h6, ⟨q1, q2, q3, q4⟩, ⟨o1, o2, o3⟩, s1, s2, s3, s4⟩ := h
  suffices H : ∀ q' : Nat → Nat, q' n = o → BI a P i u v t t q' n from H _ (if_pos rfl)
  intro q' eq'
  unfold BI
  rw [eq']
  refine ⟨?_, ?_, ?_, ?_, ?_, fun _ _ => rfl⟩
  · intro l a1 a2
    by_cases e : l = i + 1
    · exact ⟨0, by omega, by omega, by omega⟩
    · obtain ⟨p, b1, b2, b3⟩ := h1 l a1 (by omega)
      exact ⟨p, b2, fun z => by rw [z] at b3; omega, b3⟩
  · intro p p' a1 a2 _ _ a3 a4
    rcases Nat.eq_zero_or_pos p with e | e
    · rcases Nat.eq_zero_or_pos p' with e' | e'
      · omega
      · have := h3 p' e' a2; subst e; omega
    · rcases Nat.eq_zero_or_pos p' with e' | e'
      · have := h3 p e a1; subst e'; omega
      · exact h2 p p' e a1 e' a2 a3 a4
  · intro p a1 _
    rcases Nat.eq_zero_or_pos p with e | e
    · subst e; omega
    · have := h3 p e a1; omega
  · intro p a1 a2 _ a3; exact h4 p a1 a2 a3
  · intro p a1 a2 _ a3; exact (h6 p a1 a2).2 a3
theorem BI_next {a : Nat → Nat → Int} {P i : Nat} {u v : Nat → Int} {t0 t : Nat → Nat} {q : Nat → Nat} {j k : Nat} (h : BI a P i u v t0 t q j) (hk : k < j) (hP : q j ≤ P) (hkP : q k ≤ P) (h1 : 1 ≤ q j) (hne : ∀ k k', k < k' → k' ≤ j → q k ≠ q k') (ht : u (t0 (q k)) + v (q j) = a (t0 (q k)) (q j)) (h0 : t0 (q k) ≠ 0) :
    BI a P i u v t0 (fun p => if p = q j then t (q k) else t p) q k := by
  obtain ⟨b1, b2, b3, b4, b5, b6⟩ := h
  have hkj : q k ≠ q j := hne k j hk (Nat.le_refl _)
  have e0 := b6 k hk
  refine ⟨?_, ?_, ?_, ?_, ?_, ?_⟩
  · intro l a1 a2
    obtain ⟨p, c1, c2, c3⟩ := b1 l a1 a2
    by_cases e : p = q k
    · exact ⟨q j, hP, fun z => hkj z.symm, by dsimp only; rw [if_pos rfl, ← e]; exact c3⟩
    · exact ⟨p, c1, e, by dsimp only; rw [if_neg c2]; exact c3⟩
  · intro p p' a1 a2 a3 a4 a5 a6
    dsimp only at a5 a6
    by_cases e : p = q j
    · by_cases e' : p' = q j
      · omega
      · rw [if_pos e, if_neg e'] at a5
        rw [if_pos e] at a6
        have := b2 (q k) p' hkP a2 hkj e' a5 a6
        exact absurd this.symm a4
    · by_cases e' : p' = q j
      · rw [if_neg e, if_pos e'] at a5
        rw [if_neg e] at a6
        have := b2 p (q k) a1 hkP e hkj a5 a6
        exact absurd this a3
      · rw [if_neg e, if_neg e'] at a5
        rw [if_neg e] at a6
        exact b2 p p' a1 a2 e e' a5 a6
  · intro p a1 a2
    dsimp only
    by_cases e : p = q j
    · rw [if_pos e]; exact b3 (q k) hkP hkj
    · rw [if_neg e]; exact b3 p a1 e
  · intro p a1 a2 a3 a4
    dsimp only at a4 ⊢
    by_cases e : p = q j
    · rw [if_pos e, e0, e]; exact ht
    · rw [if_neg e] at a4 ⊢; exact b4 p a1 a2 e a4
  · intro p a1 a2 a3 a4
    dsimp only at a4
    by_cases e : p = q j
    · rw [if_pos e, e0] at a4; exact absurd a4 h0
    · rw [if_neg e] at a4; exact b5 p a1 a2 e a4
  · intro k' hk'
    dsimp only
    rw [if_neg (hne k' j (by omega) (Nat.le_refl _))]
    exact b6 k' (by omega)
/-- the way back ends at place 0 -/
theorem BI_end {a : Nat → Nat → Int} {P i : Nat} {u v : Nat → Int} {t0 t : Nat → Nat} {q : Nat → Nat} {j : Nat} (h : BI a P i u v t0 t q j) (h0 : q j = 0) (hf : ∀ l p, 1 ≤ l → l ≤ i + 1 → 1 ≤ p → p ≤ P → a l p ≤ u l + v p) (hv : ∀ p, 1 ≤ p → p ≤ P → 0 ≤ v p) : HI a P (i + 1) u v t := by
  obtain ⟨b1, b2, b3, b4, b5, -⟩ := h
  rw [h0] at b1 b2 b3 b4 b5
  refine ⟨?_, ?_, ?_, ?_, hf, ?_⟩
  · intro l a1 a2
    obtain ⟨p, c1, c2, c3⟩ := b1 l a1 a2
    exact ⟨p, by omega, c1, c3⟩
  · intro p q a1 a2 a3 a4 a5 a6; exact b2 p q a2 a4 (by omega) (by omega) a5 a6
  · intro p a1 a2; exact b3 p a2 (by omega)
  · intro p a1 a2 a3; exact b4 p a1 a2 (by omega) a3
  · intro p a1 a2; exact ⟨hv p a1 a2, fun z => b5 p a1 a2 (by omega) z⟩
