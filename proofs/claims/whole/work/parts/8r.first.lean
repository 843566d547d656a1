/-! the first of the best matches, and what is sure: pure -/
abbrev opt (a : Nat → Nat → Int) (L n b s l : Nat) : Prop := l < L ∧ ¬ s.testBit l = true ∧ a l b + mS a L n (n - (b + 1)) (s ||| 2 ^ l) = mS a L n (n - b) s
abbrev opN (a : Nat → Nat → Int) (L n b s : Nat) : Prop := mS a L n (n - (b + 1)) s = mS a L n (n - b) s
def isLow (q : Nat → Prop) (L x : Nat) : Prop := x ≤ L ∧ (x < L → q x) ∧ ∀ l, l < x → ¬ q l
def low (q : Nat → Prop) [DecidablePred q] : Nat → Nat
  | 0 => 0
  | L + 1 => if low q L < L then low q L else if q L then L else L + 1
theorem low_is (q : Nat → Prop) [DecidablePred q] : ∀ L, isLow q L (low q L) := by
  intro L
  induction L with
  | zero => exact ⟨Nat.le_refl _, fun h => absurd h (Nat.lt_irrefl _), fun l h => absurd h (Nat.not_lt_zero _)⟩
  | succ L ih =>
    obtain ⟨h1, h2, h3⟩ := ih
    rw [low]
    by_cases c : low q L < L
    · rw [if_pos c]
      exact ⟨by omega, fun _ => h2 c, h3⟩
    · rw [if_neg c]
      have e : low q L = L := by omega
      rw [e] at h3
      by_cases c2 : q L
      · rw [if_pos c2]
        exact ⟨by omega, fun _ => c2, h3⟩
      · rw [if_neg c2]
        refine ⟨Nat.le_refl _, fun h => absurd h (Nat.lt_irrefl _), fun l hl => ?_⟩
        by_cases e2 : l = L
        · rw [e2]; exact c2
        · exact h3 l (by omega)
theorem isLow_uniq {q : Nat → Prop} {L x y : Nat} (h : isLow q L x) (g : isLow q L y) : x = y := by
  rcases Nat.lt_trichotomy x y with c | c | c
  · exact absurd (h.2.1 (by have := g.1; omega)) (g.2.2 x c)
  · exact c
  · exact absurd (g.2.1 (by have := h.1; omega)) (h.2.2 y c)
theorem isLow_cg {q q' : Nat → Prop} {L x : Nat} (e : ∀ l, q l ↔ q' l) (h : isLow q L x) : isLow q' L x :=
  ⟨h.1, fun c => (e x).mp (h.2.1 c), fun l hl z => h.2.2 l hl ((e l).mpr z)⟩
def gvS (a : Nat → Nat → Int) (L n : Nat) : Nat → Nat
  | 0 => 0
  | b + 1 => if low (opt a L n b (gvS a L n b)) L < L then gvS a L n b ||| 2 ^ low (opt a L n b (gvS a L n b)) L else gvS a L n b
def its (a : Nat → Nat → Int) (L n b : Nat) : Nat := low (opt a L n b (gvS a L n b)) L
def rc (a : Nat → Nat → Int) (L n : Nat) : Nat → Nat → Prop
  | 0, s => s = 0
  | b + 1, s' => (rc a L n b s' ∧ opN a L n b s') ∨ ∃ s l, rc a L n b s ∧ opt a L n b s l ∧ s' = s ||| 2 ^ l
def sureP (a : Nat → Nat → Int) (L n b : Nat) : Prop := ∀ s, rc a L n b s → (∀ l, opt a L n b s l → l = its a L n b) ∧ (opN a L n b s → its a L n b = L)
theorem its_is (a : Nat → Nat → Int) (L n b : Nat) : isLow (opt a L n b (gvS a L n b)) L (its a L n b) := low_is _ L
theorem gvS_next (a : Nat → Nat → Int) (L n b : Nat) : gvS a L n (b + 1) = if its a L n b < L then gvS a L n b ||| 2 ^ its a L n b else gvS a L n b := rfl
section
variable {a : Nat → Nat → Int} {u v : Nat → Int} {L n : Nat}
theorem opt_some {b : Nat} (s : Nat) (hb : b < n) : opN a L n b s ∨ ∃ l, opt a L n b s l := by
  have h := mS_some a L n (n - (b + 1)) s
  rw [show n - (b + 1) + 1 = n - b by omega, show n - (n - b) = b by omega] at h
  rcases h with h | ⟨l, h1, h2, h3⟩
  · exact Or.inl h.symm
  · exact Or.inr ⟨l, h1, h2, h3.symm⟩
theorem rc_gv : ∀ b, b ≤ n → rc a L n b (gvS a L n b) := by
  intro b
  induction b with
  | zero => intro _; rfl
  | succ b ih =>
    intro hb
    have i1 := ih (by omega)
    obtain ⟨l1, l2, l3⟩ := its_is a L n b
    rw [gvS_next]
    by_cases c : its a L n b < L
    · rw [if_pos c]
      exact Or.inr ⟨_, _, i1, l2 c, rfl⟩
    · rw [if_neg c]
      refine Or.inl ⟨i1, ?_⟩
      rcases opt_some (a := a) (L := L) (gvS a L n b) (show b < n by omega) with h | ⟨l, hl⟩
      · exact h
      · exact absurd hl (l3 l (by have := hl.1; omega))
theorem rc_good (h : dualOk a u v L n) (hg : goodAt a u v L n n 0) : ∀ b s, b ≤ n → rc a L n b s → goodAt a u v L n (n - b) s := by
  intro b
  induction b with
  | zero => intro s _ hs; rw [show s = 0 from hs]; exact hg
  | succ b ih =>
    intro s' hb hs
    have e1 : n - (b + 1) + 1 = n - b := by omega
    have e2 : n - (n - b) = b := by omega
    rcases hs with ⟨h1, h2⟩ | ⟨s, l, h1, ⟨h2, h3, h4⟩, h5⟩
    · have := ih s' (by omega) h1
      rw [← e1] at this
      exact good_none h (by omega) this (by rw [e1]; exact h2)
    · have := ih s (by omega) h1
      rw [← e1] at this
      rw [h5]
      exact (good_line h (by omega) this h2 h3 (by rw [e1, e2]; exact h4)).2
theorem rc_opt (h : dualOk a u v L n) (hg : goodAt a u v L n n 0) {b s l : Nat} (hb : b < n) (hs : rc a L n b s) (ho : opt a L n b s l) : a l b = u l + v b := by
  have e1 : n - (b + 1) + 1 = n - b := by omega
  have e2 : n - (n - b) = b := by omega
  have := rc_good h hg b s (by omega) hs
  rw [← e1] at this
  have := (good_line h (by omega) this ho.1 ho.2.1 (by rw [e1, e2]; exact ho.2.2)).1
  rw [e1, e2] at this
  exact this
theorem rc_lev (h : dualOk a u v L n) (hg : goodAt a u v L n n 0) {b s : Nat} (hb : b ≤ n) (hs : rc a L n b s) : lev a u v L n b s := by
  have := good_lev h (by omega) (rc_good h hg b s hb hs)
  rw [show n - (n - b) = b by omega] at this
  exact this
end
/-! numbers below nothing never count -/
section
variable {a a' : Nat → Nat → Int} {L n : Nat}
theorem or_comm3 (s x y : Nat) : s ||| x ||| y = s ||| y ||| x := by rw [Nat.or_assoc, Nat.or_comm x y, ← Nat.or_assoc]
theorem mS_mono (a : Nat → Nat → Int) (L n : Nat) : ∀ k s l, mS a L n k (s ||| 2 ^ l) ≤ mS a L n k s := by
  intro k
  induction k with
  | zero => intro s l; exact Int.le_refl _
  | succ k ih =>
    intro s l
    rcases mS_some a L n k (s ||| 2 ^ l) with e | ⟨j, hj, hs, e⟩
    · rw [e]; exact Int.le_trans (ih s l) (mS_none a L n k s)
    · have hs2 : ¬ s.testBit j = true := fun z => hs (by rw [Nat.testBit_or, z]; rfl)
      have h1 := mS_line a L n k s j hj hs2
      have h2 := ih (s ||| 2 ^ j) l
      rw [or_comm3] at h2
      omega
theorem mS_neg {k s l b : Nat} (hn : a l b < 0) : ¬ a l b + mS a L n k (s ||| 2 ^ l) = mS a L n (k + 1) s := by
  have h1 := mS_mono a L n k s l
  have h2 := mS_none a L n k s
  omega
theorem mS_cg (h : ∀ l b, l < L → b < n → a l b = a' l b ∨ (a l b < 0 ∧ a' l b < 0)) : ∀ k s, k ≤ n → mS a L n k s = mS a' L n k s := by
  have one : ∀ (a a' : Nat → Nat → Int), (∀ l b, l < L → b < n → a l b = a' l b ∨ (a l b < 0 ∧ a' l b < 0)) → ∀ k, k + 1 ≤ n → (∀ s, mS a L n k s = mS a' L n k s) → ∀ s, mS a L n (k + 1) s ≤ mS a' L n (k + 1) s := by
    intro a a' h k hk ih s
    rcases mS_some a L n k s with e | ⟨l, hl, hs, e⟩
    · rw [e, ih]; exact mS_none a' L n k s
    · rcases h l (n - (k + 1)) hl (by omega) with g | ⟨g, -⟩
      · rw [e, g, ih]; exact mS_line a' L n k s l hl hs
      · exact absurd e.symm (mS_neg g)
  intro k
  induction k with
  | zero => intro s _; rfl
  | succ k ih =>
    intro s hk
    exact Int.le_antisymm (one a a' h k hk (fun s => ih s (by omega)) s) (one a' a (fun l b hl hb => (h l b hl hb).imp (fun e => e.symm) (fun e => ⟨e.2, e.1⟩)) k hk (fun s => (ih s (by omega)).symm) s)
theorem opt_cg (h : ∀ l b, l < L → b < n → a l b = a' l b ∨ (a l b < 0 ∧ a' l b < 0)) {b s l : Nat} (hb : b < n) : opt a L n b s l ↔ opt a' L n b s l := by
  have e1 : n - b = n - (b + 1) + 1 := by omega
  unfold opt
  constructor
  · rintro ⟨h1, h2, h3⟩
    rcases h l b h1 hb with g | ⟨g, -⟩
    · exact ⟨h1, h2, by rw [← g, ← mS_cg h _ _ (by omega), ← mS_cg h _ _ (by omega)]; exact h3⟩
    · rw [e1] at h3; exact absurd h3 (mS_neg g)
  · rintro ⟨h1, h2, h3⟩
    rcases h l b h1 hb with g | ⟨-, g⟩
    · exact ⟨h1, h2, by rw [g, mS_cg h _ _ (by omega), mS_cg h _ _ (by omega)]; exact h3⟩
    · rw [e1] at h3; exact absurd h3 (mS_neg g)
theorem opN_cg (h : ∀ l b, l < L → b < n → a l b = a' l b ∨ (a l b < 0 ∧ a' l b < 0)) {b s : Nat} : opN a L n b s ↔ opN a' L n b s := by
  unfold opN
  rw [mS_cg h _ _ (by omega), mS_cg h _ _ (by omega)]
theorem gvS_cg (h : ∀ l b, l < L → b < n → a l b = a' l b ∨ (a l b < 0 ∧ a' l b < 0)) : ∀ b, b ≤ n → gvS a L n b = gvS a' L n b ∧ (b < n → its a L n b = its a' L n b) := by
  have go : ∀ b, gvS a L n b = gvS a' L n b → b < n → its a L n b = its a' L n b := by
    intro b e hb
    have h1 := its_is a L n b
    have h2 := its_is a' L n b
    rw [e] at h1
    exact isLow_uniq (isLow_cg (fun l => opt_cg h hb) h1) h2
  intro b
  induction b with
  | zero => intro _; exact ⟨rfl, go 0 rfl⟩
  | succ b ih =>
    intro hb
    obtain ⟨i1, i2⟩ := ih (by omega)
    have e : gvS a L n (b + 1) = gvS a' L n (b + 1) := by rw [gvS_next, gvS_next, i1, i2 (by omega)]
    exact ⟨e, go (b + 1) e⟩
theorem rc_cg (h : ∀ l b, l < L → b < n → a l b = a' l b ∨ (a l b < 0 ∧ a' l b < 0)) : ∀ b s, b ≤ n → (rc a L n b s ↔ rc a' L n b s) := by
  intro b
  induction b with
  | zero => intro s _; exact Iff.rfl
  | succ b ih =>
    intro s' hb
    unfold rc
    constructor
    · rintro (⟨h1, h2⟩ | ⟨s, l, h1, h2, h3⟩)
      · exact Or.inl ⟨(ih s' (by omega)).mp h1, (opN_cg h).mp h2⟩
      · exact Or.inr ⟨s, l, (ih s (by omega)).mp h1, (opt_cg h (by omega)).mp h2, h3⟩
    · rintro (⟨h1, h2⟩ | ⟨s, l, h1, h2, h3⟩)
      · exact Or.inl ⟨(ih s' (by omega)).mpr h1, (opN_cg h).mpr h2⟩
      · exact Or.inr ⟨s, l, (ih s (by omega)).mpr h1, (opt_cg h (by omega)).mpr h2, h3⟩
theorem sureP_cg (h : ∀ l b, l < L → b < n → a l b = a' l b ∨ (a l b < 0 ∧ a' l b < 0)) {b : Nat} (hb : b < n) : sureP a L n b ↔ sureP a' L n b := by
  unfold sureP
  rw [(gvS_cg h b (by omega)).2 hb]
  constructor
  · intro g s hs
    obtain ⟨g1, g2⟩ := g s ((rc_cg h b s (by omega)).mpr hs)
    exact ⟨fun l hl => g1 l ((opt_cg h hb).mpr hl), fun z => g2 ((opN_cg h).mpr z)⟩
  · intro g s hs
    obtain ⟨g1, g2⟩ := g s ((rc_cg h b s (by omega)).mp hs)
    exact ⟨fun l hl => g1 l ((opt_cg h hb).mp hl), fun z => g2 ((opN_cg h).mp z)⟩
theorem mW_cg (h : ∀ l b, l < L → b < n → a l b = a' l b ∨ (a l b < 0 ∧ a' l b < 0)) : ∀ k s, k ≤ n → mW a L n k s = mW a' L n k s := by
  intro k
  induction k with
  | zero => intro s _; rfl
  | succ k ih =>
    intro s hk
    rw [mW, mW, mS_cg h k s (by omega), mS_cg h (k + 1) s hk, ih s (by omega)]
    congr 2
    refine tS_congr _ _ _ _ L (fun l hl => ?_) (fun l hl _ => ih _ (by omega))
    have g := opt_cg h (b := n - (k + 1)) (s := s) (l := l) (by omega)
    unfold opt at g
    rw [show n - (n - (k + 1) + 1) = k by omega, show n - (n - (k + 1)) = k + 1 by omega, mS_cg h (k + 1) s hk] at g
    constructor
    · rintro ⟨g1, g2⟩; exact (g.mp ⟨hl, g1, g2⟩).2
    · rintro ⟨g1, g2⟩; exact (g.mpr ⟨hl, g1, g2⟩).2
end
/-! one bit -/
theorem pcw_none : ∀ w x, pcw w x = 0 ↔ ∀ l, l < w → ¬ x.testBit l = true := by
  intro w
  induction w with
  | zero => intro x; exact ⟨fun _ l h => absurd h (Nat.not_lt_zero _), fun _ => rfl⟩
  | succ w ih =>
    intro x
    rw [pcw]
    constructor
    · intro h l hl
      have h1 := (ih (x / 2)).mp (by omega)
      cases l with
      | zero => rw [Nat.testBit_zero]; simp only [decide_eq_true_eq]; omega
      | succ l => rw [Nat.testBit_succ]; exact h1 l (by omega)
    · intro h
      have h0 := h 0 (by omega)
      rw [Nat.testBit_zero] at h0
      simp only [decide_eq_true_eq] at h0
      have h1 := (ih (x / 2)).mpr (fun l hl z => h (l + 1) (by omega) (by rw [Nat.testBit_succ]; exact z))
      omega
theorem pcw_one : ∀ w x l0, l0 < w → x.testBit l0 = true → (pcw w x = 1 ↔ ∀ l, l < w → x.testBit l = true → l = l0) := by
  intro w
  induction w with
  | zero => intro x l0 h; omega
  | succ w ih =>
    intro x l0 h hb
    rw [pcw]
    cases l0 with
    | zero =>
      rw [Nat.testBit_zero] at hb
      simp only [decide_eq_true_eq] at hb
      have e : pcw w (x / 2) + x % 2 = 1 ↔ pcw w (x / 2) = 0 := by omega
      rw [e, pcw_none]
      constructor
      · intro g l hl z
        cases l with
        | zero => rfl
        | succ l => rw [Nat.testBit_succ] at z; exact absurd z (g l (by omega))
      · intro g l hl z
        have := g (l + 1) (by omega) (by rw [Nat.testBit_succ]; exact z)
        omega
    | succ l0 =>
      rw [Nat.testBit_succ] at hb
      have i1 := ih (x / 2) l0 (by omega) hb
      have nz : ¬ pcw w (x / 2) = 0 := fun z => (pcw_none w (x / 2)).mp z l0 (by omega) hb
      constructor
      · intro g l hl z
        have g1 := i1.mp (by omega)
        cases l with
        | zero =>
          rw [Nat.testBit_zero] at z
          simp only [decide_eq_true_eq] at z
          omega
        | succ l => rw [Nat.testBit_succ] at z; rw [g1 l (by omega) z]
      · intro g
        have g1 := i1.mpr (fun l hl z => by
          have := g (l + 1) (by omega) (by rw [Nat.testBit_succ]; exact z)
          omega)
        have g0 : ¬ x % 2 = 1 := by
          intro z
          have := g 0 (by omega) (by rw [Nat.testBit_zero]; simp only [decide_eq_true_eq]; exact z)
          omega
        omega
/-- the class's way to say that a book is sure -/
theorem sure_one {a : Nat → Nat → Int} {L n b tk : Nat} (hL : L ≤ 12) (hb : b < n) (ht : ∀ l, tk.testBit l = true ↔ (l < L ∧ ∃ s, rc a L n b s ∧ opt a L n b s l) ∨ (l = 12 ∧ ∃ s, rc a L n b s ∧ opN a L n b s)) : pcw 13 tk = 1 ↔ sureP a L n b := by
  obtain ⟨l1, l2, l3⟩ := its_is a L n b
  have rg := rc_gv (a := a) (L := L) (n := n) b (by omega)
  have key : ∀ l0, l0 = (if its a L n b < L then its a L n b else 12) → l0 < 13 ∧ tk.testBit l0 = true := by
    intro l0 e
    by_cases c : its a L n b < L
    · rw [if_pos c] at e
      rw [e]
      exact ⟨by omega, (ht _).mpr (Or.inl ⟨c, _, rg, l2 c⟩)⟩
    · rw [if_neg c] at e
      rw [e]
      refine ⟨by omega, (ht _).mpr (Or.inr ⟨rfl, _, rg, ?_⟩)⟩
      rcases opt_some (a := a) (L := L) (gvS a L n b) hb with h | ⟨l, hl⟩
      · exact h
      · exact absurd hl (l3 l (by have := hl.1; omega))
  obtain ⟨k1, k2⟩ := key _ rfl
  rw [pcw_one 13 tk _ k1 k2]
  unfold sureP
  constructor
  · intro g s hs
    constructor
    · intro l hl
      have := g l (by have := hl.1; omega) ((ht l).mpr (Or.inl ⟨hl.1, s, hs, hl⟩))
      have hl1 := hl.1
      split at this
      · exact this
      · omega
    · intro hN
      have := g 12 (by omega) ((ht 12).mpr (Or.inr ⟨rfl, s, hs, hN⟩))
      split at this
      · omega
      · omega
  · intro g l hl z
    rcases (ht l).mp z with ⟨h1, s, hs, ho⟩ | ⟨h1, s, hs, ho⟩
    · have := (g s hs).1 l ho
      rw [← this, if_pos h1]
    · have := (g s hs).2 ho
      rw [this, if_neg (by omega)]; exact h1
/-! parts downwards -/
theorem dep_and (w O j : Nat) (h : O < 2 ^ w) : dep w O j &&& O = dep w O j := by
  rw [Nat.and_comm, and_sub]
  exact fun l hl => dep_bit h hl
theorem dep_prev : ∀ w O j, O < 2 ^ w → j + 1 < 2 ^ pcw w O → (dep w O (j + 1) - 1) &&& O = dep w O j := by
  intro w
  induction w with
  | zero => intro O j h h2; have : (2 : Nat) ^ pcw 0 O = 1 := rfl
            omega
  | succ w ih =>
    intro O j h h2
    have e2 : 2 ^ (w + 1) = 2 * 2 ^ w := by rw [Nat.pow_succ, Nat.mul_comm]
    have hO : O / 2 < 2 ^ w := by omega
    rw [pcw] at h2
    rw [dep, dep]
    by_cases c : O % 2 = 1
    · rw [if_pos c, if_pos c]
      rw [c, Nat.pow_succ] at h2
      have eO : O = 2 * (O / 2) + 1 := by omega
      by_cases cj : j % 2 = 0
      · have ej : (j + 1) / 2 = j / 2 := by omega
        have ej2 : (j + 1) % 2 = 1 := by omega
        have i1 := dep_and w (O / 2) (j / 2) hO
        have a2 := and_2 (dep w (O / 2) (j / 2)) (O / 2) 0 1 (by omega) (by omega)
        rw [i1, ← eO, Nat.zero_mul] at a2
        rw [ej, ej2, cj]
        rw [show 2 * dep w (O / 2) (j / 2) + 1 - 1 = 2 * dep w (O / 2) (j / 2) + 0 by omega]
        exact a2
      · have ej : (j + 1) / 2 = j / 2 + 1 := by omega
        have ej2 : (j + 1) % 2 = 0 := by omega
        have ej3 : j % 2 = 1 := by omega
        have i1 := ih (O / 2) (j / 2) hO (by omega)
        have i2 := dep_lt w (O / 2) (j / 2) (j / 2 + 1) (by omega) (by omega)
        have a2 := and_2 (dep w (O / 2) (j / 2 + 1) - 1) (O / 2) 1 1 (by omega) (by omega)
        rw [i1, ← eO, Nat.mul_one] at a2
        rw [ej, ej2, ej3]
        rw [show 2 * dep w (O / 2) (j / 2 + 1) + 0 - 1 = 2 * (dep w (O / 2) (j / 2 + 1) - 1) + 1 by omega]
        exact a2
    · rw [if_neg c, if_neg c]
      have c0 : O % 2 = 0 := by omega
      rw [c0, Nat.add_zero] at h2
      have eO : O = 2 * (O / 2) + 0 := by omega
      have i1 := ih (O / 2) j hO h2
      have i2 := dep_lt w (O / 2) j (j + 1) (by omega) h2
      have a2 := and_2 (dep w (O / 2) (j + 1) - 1) (O / 2) 1 0 (by omega) (by omega)
      rw [i1, ← eO, Nat.mul_zero, Nat.add_zero] at a2
      rw [show 2 * dep w (O / 2) (j + 1) - 1 = 2 * (dep w (O / 2) (j + 1) - 1) + 1 by omega]
      exact a2
theorem dep_top (w O : Nat) (h : O < 2 ^ w) : dep w O (2 ^ pcw w O - 1) = O := by
  obtain ⟨j, hj, e⟩ := dep_sur w O O h (Nat.and_self O)
  by_cases c : j < 2 ^ pcw w O - 1
  · have := dep_lt w O j (2 ^ pcw w O - 1) c (by omega)
    have := dep_le w O (2 ^ pcw w O - 1) h
    omega
  · rw [show 2 ^ pcw w O - 1 = j by omega]; exact e
theorem n3_prev {O j : Nat} (hO : O < 4096) (hj : j + 1 < 2 ^ pcw 13 O) : (n3 (dep 32 O (j + 1)) - n3 1) &&& n3 O = n3 (dep 32 O j) := by
  have e1 : pcw 32 O = pcw 13 O := pcw_more 13 19 O (by omega)
  have h1 := dep_prev 32 O j (by omega) (by rw [e1]; exact hj)
  have h2 := dep_lt 32 O j (j + 1) (by omega) (by rw [e1]; exact hj)
  rw [n3_sub (by omega), n3_and, h1]
