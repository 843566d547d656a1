/-! best: pure -/
theorem cnt_cg0 {P Q : Nat → Prop} [DecidablePred P] [DecidablePred Q] : ∀ n, (∀ i, i < n → (P i ↔ Q i)) → cnt P n = cnt Q n := by
  intro n
  induction n with
  | zero => intro _; rfl
  | succ n ih =>
    intro h
    rw [cnt, cnt, ih (fun i hi => h i (by omega))]
    congr 1
    by_cases c : P n
    · rw [if_pos c, if_pos ((h n (by omega)).mp c)]
    · rw [if_neg c, if_neg (fun z => c ((h n (by omega)).mpr z))]
theorem cnt_up {P Q : Nat → Prop} [DecidablePred P] [DecidablePred Q] : ∀ n s, s < n → (∀ i, i < n → i ≠ s → (P i ↔ Q i)) → ¬ P s → Q s → cnt Q n = cnt P n + 1 := by
  intro n
  induction n with
  | zero => intro s h; omega
  | succ n ih =>
    intro s hs h h1 h2
    rw [cnt, cnt]
    by_cases e : s = n
    · subst e
      rw [if_pos h2, if_neg h1, cnt_cg0 s (fun i hi => (h i (by omega) (by omega)).symm)]
    · rw [ih s (by omega) (fun i hi hn => h i (by omega) hn) h1 h2]
      have := h n (by omega) (fun z => e z.symm)
      by_cases c : P n
      · rw [if_pos c, if_pos (this.mp c)]
      · rw [if_neg c, if_neg (fun z => c (this.mpr z))]
theorem cnt_pos {P : Nat → Prop} [DecidablePred P] : ∀ n, 0 < cnt P n ↔ ∃ b, b < n ∧ P b := by
  intro n
  induction n with
  | zero => exact ⟨fun h => absurd h (Nat.lt_irrefl _), fun ⟨b, h, _⟩ => absurd h (Nat.not_lt_zero _)⟩
  | succ n ih =>
    rw [cnt]
    by_cases c : P n
    · rw [if_pos c]
      exact ⟨fun _ => ⟨n, by omega, c⟩, fun _ => by omega⟩
    · rw [if_neg c, Nat.add_zero, ih]
      constructor
      · rintro ⟨b, h1, h2⟩; exact ⟨b, by omega, h2⟩
      · rintro ⟨b, h1, h2⟩
        refine ⟨b, ?_, h2⟩
        by_cases e : b = n
        · rw [e] at h2; exact absurd h2 c
        · omega
theorem cnt_zero {P : Nat → Prop} [DecidablePred P] (n : Nat) (h : ∀ b, b < n → ¬ P b) : cnt P n = 0 := by
  rcases Nat.eq_zero_or_pos (cnt P n) with e | e
  · exact e
  · obtain ⟨b, h1, h2⟩ := (cnt_pos n).mp e
    exact absurd h2 (h b h1)
/-- how many books are on a seat -/
def hc (g : Nat → Option Nat) (n s : Nat) : Nat := cnt (fun b => g b = some s) n
def occ (h : Nat → Nat) : Nat := cnt (fun s => 0 < h s) 5346
theorem hc_le (g : Nat → Option Nat) (n s : Nat) : hc g n s ≤ n := cnt_le _ n
theorem occ_cg {h h' : Nat → Nat} (e : ∀ s, s < 5346 → h s = h' s) : occ h = occ h' := cnt_cg0 5346 (fun s hs => by rw [e s hs])
theorem occ_le (h : Nat → Nat) : occ h ≤ 5346 := cnt_le _ _
/-- those that are first on their seats are as many as the seats -/
theorem occ_first {g : Nat → Option Nat} (hs : ∀ b s, g b = some s → s < 5346) {P : Nat → Prop} [DecidablePred P] (hP : ∀ b, P b ↔ ∃ s, g b = some s ∧ ¬ ∃ b', b' < b ∧ g b' = some s) : ∀ n, cnt P n = occ (hc g n) := by
  intro n
  induction n with
  | zero => exact (cnt_zero 5346 (fun s _ h => absurd h (Nat.lt_irrefl _))).symm
  | succ n ih =>
    rw [cnt, ih]
    have st : ∀ s, hc g (n + 1) s = hc g n s + if g n = some s then 1 else 0 := fun s => rfl
    by_cases c : P n
    · obtain ⟨s, h1, h2⟩ := (hP n).mp c
      rw [if_pos c]
      refine (cnt_up 5346 s (hs n s h1) (fun i _ hi => ?_) ?_ ?_).symm
      · rw [st i, if_neg (fun z => hi (by rw [h1] at z; exact (Option.some.inj z).symm)), Nat.add_zero]
      · intro z
        obtain ⟨b, z1, z2⟩ := (cnt_pos n).mp z
        exact h2 ⟨b, z1, z2⟩
      · rw [st s, if_pos h1]; omega
    · rw [if_neg c, Nat.add_zero]
      refine cnt_cg0 5346 (fun s _ => ?_)
      rw [st s]
      by_cases e : g n = some s
      · rw [if_pos e]
        refine ⟨fun _ => by omega, fun _ => ?_⟩
        have : ¬ ¬ ∃ b', b' < n ∧ g b' = some s := fun z => c ((hP n).mpr ⟨s, e, z⟩)
        exact (cnt_pos n).mpr (Classical.not_not.mp this)
      · rw [if_neg e, Nat.add_zero]
/-! one enters, one leaves -/
def enH (o : Option Nat) (h : Nat → Nat) (s : Nat) : Nat := if o = some s then h s + 1 else h s
def enR (o : Option Nat) (h : Nat → Nat) : Nat := match o with
  | none => 0
  | some s => if h s = 0 then 1 else 0
def lvH (o : Option Nat) (h : Nat → Nat) (s : Nat) : Nat := if o = some s then h s - 1 else h s
def lvR (o : Option Nat) (h : Nat → Nat) : Nat := match o with
  | none => 0
  | some s => if h s = 1 then 1 else 0
theorem en_occ {o : Option Nat} {h : Nat → Nat} (hs : ∀ s, o = some s → s < 5346) : occ (enH o h) = occ h + enR o h := by
  cases o with
  | none =>
    have e : enR none h = 0 := rfl
    rw [e, Nat.add_zero]
    exact occ_cg (fun s _ => by unfold enH; rw [if_neg (by intro z; cases z)])
  | some s =>
    have e1 : enH (some s) h s = h s + 1 := if_pos rfl
    have e2 : ∀ i, i ≠ s → enH (some s) h i = h i := fun i hi => if_neg (fun z => hi (Option.some.inj z).symm)
    unfold enR
    dsimp only
    by_cases c : h s = 0
    · rw [if_pos c]
      exact cnt_up 5346 s (hs s rfl) (fun i _ hi => by rw [e2 i hi]) (by omega) (by omega)
    · rw [if_neg c, Nat.add_zero]
      refine cnt_cg0 5346 (fun i _ => ?_)
      by_cases e : i = s
      · rw [e, e1]; omega
      · rw [e2 i e]
theorem lv_occ {o : Option Nat} {h : Nat → Nat} (hs : ∀ s, o = some s → s < 5346) (h1 : ∀ s, o = some s → 1 ≤ h s) : occ h = occ (lvH o h) + lvR o h := by
  cases o with
  | none =>
    have e : lvR none h = 0 := rfl
    rw [e, Nat.add_zero]
    exact occ_cg (fun s _ => by unfold lvH; rw [if_neg (by intro z; cases z)])
  | some s =>
    have e1 : lvH (some s) h s = h s - 1 := if_pos rfl
    have e2 : ∀ i, i ≠ s → lvH (some s) h i = h i := fun i hi => if_neg (fun z => hi (Option.some.inj z).symm)
    have h1' := h1 s rfl
    unfold lvR
    dsimp only
    by_cases c : h s = 1
    · rw [if_pos c]
      exact cnt_up 5346 s (hs s rfl) (fun i _ hi => by rw [e2 i hi]) (by omega) (by omega)
    · rw [if_neg c, Nat.add_zero]
      refine cnt_cg0 5346 (fun i _ => ?_)
      by_cases e : i = s
      · rw [e, e1]; omega
      · rw [e2 i e]
def hx (g : Nat → Option Nat) (n b0 s : Nat) : Nat := cnt (fun b => b ≠ b0 ∧ g b = some s) n
theorem hc_split (g : Nat → Option Nat) {n b0 : Nat} (h : b0 < n) (s : Nat) : hc g n s = hx g n b0 s + if g b0 = some s then 1 else 0 := by
  by_cases c : g b0 = some s
  · rw [if_pos c]
    exact cnt_up n b0 h (fun i _ hi => ⟨fun z => z.2, fun z => ⟨hi, z⟩⟩) (fun z => z.1 rfl) c
  · rw [if_neg c, Nat.add_zero]
    exact cnt_cg0 n (fun i _ => ⟨fun z => ⟨fun e => by rw [e] at z; exact c z, z⟩, fun z => z.2⟩)
theorem hx_cg {g g' : Nat → Option Nat} {n b0 : Nat} (h : ∀ b, b < n → b ≠ b0 → g b = g' b) (s : Nat) : hx g n b0 s = hx g' n b0 s :=
  cnt_cg0 n (fun i hi => ⟨fun z => ⟨z.1, by rw [← h i hi z.1]; exact z.2⟩, fun z => ⟨z.1, by rw [h i hi z.1]; exact z.2⟩⟩)
theorem hc_cg {g g' : Nat → Option Nat} {n : Nat} (h : ∀ b, b < n → g b = g' b) (s : Nat) : hc g n s = hc g' n s := cnt_cg0 n (fun i hi => by rw [h i hi])
theorem hc_move {g g' : Nat → Option Nat} {n b0 : Nat} (h : b0 < n) (e : ∀ b, b < n → b ≠ b0 → g b = g' b) (s : Nat) : enH (g' b0) (lvH (g b0) (hc g n)) s = hc g' n s := by
  have h1 := hc_split g h s
  have h2 := hc_split g' h s
  have h3 := hx_cg e s
  unfold enH lvH
  by_cases c1 : g b0 = some s
  · rw [if_pos c1] at h1
    by_cases c2 : g' b0 = some s
    · rw [if_pos c2] at h2; rw [if_pos c2, if_pos c1]; omega
    · rw [if_neg c2] at h2; rw [if_neg c2, if_pos c1]; omega
  · rw [if_neg c1] at h1
    by_cases c2 : g' b0 = some s
    · rw [if_pos c2] at h2; rw [if_pos c2, if_neg c1]; omega
    · rw [if_neg c2] at h2; rw [if_neg c2, if_neg c1]; omega
/-! the best, as years go on -/
abbrev bsT : Type := Option (Nat × Nat × Nat × Nat × Nat)
def stB (a b y n : Nat) (o : bsT) : bsT := match o with
  | none => some (n, a, b, y, 1)
  | some (m, f, s, yr, k) => if n ≤ m then (if n = m then some (m, f, s, yr, k + 1) else some (m, f, s, yr, k)) else some (n, a, b, y, 1)
def stD (a b y d n : Nat) (o : bsT) : bsT := match o with
  | none => some (n, a, b, y, d)
  | some (m, f, s, yr, k) => if n ≤ m then (if n = m then some (m, f, s, yr, k + d) else some (m, f, s, yr, k)) else some (n, a, b, y, d)
theorem stD_1 (a b y n : Nat) (o : bsT) : stB a b y n o = stD a b y 1 n o := rfl
theorem stD_next (a b y d y' n : Nat) (o : bsT) : stB a b y' n (stD a b y d n o) = stD a b y (d + 1) n o := by
  cases o with
  | none => show (if n ≤ n then _ else _) = _; rw [if_pos (Nat.le_refl _), if_pos rfl]; rfl
  | some t =>
    obtain ⟨m, f, s, yr, k⟩ := t
    unfold stD
    dsimp only
    by_cases c : n ≤ m
    · rw [if_pos c, if_pos c]
      by_cases c2 : n = m
      · rw [if_pos c2, if_pos c2]
        show (if n ≤ m then _ else _) = _
        rw [if_pos c, if_pos c2]; rfl
      · rw [if_neg c2, if_neg c2]
        show (if n ≤ m then _ else _) = _
        rw [if_pos c, if_neg c2]
    · rw [if_neg c, if_neg c]
      show (if n ≤ n then _ else _) = _
      rw [if_pos (Nat.le_refl _), if_pos rfl]
theorem stD_fo (a b n : Nat) (f : Nat → Nat) (y : Nat) (o : bsT) : ∀ d, (∀ j, y ≤ j → j < y + (d + 1) → f j = n) → fo (fun y => stB a b y (f y)) y (d + 1) o = stD a b y (d + 1) n o := by
  intro d
  induction d with
  | zero => intro h; show stB a b y (f y) o = _; rw [h y (by omega) (by omega)]; rfl
  | succ d ih =>
    intro h
    rw [fo_last, ih (fun j h1 h2 => h j h1 (by omega)), h (y + (d + 1)) (by omega) (by omega), stD_next]
/-- how many stand, by the seats that are right -/
def nst (R : Nat → Nat → Option Nat) (c : Nat → Nat) (n a b y : Nat) : Nat := occ (hc (fun x => R (if c x < y then a else b) x) n)
def pairF (R : Nat → Nat → Option Nat) (c : Nat → Nat) (n a b : Nat) (o : bsT) : bsT := fo (fun y => stB a b y (nst R c n a b y)) 0 201 o
def rowF (R : Nat → Nat → Option Nat) (c : Nat → Nat) (n nT a : Nat) (o : bsT) : bsT := fo (pairF R c n a) 0 nT o
theorem rowF_eq (R : Nat → Nat → Option Nat) (c : Nat → Nat) (n nT a : Nat) (o : bsT) : rowF R c n nT a o = fo (pairF R c n a) 0 nT o := rfl
def bestF (R : Nat → Nat → Option Nat) (c : Nat → Nat) (n nT : Nat) : bsT := fo (rowF R c n nT) 0 nT none
def oOk (o : bsT) : Prop := ∀ m t, o = some (m, t) → m ≤ 5346
theorem stB_ok {a b y n : Nat} {o : bsT} (hn : n ≤ 5346) (h : oOk o) : oOk (stB a b y n o) := by
  intro m t e
  cases o with
  | none => have : (n, a, b, y, 1) = (m, t) := Option.some.inj e
            have := congrArg Prod.fst this
            dsimp only at this; omega
  | some q =>
    obtain ⟨m', f, s, yr, k⟩ := q
    have h' := h m' (f, s, yr, k) rfl
    unfold stB at e
    dsimp only at e
    split at e
    · split at e
      · have := congrArg Prod.fst (Option.some.inj e); dsimp only at this; omega
      · have := congrArg Prod.fst (Option.some.inj e); dsimp only at this; omega
    · have := congrArg Prod.fst (Option.some.inj e); dsimp only at this; omega
theorem stD_ok {a b y n : Nat} {o : bsT} (hn : n ≤ 5346) (h : oOk o) : ∀ d, oOk (stD a b y (d + 1) n o) := by
  intro d
  induction d with
  | zero => exact stB_ok hn h
  | succ d ih => rw [← stD_next a b y (d + 1) y n o]; exact stB_ok hn ih
theorem oOk_none : oOk none := fun m t e => by cases e
