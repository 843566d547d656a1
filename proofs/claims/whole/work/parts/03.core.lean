/-! the picture of the heap: cells numbered from 0, references by these numbers; values of what lies outside by .float -/
abbrev ra_C : Type := (Nat × vp_A) ⊕ (Nat × List Value)
/-- outside arrays of ints that are only read: their lengths and values -/
abbrev ra_EX : Type := Nat → Nat × (Nat → Int32)
/-- cells, how many there are, how many slots were made, the outside -/
abbrev ra_H : Type := (Nat → ra_C) × Nat × Nat × ra_EX
/-- where the cells begin, where the outside ones lie, the array classes, the classes -/
abbrev ra_G : Type := Nat × (Nat → Nat) × (Nat → ClassId) × va_G
def ra_v (G : ra_G) : Value → Value
  | .ref k => .ref (G.1 + k)
  | .float u => .ref (G.2.1 u.toNat)
  | v => v
def ra_fr (G : ra_G) (f : Nat → Option Nat) : Nat → Option Nat := fun i => (f i).map (fun k => G.1 + k)
def ra_e (G : ra_G) : ra_C → va_E
  | .inl (t, n, .inr (.inr (.inr (.inr f)))) => .inl (G.2.2.1 t, n, .inr (.inr (.inr (.inr (ra_fr G f)))))
  | .inl (t, n, x) => .inl (G.2.2.1 t, n, x)
  | .inr (ci, fs) => .inr (ci, fs.map (ra_v G))
def ra_w (G : ra_G) (h : ra_H) : va_W := (List.range h.2.1).map (fun k => (G.1 + k, ra_e G (h.1 k)))
def ra_A (G : ra_G) : Nat → Prop := fun q => G.1 ≤ q
def ra_junk : ra_C := .inr (1000, [])
def ra_Rep (G : ra_G) (h : ra_H) (H : Heap) : Prop := va_P G.2.2.2 vwCl (ra_w G h) H ∧ ∀ k, h.2.1 ≤ k → h.1 k = ra_junk
def ra_tys (G : ra_G) : List (ClassId × FieldType) := [(G.2.2.1 0, .int), (G.2.2.1 1, .long), (G.2.2.1 2, .boolean), (G.2.2.1 3, .short), (G.2.2.1 4, .object "RedMarks$Scheme"), (G.2.2.1 5, .object "RedMarks$Holdings")]
theorem ra_w_at (G : ra_G) {h : ra_H} {k : Nat} (hk : k < h.2.1) : (ra_w G h)[k]? = some (G.1 + k, ra_e G (h.1 k)) := by
  simp [ra_w, hk]
theorem ra_w_of (G : ra_G) {h : ra_H} {k : Nat} {q : Nat × va_E} (hq : (ra_w G h)[k]? = some q) : k < h.2.1 ∧ q = (G.1 + k, ra_e G (h.1 k)) := by
  have hk : k < h.2.1 := by
    have := (List.getElem?_eq_some_iff.mp hq).1
    simpa [ra_w] using this
  rw [ra_w_at G hk] at hq
  exact ⟨hk, (Option.some.inj hq).symm⟩
theorem ra_w_D (G : ra_G) (h : ra_H) : va_D (ra_A G) (ra_w G h) := by
  refine ⟨fun i j p q hp hq e => ?_, fun k q hq => ?_⟩
  · obtain ⟨-, rfl⟩ := ra_w_of G hp
    obtain ⟨-, rfl⟩ := ra_w_of G hq
    dsimp only at e
    omega
  · obtain ⟨-, rfl⟩ := ra_w_of G hq
    exact Nat.le_add_right _ _
def ra_up (σ : Nat → ra_C) (k : Nat) (c : ra_C) : Nat → ra_C := fun j => if j = k then c else σ j
theorem ra_w_set (G : ra_G) (σ : Nat → ra_C) (n : Nat) (s : Nat × ra_EX) (k : Nat) (c : ra_C) : (ra_w G (σ, n, s)).set k (G.1 + k, ra_e G c) = ra_w G (ra_up σ k c, n, s) := by
  apply List.ext_getElem?
  intro i
  rw [List.getElem?_set]
  by_cases hi : i < n
  · rw [ra_w_at G (h := (ra_up σ k c, n, s)) hi]
    by_cases h : k = i
    · subst h
      simp [ra_w, hi, ra_up]
    · rw [if_neg h, ra_w_at G (h := (σ, n, s)) hi]
      simp [ra_up, Ne.symm h]
  · have h1 : (ra_w G (ra_up σ k c, n, s))[i]? = none := by simp [ra_w]; omega
    have h2 : (ra_w G (σ, n, s))[i]? = none := by simp [ra_w]; omega
    rw [h1, h2]
    by_cases h : k = i
    · subst h
      simp [ra_w, hi]
    · simp [h]
theorem ra_w_push (G : ra_G) (σ : Nat → ra_C) (n : Nat) (s s' : Nat × ra_EX) (c : ra_C) : ra_w G (σ, n, s) ++ [(G.1 + n, ra_e G c)] = ra_w G (ra_up σ n c, n + 1, s') := by
  simp only [ra_w, List.range_succ, List.map_append, List.map_cons, List.map_nil]
  congr 1
  · apply List.map_congr_left
    intro k hk
    have : k < n := List.mem_range.mp hk
    have hne : ¬ k = n := by omega
    simp [ra_up, hne]
  · simp [ra_up]
theorem ra_Rep.set {G : ra_G} {σ : Nat → ra_C} {n k : Nat} {s : Nat × ra_EX} {c : ra_C} {H H1 : Heap} (hR : ra_Rep G (σ, n, s) H) (hk : k < n) (hP : va_P G.2.2.2 vwCl ((ra_w G (σ, n, s)).set k (G.1 + k, ra_e G c)) H1) : ra_Rep G (ra_up σ k c, n, s) H1 := by
  refine ⟨by rw [← ra_w_set]; exact hP, fun j hj => ?_⟩
  have : ¬ j = k := by dsimp only at hj; omega
  simp only [ra_up, if_neg this]
  exact hR.2 j hj
theorem ra_Rep.push {G : ra_G} {σ : Nat → ra_C} {n : Nat} {s s' : Nat × ra_EX} {c : ra_C} {H H1 : Heap} (hR : ra_Rep G (σ, n, s) H) (hP : va_P G.2.2.2 vwCl (ra_w G (σ, n, s) ++ [(G.1 + n, ra_e G c)]) H1) : ra_Rep G (ra_up σ n c, n + 1, s') H1 := by
  refine ⟨by rw [← ra_w_push G σ n s s' c]; exact hP, fun j hj => ?_⟩
  have : ¬ j = n := by dsimp only at hj; omega
  simp only [ra_up, if_neg this]
  exact hR.2 j (by dsimp only at hj ⊢; omega)
theorem ra_Rep.lt {G : ra_G} {h : ra_H} {H : Heap} (hR : ra_Rep G h H) {k : Nat} (hk : h.1 k ≠ ra_junk) : k < h.2.1 := Nat.lt_of_not_le fun z => hk (hR.2 k z)
theorem ra_Rep.size {G : ra_G} {h : ra_H} {H H0 : Heap} {cells : Nat} (hR : ra_Rep G h H) (h0 : G.1 ≤ H0.size) (h1 : H0.size ≤ H.size) (h2 : H.size ≤ H0.size + cells) (h3 : H0.size + cells = G.1 + h.2.1) : H.size = G.1 + h.2.1 := by
  rcases Nat.eq_zero_or_pos h.2.1 with z | z
  · omega
  · have hk : h.2.1 - 1 < h.2.1 := by omega
    have := (hR.1 _ _ (ra_w_at G hk)).lt
    dsimp only at this
    omega
/-! the locals -/
def ra_nol : Option Value → Option Value
  | some (.long _) => none
  | some (.double _) => none
  | x => x
def ra_st (v : Value) : List (Option Value) → Nat → List (Option Value)
  | [], _ => []
  | _ :: l, 0 => some v :: l
  | x :: l, i + 1 => (match i with
    | 0 => ra_nol x
    | _ => x) :: ra_st v l i
def ra_st2 (v : Value) : List (Option Value) → Nat → List (Option Value)
  | [], _ => []
  | _ :: l, 0 => some v :: (match l with
    | [] => []
    | _ :: l => none :: l)
  | x :: l, i + 1 => (match i with
    | 0 => ra_nol x
    | _ => x) :: ra_st2 v l i
def ra_pr (f : Value → Value) : Nat → List (Option Value) → List (Nat × Value)
  | _, [] => []
  | j, none :: l => ra_pr f (j + 1) l
  | j, some v :: l => (j, f v) :: ra_pr f (j + 1) l
theorem ra_pr_mem (f : Value → Value) : ∀ (L : List (Option Value)) (j : Nat) (q : Nat × Value), q ∈ ra_pr f j L ↔ ∃ (i : Nat) (v : Value), L[i]? = some (some v) ∧ q = (j + i, f v) := by
  intro L
  induction L with
  | nil => intro j q; simp [ra_pr]
  | cons x l ih =>
    intro j q
    cases x with
    | none =>
      rw [ra_pr, ih]
      constructor
      · rintro ⟨i, v, h, e⟩
        exact ⟨i + 1, v, by simpa using h, by rw [e]; simp; omega⟩
      · rintro ⟨i, v, h, e⟩
        cases i with
        | zero => simp at h
        | succ i => exact ⟨i, v, by simpa using h, by rw [e]; simp; omega⟩
    | some w =>
      rw [ra_pr, List.mem_cons, ih]
      constructor
      · rintro (rfl | ⟨i, v, h, e⟩)
        · exact ⟨0, w, by simp, by simp⟩
        · exact ⟨i + 1, v, by simpa using h, by rw [e]; simp; omega⟩
      · rintro ⟨i, v, h, e⟩
        cases i with
        | zero =>
          simp at h
          subst h
          exact Or.inl (by simpa using e)
        | succ i => exact Or.inr ⟨i, v, by simpa using h, by rw [e]; simp; omega⟩
theorem ra_st_at (v : Value) : ∀ (L : List (Option Value)) (i k : Nat) (w : Value), (ra_st v L i)[k]? = some (some w) → (k = i ∧ w = v) ∨ (k ≠ i ∧ L[k]? = some (some w) ∧ (k + 1 = i → w.category = 1)) := by
  intro L
  induction L with
  | nil => intro i k w h; simp [ra_st] at h
  | cons x l ih =>
    intro i k w h
    cases i with
    | zero =>
      cases k with
      | zero =>
        simp [ra_st] at h
        exact Or.inl ⟨rfl, h.symm⟩
      | succ k =>
        simp [ra_st] at h
        exact Or.inr ⟨by omega, by simpa using h, by omega⟩
    | succ i =>
      cases k with
      | zero =>
        cases i with
        | zero =>
          simp only [ra_st, List.getElem?_cons_zero, Option.some.injEq] at h
          refine Or.inr ⟨by omega, ?_, ?_⟩
          · cases x with
            | none => simp [ra_nol] at h
            | some u => cases u <;> simp [ra_nol] at h <;> simp [h]
          · intro _
            cases x with
            | none => simp [ra_nol] at h
            | some u => cases u <;> simp [ra_nol] at h <;> (try subst h) <;> rfl
        | succ i =>
          simp only [ra_st, List.getElem?_cons_zero, Option.some.injEq] at h
          exact Or.inr ⟨by omega, by simp [h], by omega⟩
      | succ k =>
        simp only [ra_st, List.getElem?_cons_succ] at h
        rcases ih i k w h with ⟨h1, h2⟩ | ⟨h1, h2, h3⟩
        · exact Or.inl ⟨by omega, h2⟩
        · exact Or.inr ⟨by omega, by simpa using h2, by omega⟩
theorem ra_st2_at (v : Value) : ∀ (L : List (Option Value)) (i k : Nat) (w : Value), (ra_st2 v L i)[k]? = some (some w) → (k = i ∧ w = v) ∨ (k ≠ i ∧ k ≠ i + 1 ∧ L[k]? = some (some w) ∧ (k + 1 = i → w.category = 1)) := by
  intro L
  induction L with
  | nil => intro i k w h; simp [ra_st2] at h
  | cons x l ih =>
    intro i k w h
    cases i with
    | zero =>
      cases k with
      | zero =>
        simp [ra_st2] at h
        exact Or.inl ⟨rfl, h.symm⟩
      | succ k =>
        cases l with
        | nil => simp [ra_st2] at h
        | cons y l =>
          cases k with
          | zero => simp [ra_st2] at h
          | succ k =>
            simp [ra_st2] at h
            exact Or.inr ⟨by omega, by omega, by simpa using h, by omega⟩
    | succ i =>
      cases k with
      | zero =>
        cases i with
        | zero =>
          simp only [ra_st2, List.getElem?_cons_zero, Option.some.injEq] at h
          refine Or.inr ⟨by omega, by omega, ?_, ?_⟩
          · cases x with
            | none => simp [ra_nol] at h
            | some u => cases u <;> simp [ra_nol] at h <;> simp [h]
          · intro _
            cases x with
            | none => simp [ra_nol] at h
            | some u => cases u <;> simp [ra_nol] at h <;> (try subst h) <;> rfl
        | succ i =>
          simp only [ra_st2, List.getElem?_cons_zero, Option.some.injEq] at h
          exact Or.inr ⟨by omega, by omega, by simp [h], by omega⟩
      | succ k =>
        simp only [ra_st2, List.getElem?_cons_succ] at h
        rcases ih i k w h with ⟨h1, h2⟩ | ⟨h1, h2, h3, h4⟩
        · exact Or.inl ⟨by omega, h2⟩
        · exact Or.inr ⟨by omega, by omega, by simpa using h3, by omega⟩
theorem ra_v_cat (G : ra_G) (v : Value) : (ra_v G v).category = v.category := by cases v <;> rfl
def ra_L (G : ra_G) (ls : Array Slot) (nL : Nat) (L : List (Option Value)) : Prop := lv_has ls nL (ra_pr (ra_v G) 0 L)
theorem ra_L.at {G : ra_G} {ls : Array Slot} {nL : Nat} {L : List (Option Value)} (h : ra_L G ls nL L) {i : Nat} {v : Value} (hv : L[i]? = some (some v)) : ls[i]? = some (.val (ra_v G v)) :=
  h.2.2 (i, ra_v G v) ((ra_pr_mem _ L 0 _).mpr ⟨i, v, hv, by simp⟩)
theorem ra_L.pair {G : ra_G} {ls : Array Slot} {nL : Nat} {L : List (Option Value)} (h : ra_L G ls nL L) {i : Nat} {v : Value} (hv : L[i]? = some (some v)) : ∃ k : Nat, (ra_pr (ra_v G) 0 L)[k]? = some (i, ra_v G v) :=
  List.getElem?_of_mem ((ra_pr_mem _ L 0 _).mpr ⟨i, v, hv, by simp⟩)
theorem ra_L.st {G : ra_G} {ls : Array Slot} {nL : Nat} {L : List (Option Value)} {i : Nat} {v : Value}
    (h : lv_has ls nL ((i, ra_v G v) :: (ra_pr (ra_v G) 0 L).filter (fun q => !(q.1 == i) && !(q.1 + 1 == i && q.2.category == 2)))) : ra_L G ls nL (ra_st v L i) := by
  refine ⟨h.1, h.2.1, fun q hq => h.2.2 q ?_⟩
  obtain ⟨k, w, hk, rfl⟩ := (ra_pr_mem _ _ 0 q).mp hq
  rcases ra_st_at v L i k w hk with ⟨rfl, rfl⟩ | ⟨h1, h2, h3⟩
  · simp
  · refine List.mem_cons_of_mem _ (List.mem_filter.mpr ⟨(ra_pr_mem _ _ 0 _).mpr ⟨k, w, h2, rfl⟩, ?_⟩)
    have hc := ra_v_cat G w
    by_cases hki : k + 1 = i
    · have := h3 hki
      simp [h1, hc, this]
    · simp [h1, hki]
theorem ra_L.st2 {G : ra_G} {ls : Array Slot} {nL : Nat} {L : List (Option Value)} {i : Nat} {v : Value}
    (h : lv_has ls nL ((i, ra_v G v) :: (ra_pr (ra_v G) 0 L).filter (fun q => !(q.1 == i) && (!(q.1 == i + 1) && !(q.1 + 1 == i && q.2.category == 2))))) : ra_L G ls nL (ra_st2 v L i) := by
  refine ⟨h.1, h.2.1, fun q hq => h.2.2 q ?_⟩
  obtain ⟨k, w, hk, rfl⟩ := (ra_pr_mem _ _ 0 q).mp hq
  rcases ra_st2_at v L i k w hk with ⟨rfl, rfl⟩ | ⟨h1, h0, h2, h3⟩
  · simp
  · refine List.mem_cons_of_mem _ (List.mem_filter.mpr ⟨(ra_pr_mem _ _ 0 _).mpr ⟨k, w, h2, rfl⟩, ?_⟩)
    have hc := ra_v_cat G w
    by_cases hki : k + 1 = i
    · have := h3 hki
      simp [h1, hc, this]
      omega
    · simp [h1, hki, h0]
