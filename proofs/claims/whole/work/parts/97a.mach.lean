/-! the reference's reader as a machine, pure: turn, token, leaves, code, pile -/
abbrev rMs : Type := Nat × Nat × Nat × Nat × (Nat → Nat) × (Nat → Nat) × List (Nat × Nat)
def bnd (o : Nat) : Nat := if 30 ≤ o then 0 else if o = 29 then 1 else if o = 28 then 2 else if o = 27 then 3 else if 24 ≤ o then 4 else if 22 ≤ o then 6 else 5
def up9 (f : Nat → Nat) (a x : Nat) : Nat → Nat := fun i => if i = a then x else f i
def stl (l : Nat) : List (Nat × Nat) → Nat → (Nat → Nat) → (Nat → Nat) → Nat × (Nat → Nat) × (Nat → Nat) × List (Nat × Nat)
  | [], f, O, G => (f, O, G, [])
  | (o, a) :: P, f, O, G => if bnd o < l then (f, O, G, (o, a) :: P) else if o = 28 ∨ o = 29 then stl l P f O (up9 G a f) else stl l P (f + 1) (up9 O f o) (up9 G f 0)
def inn : List (Nat × Nat) → Nat
  | [] => 0
  | (o, _) :: P => if 30 ≤ o then o else inn P
def brk : List (Nat × Nat) → Nat
  | [] => 0
  | (o, _) :: P => if 30 ≤ o then brk P + 1 else brk P
def cmpd : List (Nat × Nat) → Bool
  | [] => false
  | (o, _) :: P => if o ≤ 23 then cmpd P else if o ≤ 26 then true else false
section
variable (B : Nat → Nat) (n : Nat)
def opA (j : Nat) : Option Nat := if sg B n 43 j then some 0 else if sg B n 45 j then some 1 else if sg B n 42 j then some 2 else if sg B n 47 j then some 3 else none
def mPart (j k f : Nat) (O G : Nat → Nat) (P : List (Nat × Nat)) : Option (Sum Nat rMs) :=
  if sg B n 91 j then (if brk P < 8 then some (.inr (1, nxt B n j, k, f, O, G, (31, 0) :: P)) else some (.inl j))
  else if (numA B n j ∨ facA B n j < 12) ∧ k < 50 then some (.inr (3, nxt B n j, k + 1, f + 1, up9 O f (if numA B n j then 0 else facA B n j + 1), up9 G f (if numA B n j then tkV B n j else 0), P)) else some (.inl j)
def mPlain (j k f : Nat) (O G : Nat → Nat) (P : List (Nat × Nat)) : Option (Sum Nat rMs) :=
  if isW B n 18 j then some (.inr (0, nxt B n j, k, f, O, G, (27, 0) :: P))
  else if sg B n 40 j then (if brk P < 8 then some (.inr (0, nxt B n j, k, f, O, G, (30, 0) :: P)) else some (.inl j))
  else mPart B n j k f O G P
def mPop (t j k : Nat) (s : Nat × (Nat → Nat) × (Nat → Nat) × List (Nat × Nat)) : Option (Sum Nat rMs) := match s with
  | (f, O, G, (o, _) :: Q) => if 30 ≤ o then some (.inr (t, j, k, f, O, G, Q)) else none
  | (_, _, _, []) => none
def mSum (tst : Bool) (j k f : Nat) (O G : Nat → Nat) (P : List (Nat × Nat)) : Option (Sum Nat rMs) := match opA B n j with
  | some o => some (.inr (1, nxt B n j, k, (stl (bnd (20 + o)) P f O G).1, (stl (bnd (20 + o)) P f O G).2.1, (stl (bnd (20 + o)) P f O G).2.2.1, (20 + o, 0) :: (stl (bnd (20 + o)) P f O G).2.2.2))
  | none => if inn P = 31 then (if sg B n 93 j then mPop 3 (nxt B n j) k (stl 5 P f O G) else some (.inl j))
    else if inn P = 0 ∧ tst = false then some (.inr (4, j, k, f, O, G, P))
    else if cmpd P = true then some (.inr (2, j, k, f, O, G, P))
    else match cmpA B n j with
      | none => some (.inl j)
      | some o => some (.inr (1, nxt B n j, k, (stl 5 P f O G).1, (stl 5 P f O G).2.1, (stl 5 P f O G).2.2.1, (20 + o, 0) :: (stl 5 P f O G).2.2.2))
def mAO (o j k : Nat) (s : Nat × (Nat → Nat) × (Nat → Nat) × List (Nat × Nat)) : Option (Sum Nat rMs) := some (.inr (0, nxt B n j, k, s.1 + 1, up9 s.2.1 s.1 o, up9 s.2.2.1 s.1 0, (o, s.1) :: s.2.2.2))
def mTold (j k f : Nat) (O G : Nat → Nat) (P : List (Nat × Nat)) : Option (Sum Nat rMs) :=
  if isW B n 19 j then mAO B n 28 j k (stl 2 P f O G)
  else if isW B n 20 j then mAO B n 29 j k (stl 1 P f O G)
  else if inn P = 0 then some (.inr (4, j, k, f, O, G, P))
  else if sg B n 41 j then mPop 2 (nxt B n j) k (stl 1 P f O G) else some (.inl j)
def mst (tst : Bool) (t j k f : Nat) (O G : Nat → Nat) (P : List (Nat × Nat)) : Option (Sum Nat rMs) := match t with
  | 0 => mPlain B n j k f O G P
  | 1 => mPart B n j k f O G P
  | 3 => mSum B n tst j k f O G P
  | _ => mTold B n j k f O G P
def prun (tst : Bool) : Nat → rMs → Option (Sum Nat rMs)
  | 0, _ => none
  | m + 1, (t, j, k, f, O, G, P) => if t = 4 then some (.inr (t, j, k, f, O, G, P)) else match mst B n tst t j k f O G P with
    | none => none
    | some (.inl e) => some (.inl e)
    | some (.inr s) => prun tst m s
def pnx (tst : Bool) (m : Nat) (r : Option (Sum Nat rMs)) : Option (Sum Nat rMs) := match r with
  | none => none
  | some (.inl e) => some (.inl e)
  | some (.inr s) => prun B n tst m s
end
section
variable {B : Nat → Nat} {n : Nat} {tst : Bool} {m j k f : Nat} {O G : Nat → Nat} {P : List (Nat × Nat)}
theorem prun_0 : prun B n tst (m + 1) (0, j, k, f, O, G, P) = pnx B n tst m (mPlain B n j k f O G P) := rfl
theorem prun_1 : prun B n tst (m + 1) (1, j, k, f, O, G, P) = pnx B n tst m (mPart B n j k f O G P) := rfl
theorem prun_3 : prun B n tst (m + 1) (3, j, k, f, O, G, P) = pnx B n tst m (mSum B n tst j k f O G P) := rfl
theorem prun_2 : prun B n tst (m + 1) (2, j, k, f, O, G, P) = pnx B n tst m (mTold B n j k f O G P) := rfl
theorem prun_4 : prun B n tst (m + 1) (4, j, k, f, O, G, P) = some (.inr (4, j, k, f, O, G, P)) := rfl
theorem pnx_s {s : rMs} : pnx B n tst m (some (.inr s)) = prun B n tst m s := rfl
theorem pnx_e {e : Nat} : pnx B n tst m (some (.inl e)) = some (.inl e) := rfl
end
theorem stl_stop {l : Nat} {P : List (Nat × Nat)} {f : Nat} {O G : Nat → Nat} (h : ∀ o a Q, P = (o, a) :: Q → bnd o < l) : stl l P f O G = (f, O, G, P) := by
  cases P with
  | nil => rfl
  | cons q Q =>
    obtain ⟨o, a⟩ := q
    rw [stl, if_pos (h o a Q rfl)]
theorem stl_le {l l' : Nat} (hl : l ≤ l') : ∀ (X : List (Nat × Nat)) (f : Nat) (O G : Nat → Nat) {F : Nat} {OO GG : Nat → Nat} {Y : List (Nat × Nat)}, stl l' X f O G = (F, OO, GG, Y) → stl l X f O G = stl l Y F OO GG := by
  intro X
  induction X with
  | nil =>
    intro f O G F OO GG Y h
    rw [stl] at h
    cases h
    rfl
  | cons q X ih =>
    obtain ⟨o, a⟩ := q
    intro f O G F OO GG Y h
    rw [stl] at h
    by_cases c : bnd o < l'
    · rw [if_pos c] at h
      cases h
      rfl
    · rw [if_neg c] at h
      rw [stl, if_neg (show ¬ bnd o < l by omega)]
      by_cases c2 : o = 28 ∨ o = 29
      · rw [if_pos c2] at h ⊢
        exact ih _ _ _ h
      · rw [if_neg c2] at h ⊢
        exact ih _ _ _ h
theorem bnd_30 {o : Nat} (h : 1 ≤ bnd o) : ¬ 30 ≤ o := by
  intro z
  unfold bnd at h
  rw [if_pos z] at h
  omega
theorem stl_inn {l : Nat} (hl : 1 ≤ l) : ∀ (X : List (Nat × Nat)) (f : Nat) (O G : Nat → Nat) {F : Nat} {OO GG : Nat → Nat} {Y : List (Nat × Nat)}, stl l X f O G = (F, OO, GG, Y) → inn X = inn Y ∧ brk X = brk Y := by
  intro X
  induction X with
  | nil =>
    intro f O G F OO GG Y h
    rw [stl] at h
    cases h
    exact ⟨rfl, rfl⟩
  | cons q X ih =>
    obtain ⟨o, a⟩ := q
    intro f O G F OO GG Y h
    rw [stl] at h
    by_cases c : bnd o < l
    · rw [if_pos c] at h
      cases h
      exact ⟨rfl, rfl⟩
    · rw [if_neg c] at h
      have n30 := bnd_30 (o := o) (by omega)
      rw [inn, brk, if_neg n30, if_neg n30]
      by_cases c2 : o = 28 ∨ o = 29
      · rw [if_pos c2] at h
        exact ih _ _ _ h
      · rw [if_neg c2] at h
        exact ih _ _ _ h
theorem bnd_5 {o : Nat} (h : 5 ≤ bnd o) : o ≤ 23 := by
  unfold bnd at h
  by_cases c1 : 30 ≤ o
  · rw [if_pos c1] at h; omega
  · rw [if_neg c1] at h
    by_cases c2 : o = 29
    · rw [if_pos c2] at h; omega
    · rw [if_neg c2] at h
      by_cases c3 : o = 28
      · rw [if_pos c3] at h; omega
      · rw [if_neg c3] at h
        by_cases c4 : o = 27
        · rw [if_pos c4] at h; omega
        · rw [if_neg c4] at h
          by_cases c5 : 24 ≤ o
          · rw [if_pos c5] at h; omega
          · omega
theorem stl_cmp {l : Nat} (hl : 5 ≤ l) : ∀ (X : List (Nat × Nat)) (f : Nat) (O G : Nat → Nat) {F : Nat} {OO GG : Nat → Nat} {Y : List (Nat × Nat)}, stl l X f O G = (F, OO, GG, Y) → cmpd X = cmpd Y := by
  intro X
  induction X with
  | nil =>
    intro f O G F OO GG Y h
    rw [stl] at h
    cases h
    rfl
  | cons q X ih =>
    obtain ⟨o, a⟩ := q
    intro f O G F OO GG Y h
    rw [stl] at h
    by_cases c : bnd o < l
    · rw [if_pos c] at h
      cases h
      rfl
    · rw [if_neg c] at h
      rw [cmpd, if_pos (bnd_5 (o := o) (by omega))]
      by_cases c2 : o = 28 ∨ o = 29
      · rw [if_pos c2] at h
        exact ih _ _ _ h
      · rw [if_neg c2] at h
        exact ih _ _ _ h
