/-! the heap of class and reference, behind their making: the class's objects and arrays lie at 0 .. 68, the reference's at 69 .. 100, what is made later from 101 on -/
/-- int fields, long fields, rows of ints, rows of longs, rows of references, the four references of Matches that change, later cells, cells, slots, outside -/
abbrev hk_T : Type := (Nat → Nat → Int32) × (Nat → Int64) × (Nat → Nat → Int32) × (Nat → Nat → Int64) × (Nat → Nat → Option Nat) × (Nat → Nat) × (Nat → ra_C) × Nat × Nat × ra_EX
def hk_I (κ : hk_T) (k j : Nat) : Int32 := κ.1 k j
def hk_J (κ : hk_T) (j : Nat) : Int64 := κ.2.1 j
def hk_A (κ : hk_T) (k i : Nat) : Int32 := κ.2.2.1 k i
def hk_B (κ : hk_T) (k i : Nat) : Int64 := κ.2.2.2.1 k i
def hk_Q (κ : hk_T) (k i : Nat) : Option Nat := κ.2.2.2.2.1 k i
def hk_P (κ : hk_T) (j : Nat) : Nat := κ.2.2.2.2.2.1 j
def hk_D (κ : hk_T) (k : Nat) : ra_C := κ.2.2.2.2.2.2.1 k
def hk_n (κ : hk_T) : Nat := κ.2.2.2.2.2.2.2.1
def hk_s (κ : hk_T) : Nat := κ.2.2.2.2.2.2.2.2.1
def hk_x (κ : hk_T) : ra_EX := κ.2.2.2.2.2.2.2.2.2
def hk_of (I : Nat → Nat → Int32) (J : Nat → Int64) (A : Nat → Nat → Int32) (B : Nat → Nat → Int64) (Q : Nat → Nat → Option Nat) (P : Nat → Nat) (D : Nat → ra_C) (n s : Nat) (x : ra_EX) : hk_T := (I, J, A, B, Q, P, D, n, s, x)
def hk_u2 {α : Type} (f : Nat → Nat → α) (k i : Nat) (v : α) : Nat → Nat → α := fun k' i' => if k' = k ∧ i' = i then v else f k' i'
def hk_u1 {α : Type} (f : Nat → α) (k : Nat) (v : α) : Nat → α := fun k' => if k' = k then v else f k'
def hk_wI (κ : hk_T) (k j : Nat) (v : Int32) : hk_T := (hk_u2 κ.1 k j v, κ.2)
def hk_wJ (κ : hk_T) (j : Nat) (v : Int64) : hk_T := (κ.1, hk_u1 κ.2.1 j v, κ.2.2)
def hk_wA (κ : hk_T) (k i : Nat) (v : Int32) : hk_T := (κ.1, κ.2.1, hk_u2 κ.2.2.1 k i v, κ.2.2.2)
def hk_wB (κ : hk_T) (k i : Nat) (v : Int64) : hk_T := (κ.1, κ.2.1, κ.2.2.1, hk_u2 κ.2.2.2.1 k i v, κ.2.2.2.2)
def hk_wQ (κ : hk_T) (k i : Nat) (v : Option Nat) : hk_T := (κ.1, κ.2.1, κ.2.2.1, κ.2.2.2.1, hk_u2 κ.2.2.2.2.1 k i v, κ.2.2.2.2.2)
def hk_wP (κ : hk_T) (j : Nat) (v : Nat) : hk_T := (κ.1, κ.2.1, κ.2.2.1, κ.2.2.2.1, κ.2.2.2.2.1, hk_u1 κ.2.2.2.2.2.1 j v, κ.2.2.2.2.2.2)
def hk_wD (κ : hk_T) (k : Nat) (c : ra_C) : hk_T := (κ.1, κ.2.1, κ.2.2.1, κ.2.2.2.1, κ.2.2.2.2.1, κ.2.2.2.2.2.1, hk_u1 κ.2.2.2.2.2.2.1 k c, κ.2.2.2.2.2.2.2)
/-- a new cell -/
def hk_new (κ : hk_T) (c : ra_C) (m : Nat) : hk_T := (κ.1, κ.2.1, κ.2.2.1, κ.2.2.2.1, κ.2.2.2.2.1, κ.2.2.2.2.2.1, hk_u1 κ.2.2.2.2.2.2.1 κ.2.2.2.2.2.2.2.1 c, κ.2.2.2.2.2.2.2.1 + 1, κ.2.2.2.2.2.2.2.2.1 + m, κ.2.2.2.2.2.2.2.2.2)
/-- what lies where: a class and what its fields are (0 int, 1 long, 2 changing reference, else 10 + address), or 100 + kind of row and its length -/
def hk_sh : List (Nat × Nat × List Nat) := [
  (11, 0, [11, 25, 26, 31, 33, 48, 50, 71, 76, 78, 0, 0, 0]),
  (2, 0, [12, 13, 14, 15, 16, 17, 18, 19, 20, 21, 22, 23, 24, 0, 0, 0, 0, 0, 0, 0]),
  (100, 480, []),
  (100, 9, []),
  (100, 54, []),
  (100, 54, []),
  (104, 8, []),
  (100, 144, []),
  (100, 12, []),
  (100, 10, []),
  (100, 10, []),
  (100, 9, []),
  (100, 12, []),
  (100, 12, []),
  (100, 12, []),
  (105, 2, []),
  (8, 0, [27, 0, 0, 28, 29, 30, 0, 0, 0, 0, 0, 0]),
  (100, 400, []),
  (100, 400, []),
  (100, 12, []),
  (100, 25, []),
  (0, 0, [32]),
  (100, 64, []),
  (1, 0, [11, 31, 34, 35, 36, 37, 38, 39, 40, 0, 0, 44]),
  (100, 320, []),
  (102, 320, []),
  (100, 320, []),
  (100, 5346, []),
  (100, 40, []),
  (100, 5, []),
  (7, 0, [41, 42, 43, 0]),
  (100, 40, []),
  (100, 40, []),
  (100, 54, []),
  (7, 0, [45, 46, 47, 0]),
  (100, 40, []),
  (100, 40, []),
  (100, 54, []),
  (5, 0, [11, 44, 49]),
  (100, 40, []),
  (3, 0, [11, 51, 59, 60, 61, 62, 63, 64, 2, 2, 2, 2, 0, 69, 70, 0, 0, 0]),
  (10, 0, [52, 53, 54, 55, 56, 57, 58, 0]),
  (100, 13, []),
  (100, 54, []),
  (100, 54, []),
  (100, 54, []),
  (100, 54, []),
  (102, 54, []),
  (100, 702, []),
  (100, 40, []),
  (100, 41, []),
  (100, 41, []),
  (100, 12, []),
  (100, 12, []),
  (100, 361, []),
  (100, 0, []),
  (100, 0, []),
  (102, 0, []),
  (103, 0, []),
  (100, 40, []),
  (102, 40, []),
  (6, 0, [11, 72, 73, 74, 0, 75, 0]),
  (100, 9, []),
  (100, 81, []),
  (100, 4608, []),
  (100, 9, []),
  (9, 0, [77, 0, 0]),
  (100, 40, []),
  (100, 7, []),
  (12, 0, [0, 0, 80, 81, 82, 83, 0, 84, 0, 0, 0, 0, 1, 0, 0, 0, 85, 0, 86, 87, 0, 88, 89, 0, 0, 90, 91, 0, 92, 93, 0, 1, 1, 0, 1, 94, 95, 96, 0, 97, 98, 0, 99, 0, 100, 101, 102, 103, 104, 105, 106, 1, 107, 108, 109, 1, 0, 110]),
  (100, 7, []),
  (100, 7960, []),
  (100, 15920, []),
  (102, 2, []),
  (100, 400, []),
  (100, 96, []),
  (100, 400, []),
  (100, 400, []),
  (100, 400, []),
  (100, 400, []),
  (101, 12, []),
  (101, 5, []),
  (101, 13, []),
  (101, 400, []),
  (100, 320, []),
  (102, 320, []),
  (100, 5400, []),
  (100, 40, []),
  (100, 40, []),
  (100, 100, []),
  (100, 167936, []),
  (101, 4096, []),
  (101, 4096, []),
  (102, 4096, []),
  (102, 4096, []),
  (100, 40, []),
  (102, 40, []),
  (100, 361, []),
  (100, 4608, []),
  (100, 9, []),
  (100, 40, [])]
def hk_v (κ : hk_T) (k j : Nat) (c : Nat) : Value := match c with
  | 0 => .int (κ.1 k j)
  | 1 => .long (κ.2.1 j)
  | 2 => .ref (κ.2.2.2.2.2.1 j)
  | c => .ref (c - 10)
def hk_mk (κ : hk_T) (k : Nat) : Nat → List Nat → List Value
  | _, [] => []
  | j, c :: l => hk_v κ k j c :: hk_mk κ k (j + 1) l
def hk_ar (κ : hk_T) (k t n : Nat) : ra_C := match t with
  | 1 => .inl (1, n, .inr (.inl (κ.2.2.2.1 k)))
  | 4 => .inl (4, n, .inr (.inr (.inr (.inr (κ.2.2.2.2.1 k)))))
  | 5 => .inl (5, n, .inr (.inr (.inr (.inr (κ.2.2.2.2.1 k)))))
  | t => .inl (t, n, .inl (κ.2.2.1 k))
def hk_c (κ : hk_T) (k : Nat) : ra_C := match hk_sh[k]? with
  | some (c, n, fs) => (match Nat.blt c 100 with
    | true => .inr (c, hk_mk κ k 0 fs)
    | false => hk_ar κ k (c - 100) n)
  | none => κ.2.2.2.2.2.2.1 k
def hp (κ : hk_T) : ra_H := (hk_c κ, κ.2.2.2.2.2.2.2)
theorem hk_mk_at (κ : hk_T) (k : Nat) : ∀ (fs : List Nat) (i j : Nat), (hk_mk κ k i fs)[j]? = (fs[j]?).map (hk_v κ k (i + j)) := by
  intro fs
  induction fs with
  | nil => intro i j; simp [hk_mk]
  | cons c l ih =>
    intro i j
    cases j with
    | zero => simp [hk_mk]
    | succ j => simp only [hk_mk, List.getElem?_cons_succ, ih]; congr 2; omega
theorem hk_mk_len (κ : hk_T) (k : Nat) : ∀ (fs : List Nat) (i : Nat), (hk_mk κ k i fs).length = fs.length := by
  intro fs
  induction fs with
  | nil => intro i; rfl
  | cons c l ih => intro i; simp [hk_mk, ih]
theorem hk_mk_cg {κ κ' : hk_T} {k i : Nat} {fs : List Nat} {j : Nat} {v : Value} (h : ∀ j' c, fs[j']? = some c → hk_v κ' k (i + j') c = if j' = j then v else hk_v κ k (i + j') c) (hj : j < fs.length) : (hk_mk κ k i fs).set j v = hk_mk κ' k i fs := by
  apply List.ext_getElem?
  intro q
  rw [List.getElem?_set, hk_mk_at, hk_mk_at, hk_mk_len]
  cases hq : fs[q]? with
  | none =>
    have : ¬ q < fs.length := by
      intro z
      rw [List.getElem?_eq_getElem z] at hq
      cases hq
    have hne : ¬ j = q := by omega
    simp [hne]
  | some c =>
    have h1 := h q c hq
    by_cases hjq : j = q
    · subst hjq
      rw [if_pos rfl] at h1
      simp [hj, h1]
    · rw [if_neg (Ne.symm hjq)] at h1
      simp [hjq, h1]
theorem hk_wr {κ κ' : hk_T} {k : Nat} {c : ra_C} (hr : κ'.2.2.2.2.2.2.2 = κ.2.2.2.2.2.2.2) (h1 : hk_c κ' k = c) (h2 : ∀ q, q ≠ k → hk_c κ' q = hk_c κ q) : ((ra_up (hp κ).1 k c, (hp κ).2) : ra_H) = hp κ' := by
  show ((ra_up (hk_c κ) k c, κ.2.2.2.2.2.2.2) : ra_H) = (hk_c κ', κ'.2.2.2.2.2.2.2)
  rw [hr]
  congr 1
  funext q
  unfold ra_up
  split
  · rename_i e; rw [e, h1]
  · rename_i e; rw [h2 q e]
theorem hk_c_cg {κ κ' : hk_T} {q : Nat} (hv : ∀ j c, hk_v κ' q j c = hk_v κ q j c) (ha : ∀ t n, hk_ar κ' q t n = hk_ar κ q t n) (hd : κ'.2.2.2.2.2.2.1 q = κ.2.2.2.2.2.2.1 q) : hk_c κ' q = hk_c κ q := by
  have hm : ∀ (fs : List Nat) (i : Nat), hk_mk κ' q i fs = hk_mk κ q i fs := by
    intro fs
    induction fs with
    | nil => intro i; rfl
    | cons c l ih => intro i; simp only [hk_mk, hv, ih]
  unfold hk_c
  split
  · split
    · rw [hm]
    · exact ha _ _
  · exact hd
theorem hk_fW_I {κ : hk_T} {ci k j n : Nat} {fs : List Nat} {v : Int32} (hs : hk_sh[k]? = some (ci, n, fs)) (hc : Nat.blt ci 100 = true) (hf : fs[j]? = some 0) : ra_fW (hp κ) ci k j (.int v) = some (hp (hk_wI κ k j v)) := by
  have hj : j < fs.length := (List.getElem?_eq_some_iff.mp hf).1
  have e1 : (hp κ).1 k = .inr (ci, hk_mk κ k 0 fs) := by show hk_c κ k = _; unfold hk_c; rw [hs]; simp only [hc]
  unfold ra_fW
  rw [e1]
  simp only [if_true, hk_mk_len, hj]
  congr 1
  refine hk_wr rfl ?_ (fun q hq => hk_c_cg (fun j' c => ?_) (fun t n => rfl) rfl)
  · unfold hk_c
    rw [hs]
    simp only [hc]
    congr 2
    refine (hk_mk_cg (fun j' c hc' => ?_) hj).symm
    unfold hk_v hk_wI hk_u2
    dsimp only
    split
    · by_cases h : j' = j
      · simp [h]
      · simp [h]
    · by_cases h : j' = j
      · rw [h] at hc'; rw [hf] at hc'; cases hc'
      · simp [h]
    · by_cases h : j' = j
      · rw [h] at hc'; rw [hf] at hc'; cases hc'
      · simp [h]
    · by_cases h : j' = j
      · rename_i n0 n1 n2; rw [h] at hc'; rw [hf] at hc'; cases hc'; exact absurd rfl n0
      · simp [h]
  · unfold hk_v hk_wI hk_u2
    dsimp only
    split
    · rw [if_neg (fun z => hq z.1)]
    · rfl
    · rfl
    · rfl
theorem hk_fW_J {κ : hk_T} {ci k j n : Nat} {fs : List Nat} {v : Int64} (hs : hk_sh[k]? = some (ci, n, fs)) (hc : Nat.blt ci 100 = true) (hf : fs[j]? = some 1) (ho : ∀ q : Nat, q ≠ k → ∀ (ci' n' : Nat) (fs' : List Nat), hk_sh[q]? = some (ci', n', fs') → ∀ (i c : Nat), fs'[i]? = some c → c ≠ 1) : ra_fW (hp κ) ci k j (.long v) = some (hp (hk_wJ κ j v)) := by
  have hj : j < fs.length := (List.getElem?_eq_some_iff.mp hf).1
  have e1 : (hp κ).1 k = .inr (ci, hk_mk κ k 0 fs) := by show hk_c κ k = _; unfold hk_c; rw [hs]; simp only [hc]
  unfold ra_fW
  rw [e1]
  simp only [if_true, hk_mk_len, hj]
  congr 1
  refine hk_wr rfl ?_ (fun q hq => ?_)
  · unfold hk_c
    rw [hs]
    simp only [hc]
    congr 2
    refine (hk_mk_cg (fun j' c hc' => ?_) hj).symm
    unfold hk_v hk_wJ hk_u1
    dsimp only
    split
    · by_cases h : j' = j
      · rw [h] at hc'; rw [hf] at hc'; cases hc'
      · simp [h]
    · by_cases h : j' = j
      · simp [h]
      · simp [h]
    · by_cases h : j' = j
      · rw [h] at hc'; rw [hf] at hc'; cases hc'
      · simp [h]
    · by_cases h : j' = j
      · rename_i n0 n1 n2; rw [h] at hc'; rw [hf] at hc'; cases hc'; exact absurd rfl n1
      · simp [h]
  · unfold hk_c
    cases hq' : hk_sh[q]? with
    | none => rfl
    | some r =>
      obtain ⟨ci', n', fs'⟩ := r
      dsimp only
      split
      · congr 2
        have : ∀ (l : List Nat) (i : Nat), (∀ (i c : Nat), l[i]? = some c → c ≠ 1) → hk_mk (hk_wJ κ j v) q i l = hk_mk κ q i l := by
          intro l
          induction l with
          | nil => intro i _; rfl
          | cons c l ih =>
            intro i hl
            have h0 : c ≠ 1 := hl 0 c rfl
            have : hk_v (hk_wJ κ j v) q i c = hk_v κ q i c := by
              unfold hk_v
              split
              · rfl
              · exact absurd rfl h0
              · rfl
              · rfl
            simp only [hk_mk, this]
            rw [ih (i + 1) (fun i' c' h => hl (i' + 1) c' (by simpa using h))]
        exact this fs' 0 (ho q hq ci' n' fs' hq')
      · rfl
theorem hk_aW_A {κ : hk_T} {t k n : Nat} {i v : Int32} (hs : hk_sh[k]? = some (100 + t, n, [])) (ht : t = 0 ∨ t = 2 ∨ t = 3) : ra_aW (hp κ) t k i v = if i < 0 ∨ n ≤ i.toNatClampNeg then none else some (hp (hk_wA κ k i.toNatClampNeg v)) := by
  have hb : Nat.blt (100 + t) 100 = false := by rcases ht with rfl | rfl | rfl <;> rfl
  have e0 : ∀ κ' : hk_T, hk_ar κ' k t n = .inl (t, n, .inl (κ'.2.2.1 k)) := by intro κ'; rcases ht with rfl | rfl | rfl <;> rfl
  have e9 : ∀ κ' : hk_T, hk_c κ' k = .inl (t, n, .inl (κ'.2.2.1 k)) := by
    intro κ'
    unfold hk_c
    rw [hs]
    simp only [hb, Nat.add_sub_cancel_left]
    exact e0 κ'
  unfold ra_aW
  rw [show (hp κ).1 k = _ from e9 κ]
  simp only [if_true]
  split
  · rfl
  · congr 1
    refine hk_wr rfl ?_ (fun q hq => hk_c_cg (fun j' c => rfl) (fun t' n' => ?_) rfl)
    · rw [e9]
      congr 4
      funext q
      simp only [hk_wA, hk_u2, upd, true_and]
    · have e : (hk_wA κ k i.toNatClampNeg v).2.2.1 q = κ.2.2.1 q := by
        funext i'
        simp only [hk_wA, hk_u2, hq, false_and, if_false]
      unfold hk_ar
      rw [e]
      rfl
theorem hk_aW_B {κ : hk_T} {k n : Nat} {i : Int32} {v : Int64} (hs : hk_sh[k]? = some (101, n, [])) : ra_aWJ (hp κ) k i v = if i < 0 ∨ n ≤ i.toNatClampNeg then none else some (hp (hk_wB κ k i.toNatClampNeg v)) := by
  have e9 : ∀ κ' : hk_T, hk_c κ' k = .inl (1, n, .inr (.inl (κ'.2.2.2.1 k))) := by
    intro κ'
    unfold hk_c
    rw [hs]
    rfl
  unfold ra_aWJ
  rw [show (hp κ).1 k = _ from e9 κ]
  simp only [if_true]
  split
  · rfl
  · congr 1
    refine hk_wr rfl ?_ (fun q hq => hk_c_cg (fun j' c => rfl) (fun t' n' => ?_) rfl)
    · rw [e9]
      congr 5
      funext q
      simp only [hk_wB, hk_u2, vp_updL, true_and]
    · have e : (hk_wB κ k i.toNatClampNeg v).2.2.2.1 q = κ.2.2.2.1 q := by
        funext i'
        simp only [hk_wB, hk_u2, hq, false_and, if_false]
      unfold hk_ar
      rw [e]
      rfl
theorem hk_late {κ : hk_T} {k : Nat} (hk : 101 ≤ k) : (hp κ).1 k = κ.2.2.2.2.2.2.1 k := by
  show hk_c κ k = _
  unfold hk_c
  rw [List.getElem?_eq_none_iff.mpr (show hk_sh.length ≤ k from hk)]
theorem hk_mk_new {κ : hk_T} (hn : 101 ≤ κ.2.2.2.2.2.2.2.1) (c : ra_C) (m : Nat) : ra_mk (hp κ) c m = hp (hk_new κ c m) := by
  show ((ra_up (hk_c κ) κ.2.2.2.2.2.2.2.1 c, _) : ra_H) = (hk_c (hk_new κ c m), _)
  congr 1
  funext q
  unfold ra_up
  split
  · rename_i e
    subst e
    rw [show hk_c (hk_new κ c m) _ = _ from hk_late hn]
    simp [hk_new, hk_u1]
  · rename_i e
    refine (hk_c_cg (κ := κ) (κ' := hk_new κ c m) (q := q) (fun j c => rfl) (fun t n => rfl) ?_).symm
    simp [hk_new, hk_u1, e]

