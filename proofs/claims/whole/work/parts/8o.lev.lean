/-! levels: the sets that the class keeps ahead of a book -/
theorem dep_bit {w O j l : Nat} (h : O < 2 ^ w) (hl : (dep w O j).testBit l = true) : O.testBit l = true := by
  have e := dep_self w O j h
  rw [← e, Nat.testBit_and, Bool.and_eq_true] at hl
  exact hl.2
section
variable {a : Nat → Nat → Int} {u v : Nat → Int} {L n : Nat}
def lev (a : Nat → Nat → Int) (u v : Nat → Int) (L n b s : Nat) : Prop := (∀ l, (musM a u v L n b).testBit l = true → s.testBit l = true) ∧ ∀ l, s.testBit l = true → (musM a u v L n b).testBit l = true ∨ (mayM a u v L b).testBit l = true
def opM (a : Nat → Nat → Int) (u v : Nat → Int) (L n b : Nat) : Nat := an (mayM a u v L b) (musM a u v L n b)
def sJ (a : Nat → Nat → Int) (u v : Nat → Int) (L n b j : Nat) : Nat := musM a u v L n b ||| dep 32 (opM a u v L n b) j
theorem musM_lt (b : Nat) : musM a u v L n b < 2 ^ L := musK_lt a u v L n _
theorem opM_lt (b : Nat) : opM a u v L n b < 2 ^ L := an_lt (mayM_lt a u v L b)
theorem opM_lt2 (hL : L ≤ 12) (b : Nat) : opM a u v L n b < 4096 := Nat.lt_of_lt_of_le (opM_lt b) (Nat.pow_le_pow_right (by omega) hL : 2 ^ L ≤ 2 ^ 12)
theorem opM_lt32 (hL : L ≤ 12) (b : Nat) : opM a u v L n b < 2 ^ 32 := by
  have := opM_lt2 (a := a) (u := u) (v := v) (n := n) hL b
  omega
theorem sJ_lev (hL : L ≤ 12) (b j : Nat) : lev a u v L n b (sJ a u v L n b j) := by
  constructor
  · intro l hl; unfold sJ; rw [Nat.testBit_or, hl]; rfl
  · intro l hl
    unfold sJ at hl
    rw [Nat.testBit_or, Bool.or_eq_true] at hl
    rcases hl with h | h
    · exact Or.inl h
    · have := dep_bit (opM_lt32 hL b) h
      unfold opM at this
      rw [an_bit, Bool.and_eq_true] at this
      exact Or.inr this.1
theorem lev_lt {b s : Nat} (h : lev a u v L n b s) : s < 2 ^ L := by
  apply Nat.lt_pow_two_of_testBit
  intro l hl
  have hp : 2 ^ L ≤ 2 ^ l := Nat.pow_le_pow_right (by omega) hl
  rw [← Bool.not_eq_true]
  intro z
  rcases h.2 l z with g | g
  · rw [Nat.testBit_lt_two_pow (Nat.lt_of_lt_of_le (musM_lt b) hp)] at g; cases g
  · rw [Nat.testBit_lt_two_pow (Nat.lt_of_lt_of_le (mayM_lt a u v L b) hp)] at g; cases g
theorem lev_sJ (hL : L ≤ 12) {b s : Nat} (h : lev a u v L n b s) : ∃ j, j < 2 ^ pcw 13 (opM a u v L n b) ∧ s = sJ a u v L n b j := by
  have hs := lev_lt h
  have h12 : 2 ^ L ≤ 2 ^ 12 := Nat.pow_le_pow_right (by omega) hL
  have ho := opM_lt2 (a := a) (u := u) (v := v) (n := n) hL b
  have hp : an s (musM a u v L n b) < 2 ^ L := an_lt hs
  obtain ⟨j, hj, e⟩ := dep_sur 32 (opM a u v L n b) (an s (musM a u v L n b)) (by omega) (by
    rw [Nat.and_comm, and_sub]
    intro l hl
    rw [an_bit, Bool.and_eq_true] at hl
    unfold opM
    rw [an_bit, hl.2, Bool.and_true]
    rcases h.2 l hl.1 with g | g
    · rw [g] at hl; cases hl.2
    · exact g)
  have e1 : pcw 32 (opM a u v L n b) = pcw 13 (opM a u v L n b) := pcw_more 13 19 _ (by omega)
  refine ⟨j, by rw [← e1]; exact hj, ?_⟩
  unfold sJ
  rw [e]
  apply Nat.eq_of_testBit_eq
  intro l
  rw [Nat.testBit_or, an_bit]
  by_cases c : (musM a u v L n b).testBit l = true
  · rw [c, h.1 l c]; rfl
  · rw [Bool.not_eq_true] at c
    rw [c]
    cases s.testBit l <;> rfl
theorem sJ_sub (hL : L ≤ 12) {b j j' : Nat} (hj : j < 2 ^ pcw 13 (opM a u v L n b)) (hs : ∀ l, (sJ a u v L n b j).testBit l = true → (sJ a u v L n b j').testBit l = true) : j ≤ j' := by
  apply Classical.byContradiction
  intro c
  have ho := opM_lt2 (a := a) (u := u) (v := v) (n := n) hL b
  have e1 : pcw 32 (opM a u v L n b) = pcw 13 (opM a u v L n b) := pcw_more 13 19 _ (by omega)
  have d := dep_lt 32 (opM a u v L n b) j' j (by omega) (by rw [e1]; exact hj)
  have g : ∀ l, (dep 32 (opM a u v L n b) j).testBit l = true → (dep 32 (opM a u v L n b) j').testBit l = true := by
    intro l hl
    have h1 := dep_bit (opM_lt32 hL b) hl
    have h2 := hs l (by unfold sJ; rw [Nat.testBit_or, hl, Bool.or_true])
    unfold opM at h1
    rw [an_bit, Bool.and_eq_true] at h1
    unfold sJ at h2
    rw [Nat.testBit_or, Bool.or_eq_true] at h2
    rcases h2 with h | h
    · rw [h] at h1; cases h1.2
    · exact h
  have g2 := and_sub.mpr g
  have : dep 32 (opM a u v L n b) j ≤ dep 32 (opM a u v L n b) j' := by rw [← g2]; exact Nat.and_le_left
  omega
theorem sJ_inj (hL : L ≤ 12) {b j j' : Nat} (hj : j < 2 ^ pcw 13 (opM a u v L n b)) (hj' : j' < 2 ^ pcw 13 (opM a u v L n b)) (hs : sJ a u v L n b j = sJ a u v L n b j') : j = j' :=
  Nat.le_antisymm (sJ_sub hL hj (fun l hl => by rw [← hs]; exact hl)) (sJ_sub hL hj' (fun l hl => by rw [hs]; exact hl))
theorem uMk_bit (l b : Nat) : (uMk a u v L b).testBit l = true ↔ l < L ∧ a l b = u l + v b := msk_bit _ l L
theorem musM_bit (l : Nat) {b : Nat} (hb : b < n) : (musM a u v L n b).testBit l = true ↔ (musM a u v L n (b + 1)).testBit l = true ∧ ¬ (uMk a u v L b).testBit l = true := by
  unfold musM
  rw [show n - b = (n - (b + 1)) + 1 by omega, musK, an_bit, show n - (n - (b + 1) + 1) = b by omega, Bool.and_eq_true]
  cases (uMk a u v L b).testBit l <;> simp
theorem mayM_bit1 (l b : Nat) : (mayM a u v L (b + 1)).testBit l = true ↔ (mayM a u v L b).testBit l = true ∨ (uMk a u v L b).testBit l = true := by
  rw [mayM, Nat.testBit_or, Bool.or_eq_true]
/-- from a level to the next -/
theorem lev_next {b s : Nat} (hb : b < n) (h : lev a u v L n b s) (hm : s &&& musM a u v L n (b + 1) = musM a u v L n (b + 1)) : lev a u v L n (b + 1) s := by
  refine ⟨and_sub.mp hm, fun l hl => ?_⟩
  rcases h.2 l hl with g | g
  · exact Or.inl ((musM_bit l hb).mp g).1
  · exact Or.inr ((mayM_bit1 l b).mpr (Or.inl g))
theorem lev_line {b s l : Nat} (hb : b < n) (h : lev a u v L n b s) (hl : l < L) (hu : a l b = u l + v b) (hm : (s ||| 2 ^ l) &&& musM a u v L n (b + 1) = musM a u v L n (b + 1)) : lev a u v L n (b + 1) (s ||| 2 ^ l) := by
  refine ⟨and_sub.mp hm, fun j hj => ?_⟩
  rw [tb_or, Bool.or_eq_true] at hj
  rcases hj with g | g
  · rcases h.2 j g with g | g
    · exact Or.inl ((musM_bit j hb).mp g).1
    · exact Or.inr ((mayM_bit1 j b).mpr (Or.inl g))
  · have e : l = j := of_decide_eq_true g
    subst e
    exact Or.inr ((mayM_bit1 l b).mpr (Or.inr ((uMk_bit l b).mpr ⟨hl, hu⟩)))
theorem lev_none {b s : Nat} (hb : b < n) (h0 : uMk a u v L b = 0) : lev a u v L n b s ↔ lev a u v L n (b + 1) s := by
  have hz : ∀ l, ¬ (uMk a u v L b).testBit l = true := by intro l; rw [h0, Nat.zero_testBit]; decide
  unfold lev
  constructor
  · rintro ⟨h1, h2⟩
    refine ⟨fun l hl => h1 l ((musM_bit l hb).mpr ⟨hl, hz l⟩), fun l hl => ?_⟩
    rcases h2 l hl with g | g
    · exact Or.inl ((musM_bit l hb).mp g).1
    · exact Or.inr ((mayM_bit1 l b).mpr (Or.inl g))
  · rintro ⟨h1, h2⟩
    refine ⟨fun l hl => h1 l ((musM_bit l hb).mp hl).1, fun l hl => ?_⟩
    rcases h2 l hl with g | g
    · exact Or.inl ((musM_bit l hb).mpr ⟨g, hz l⟩)
    · rcases (mayM_bit1 l b).mp g with k | k
      · exact Or.inr k
      · exact absurd k (hz l)
theorem good_lev {k s : Nat} (h : dualOk a u v L n) (hk : k ≤ n) (hg : goodAt a u v L n k s) : lev a u v L n (n - k) s := by
  have hm := good_must (mst := musM a u v L n) h (fun b hb => musM_ok b hb) hk hg
  rw [and_sub] at hm
  exact ⟨hm, fun l hl => Or.inr ((mayM_bit l (n - k)).mpr (hg.2 l hl))⟩
/-- how great the table's numbers are -/
theorem cT_lo {us : Nat → Nat → Bool} {mst : Nat → Nat} (hL : L ≤ 12) : ∀ k s, -1000000 ≤ (cT a us mst L n k s).1 := by
  intro k
  induction k with
  | zero => intro s; show (-1000000 : Int) ≤ 0; decide
  | succ k ih =>
    intro s
    generalize hq : (if s &&& mst (n - k) = mst (n - k) then ((cT a us mst L n k s).1, (cT a us mst L n k s).2.1, 2 ^ 12) else (-1000000, 0, 0)) = q
    obtain ⟨m0, t0, B0⟩ := q
    obtain ⟨g1, -⟩ := cT_arg a us mst L n k s hL m0 t0 B0 hq
    split at hq
    · have : m0 = (cT a us mst L n k s).1 := (congrArg (fun q => q.1) hq).symm
      have := ih s
      omega
    · have : m0 = -1000000 := (congrArg (fun q => q.1) hq).symm
      omega
theorem mS_hi (ha : ∀ l b, a l b ≤ 2000) : ∀ k s, mS a L n k s ≤ 2000 * k := by
  intro k
  induction k with
  | zero => intro s; show (0 : Int) ≤ _; omega
  | succ k ih =>
    intro s
    rcases mS_some a L n k s with e | ⟨l, hl, hs, e⟩
    · have := ih s
      omega
    · have := ih (s ||| 2 ^ l)
      have := ha l (n - (k + 1))
      omega
theorem cT_msk {us : Nat → Nat → Bool} {mst : Nat → Nat} (hL : L ≤ 12) (k s : Nat) : (cT a us mst L n (k + 1) s).2.2 < 8192 := by
  generalize hq : (if s &&& mst (n - k) = mst (n - k) then ((cT a us mst L n k s).1, (cT a us mst L n k s).2.1, 2 ^ 12) else (-1000000, 0, 0)) = q
  obtain ⟨m0, t0, B0⟩ := q
  obtain ⟨-, -, -, -, -, g6⟩ := cT_arg a us mst L n k s hL m0 t0 B0 hq
  show _ < 2 ^ 13
  apply Nat.lt_pow_two_of_testBit
  intro l hl
  rw [← Bool.not_eq_true]
  intro z
  have hB := ((g6 l (by omega)).mp z).1
  split at hq
  · have : B0 = 2 ^ 12 := (congrArg (fun q => q.2.2) hq).symm
    rw [this, Nat.testBit_two_pow] at hB
    simp only [decide_eq_true_eq] at hB
    omega
  · have : B0 = 0 := (congrArg (fun q => q.2.2) hq).symm
    rw [this, Nat.zero_testBit] at hB
    cases hB
theorem cT_none {us : Nat → Nat → Bool} {mst : Nat → Nat} {k s : Nat} (hu : ∀ l, l < L → us l (n - (k + 1)) = false) (hm : s &&& mst (n - k) = mst (n - k)) : cT a us mst L n (k + 1) s = ((cT a us mst L n k s).1, (cT a us mst L n k s).2.1, 2 ^ 12) := by
  rw [cT, if_pos hm]
  have key : ∀ d i r, i + d ≤ L → fo (st3 (fun l => ¬ (us l (n - (k + 1)) = true ∧ ¬ s.testBit l = true ∧ (s ||| 2 ^ l) &&& mst (n - k) = mst (n - k))) (fun l => a l (n - (k + 1)) + (cT a us mst L n k (s ||| 2 ^ l)).1) (fun l => (cT a us mst L n k (s ||| 2 ^ l)).2.1) 1000000000) i d r = r := by
    intro d
    induction d with
    | zero => intro i r _; rfl
    | succ d ih =>
      intro i r hi
      rw [fo, ih (i + 1) _ (by omega)]
      unfold st3
      refine if_pos (fun z => ?_)
      rw [hu i (by omega)] at z
      cases z.1
  exact key L 0 _ (by omega)
end
