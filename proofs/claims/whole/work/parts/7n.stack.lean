/-! the row of the stack, pure: st l k what it costs to go from the l-th to the k-th of n -/
theorem nr_min (v : Nat → Nat) (c : Nat → Prop) [DecidablePred c] : ∀ n, n ≤ 1000 → (fo (nrS v c) 0 n (-n3 1, 0) = (-n3 1, 0) ∧ ∀ k, k < n → ¬ c k) ∨ ∃ b, b < n ∧ c b ∧ fo (nrS v c) 0 n (-n3 1, 0) = (n3 b, v b) ∧ (∀ k, k < n → c k → v b ≤ v k) ∧ ∀ k, k < b → c k → v b < v k := by
  intro n
  induction n with
  | zero => intro _; exact Or.inl ⟨rfl, fun k hk => by omega⟩
  | succ n ih =>
    intro hn
    rw [fo_last, Nat.zero_add]
    rcases ih (by omega) with ⟨e, h⟩ | ⟨b, h1, h2, e, h3, h4⟩
    · rw [e]
      unfold nrS
      by_cases hc : c n
      · right
        refine ⟨n, by omega, hc, ?_, ?_, ?_⟩
        · rw [if_pos hc]; exact if_pos (Or.inl rfl)
        · intro k hk hck
          by_cases ek : k = n
          · rw [ek]; exact Nat.le_refl _
          · exact absurd hck (h k (by omega))
        · intro k hk hck; exact absurd hck (h k hk)
      · left
        refine ⟨if_neg hc, ?_⟩
        intro k hk
        by_cases ek : k = n
        · rw [ek]; exact hc
        · exact h k (by omega)
    · rw [e]
      unfold nrS
      right
      have hb1 : ¬ n3 b = -n3 1 := fun z => (n3_eqn (by omega) (by omega) (by omega)).mp z
      by_cases hc : c n
      · rw [if_pos hc]
        by_cases hv : v n < v b
        · refine ⟨n, by omega, hc, if_pos (Or.inr hv), ?_, ?_⟩
          · intro k hk hck
            by_cases ek : k = n
            · rw [ek]; exact Nat.le_refl _
            · have := h3 k (by omega) hck; omega
          · intro k hk hck; have := h3 k hk hck; omega
        · refine ⟨b, by omega, h2, if_neg (by rintro (z | z); exact hb1 z; exact hv z), ?_, h4⟩
          intro k hk hck
          by_cases ek : k = n
          · rw [ek]; omega
          · exact h3 k (by omega) hck
      · rw [if_neg hc]
        refine ⟨b, by omega, h2, rfl, ?_, h4⟩
        intro k hk hck
        by_cases ek : k = n
        · rw [ek] at hck; exact absurd hck hc
        · exact h3 k (by omega) hck
theorem nr_congr {v v' : Nat → Nat} {c : Nat → Prop} [DecidablePred c] {n : Nat} (h : ∀ k, k < n → c k → v k = v' k) : fo (nrS v c) 0 n (-n3 1, 0) = fo (nrS v' c) 0 n (-n3 1, 0) := by
  refine fo_congr n 0 _ (fun j s _ hj => ?_)
  unfold nrS
  by_cases hc : c j
  · rw [if_pos hc, if_pos hc, h j (by omega) hc]
  · rw [if_neg hc, if_neg hc]
def chF (n : Nat) (st : Nat → Nat → Nat) (t : Nat → Nat → Nat) (s l : Nat) : Int32 × Nat := fo (nrS (fun k => st l k + t (s ||| 2 ^ k) k) (fun k => ¬ s.testBit k = true)) 0 n (-n3 1, 0)
def tbF (n : Nat) (st : Nat → Nat → Nat) : Nat → Nat → Nat → Nat
  | 0, _, _ => 0
  | f + 1, s, l => (chF n st (tbF n st f) s l).2
theorem tb_or (s l j : Nat) : (s ||| 2 ^ l).testBit j = (s.testBit j || decide (l = j)) := by
  rw [Nat.testBit_or, Nat.testBit_two_pow]
theorem or_gt {s k : Nat} (h : ¬ s.testBit k = true) : s < s ||| 2 ^ k := by
  have h1 : s ≤ s ||| 2 ^ k := Nat.left_le_or
  have h2 : ¬ s = s ||| 2 ^ k := by
    intro e
    have h3 : (s ||| 2 ^ k).testBit k = true := by rw [tb_or, decide_eq_true rfl, Bool.or_true]
    rw [← e] at h3
    exact h h3
  omega
theorem or_lt {s k n : Nat} (h : s < 2 ^ n) (hk : k < n) : s ||| 2 ^ k < 2 ^ n := Nat.or_lt_two_pow h (Nat.pow_lt_pow_right (by omega) hk)
theorem tbF_stable (n : Nat) (st : Nat → Nat → Nat) : ∀ f f' s l, s < 2 ^ n → 2 ^ n - s ≤ f → 2 ^ n - s ≤ f' → tbF n st f s l = tbF n st f' s l := by
  intro f
  induction f with
  | zero => intro f' s l hs h1 h2; omega
  | succ f ih =>
    intro f' s l hs h1 h2
    obtain ⟨f', rfl⟩ : ∃ q, f' = q + 1 := ⟨f' - 1, by omega⟩
    show (chF n st (tbF n st f) s l).2 = (chF n st (tbF n st f') s l).2
    unfold chF
    rw [nr_congr (v' := fun k => st l k + tbF n st f' (s ||| 2 ^ k) k) (fun k hk hc => by
      have g1 := or_gt hc
      have g2 := or_lt hs hk
      rw [ih f' (s ||| 2 ^ k) k g2 (by omega) (by omega)])]
/-- what the rest costs, the set s laid, the l-th last -/
def rsT (n : Nat) (st : Nat → Nat → Nat) (s l : Nat) : Nat := tbF n st (2 ^ n) s l
theorem rsT_eq (n : Nat) (st : Nat → Nat → Nat) {s l : Nat} (hs : s < 2 ^ n) : rsT n st s l = (chF n st (rsT n st) s l).2 := by
  have h0 := Nat.two_pow_pos n
  obtain ⟨p, hp⟩ : ∃ p, 2 ^ n = p + 1 := ⟨2 ^ n - 1, by omega⟩
  have e : rsT n st s l = (chF n st (tbF n st p) s l).2 := by unfold rsT; rw [hp]; rfl
  rw [e]
  unfold chF
  rw [nr_congr (v' := fun k => st l k + rsT n st (s ||| 2 ^ k) k) (fun k hk hc => by
    have g1 := or_gt hc
    have g2 := or_lt hs hk
    unfold rsT
    rw [tbF_stable n st p (2 ^ n) (s ||| 2 ^ k) k g2 (by omega) (by omega)])]
/-- no rest costs much -/
theorem tbF_le (n : Nat) (st : Nat → Nat → Nat) (hst : ∀ i j, st i j ≤ 20) (hn : n ≤ 9) : ∀ f s l, tbF n st f s l ≤ 20 * f := by
  intro f
  induction f with
  | zero => intro s l; exact Nat.le_refl _
  | succ f ih =>
    intro s l
    show (chF n st (tbF n st f) s l).2 ≤ _
    unfold chF
    rcases nr_min (fun k => st l k + tbF n st f (s ||| 2 ^ k) k) (fun k => ¬ s.testBit k = true) n (by omega) with ⟨e, -⟩ | ⟨b, -, -, e, -⟩
    · rw [e]; exact Nat.zero_le _
    · rw [e]
      have h1 := hst l b
      have h2 := ih (s ||| 2 ^ b) b
      dsimp only
      omega
theorem rsT_le (n : Nat) (st : Nat → Nat → Nat) (hst : ∀ i j, st i j ≤ 20) (hn : n ≤ 9) (s l : Nat) : rsT n st s l ≤ 10240 := by
  have h1 := tbF_le n st hst hn (2 ^ n) s l
  have h2 : 2 ^ n ≤ 2 ^ 9 := Nat.pow_le_pow_right (by omega) hn
  unfold rsT
  omega
/-- the first that is laid -/
def fsT (n : Nat) (st : Nat → Nat → Nat) : Int32 × Nat := fo (nrS (fun k => rsT n st (2 ^ k) k) (fun _ => True)) 0 n (-n3 1, 0)
/-- behind i steps: what is laid, and who comes then -/
def paT (n : Nat) (st : Nat → Nat → Nat) : Nat → Nat × Int32
  | 0 => (0, (fsT n st).1)
  | i + 1 => ((paT n st i).1 ||| 2 ^ (paT n st i).2.toInt.toNat, (chF n st (rsT n st) ((paT n st i).1 ||| 2 ^ (paT n st i).2.toInt.toNat) (paT n st i).2.toInt.toNat).1)
/-- bits of a set that are counted -/
def pc (n s : Nat) : Nat := cnt (fun k => s.testBit k = true) n
theorem pc_or {n s k : Nat} (hk : k < n) (h : ¬ s.testBit k = true) : pc n (s ||| 2 ^ k) = pc n s + 1 := by
  have key : ∀ n, cnt (fun j => (s ||| 2 ^ k).testBit j = true) n = cnt (fun j => s.testBit j = true) n + if k < n then 1 else 0 := by
    intro n
    induction n with
    | zero => rfl
    | succ n ih =>
      rw [cnt, cnt, ih, tb_or]
      by_cases e : k = n
      · have e1 : k < n + 1 := by omega
        have e2 : ¬ k < n := by omega
        have e3 : (s.testBit n || decide (k = n)) = true := by rw [decide_eq_true e, Bool.or_true]
        rw [e] at h
        simp only [if_pos e1, if_neg e2, if_pos e3, if_neg h]
      · have e1 : (s.testBit n || decide (k = n)) = s.testBit n := by rw [decide_eq_false e, Bool.or_false]
        rw [e1]
        by_cases c : k < n
        · have c2 : k < n + 1 := by omega
          simp only [if_pos c, if_pos c2]; omega
        · have c2 : ¬ k < n + 1 := by omega
          simp only [if_neg c, if_neg c2]; omega
  unfold pc
  rw [key n, if_pos hk]
theorem pc_full {n s : Nat} (h : pc n s < n) : ∃ k, k < n ∧ ¬ s.testBit k = true := by
  by_cases hx : ∃ k, k < n ∧ ¬ s.testBit k = true
  · exact hx
  · exfalso
    have : ∀ m, m ≤ n → cnt (fun k => s.testBit k = true) m = m := by
      intro m
      induction m with
      | zero => intro _; rfl
      | succ m ih =>
        intro hm
        rw [cnt, ih (by omega), if_pos (Classical.byContradiction fun z => hx ⟨m, by omega, z⟩)]
    have h2 := this n (Nat.le_refl _)
    unfold pc at h
    omega
/-- as long as not all is laid someone comes who isn't -/
theorem paT_ok {n : Nat} {st : Nat → Nat → Nat} (hn : n ≤ 9) : ∀ i, i < n → ∃ b, b < n ∧ (paT n st i).2 = n3 b ∧ (paT n st i).1 < 2 ^ n ∧ ¬ (paT n st i).1.testBit b = true ∧ pc n (paT n st i).1 = i := by
  intro i
  induction i with
  | zero =>
    intro h0
    show ∃ b, b < n ∧ (fsT n st).1 = n3 b ∧ 0 < 2 ^ n ∧ ¬ Nat.testBit 0 b = true ∧ pc n 0 = 0
    unfold fsT
    rcases nr_min (fun k => rsT n st (2 ^ k) k) (fun _ => True) n (by omega) with ⟨-, h⟩ | ⟨b, hb, -, e, -⟩
    · exact absurd trivial (h 0 h0)
    · refine ⟨b, hb, by rw [e], Nat.two_pow_pos n, by simp, ?_⟩
      unfold pc
      have : ∀ m, cnt (fun k => Nat.testBit 0 k = true) m = 0 := by
        intro m
        induction m with
        | zero => rfl
        | succ m ih => rw [cnt, ih, if_neg (by simp)]
      exact this n
  | succ i ih =>
    intro hi
    obtain ⟨b, h1, h2, h3, h4, h5⟩ := ih (by omega)
    have eb : (paT n st i).2.toInt.toNat = b := by rw [h2, n3_toInt (by omega)]; rfl
    have hp := pc_or h1 h4
    have hl := or_lt h3 h1
    show ∃ b', b' < n ∧ (chF n st (rsT n st) ((paT n st i).1 ||| 2 ^ (paT n st i).2.toInt.toNat) (paT n st i).2.toInt.toNat).1 = n3 b' ∧ (paT n st i).1 ||| 2 ^ (paT n st i).2.toInt.toNat < 2 ^ n ∧ ¬ ((paT n st i).1 ||| 2 ^ (paT n st i).2.toInt.toNat).testBit b' = true ∧ pc n ((paT n st i).1 ||| 2 ^ (paT n st i).2.toInt.toNat) = i + 1
    rw [eb]
    unfold chF
    rcases nr_min (fun k => st b k + rsT n st ((paT n st i).1 ||| 2 ^ b ||| 2 ^ k) k) (fun k => ¬ ((paT n st i).1 ||| 2 ^ b).testBit k = true) n (by omega) with ⟨-, h⟩ | ⟨b', hb', hc, e, -⟩
    · exfalso
      obtain ⟨k, k1, k2⟩ := pc_full (n := n) (s := (paT n st i).1 ||| 2 ^ b) (by omega)
      exact h k k1 k2
    · exact ⟨b', hb', by rw [e], hl, hc, by omega⟩
