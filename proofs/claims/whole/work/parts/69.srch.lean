/-! the i-th of those that P holds of: the class stops there, the reference goes on to the end -/
def stI (i : Int32) (P : Nat → Prop) [DecidablePred P] (val : Nat → Int32) (b : Nat) (r : Int32 × Int32) : Int32 × Int32 := if P b then (r.1 + n3 1, if r.1 = i then val b else r.2) else r
theorem stI_keep {i : Int32} {P : Nat → Prop} [DecidablePred P] {val : Nat → Int32} : ∀ (d b k : Nat) (its : Int32), i.toInt < k → k + d < 2147483648 → ∃ k', k ≤ k' ∧ k' ≤ k + d ∧ fo (stI i P val) b d (n3 k, its) = (n3 k', its) := by
  intro d
  induction d with
  | zero => intro b k its h1 h2; exact ⟨k, by omega, by omega, rfl⟩
  | succ d ih =>
    intro b k its h1 h2
    show ∃ k', _ ∧ _ ∧ fo (stI i P val) (b + 1) d (stI i P val b (n3 k, its)) = _
    unfold stI
    by_cases hP : P b
    · rw [if_pos hP]
      have : ¬ n3 k = i := fun e => by rw [← e, n3_toInt (by omega)] at h1; omega
      dsimp only
      rw [if_neg this, n3_add]
      obtain ⟨k', a1, a2, a3⟩ := ih (b + 1) (k + 1) its (by omega) (by omega)
      exact ⟨k', by omega, by omega, a3⟩
    · rw [if_neg hP]
      obtain ⟨k', a1, a2, a3⟩ := ih (b + 1) k its h1 (by omega)
      exact ⟨k', by omega, by omega, a3⟩
/-- either nothing was hit, or it was and the count is beyond i -/
theorem stI_hit {i : Int32} {P : Nat → Prop} [DecidablePred P] {val : Nat → Int32} : ∀ (d b k : Nat), k + d < 2147483648 → ∃ k', k ≤ k' ∧ k' ≤ k + d ∧ (fo (stI i P val) b d (n3 k, -n3 1)).1 = n3 k' ∧ ((fo (stI i P val) b d (n3 k, -n3 1)).2 ≠ -n3 1 → i.toInt < k') := by
  intro d
  induction d with
  | zero => intro b k h; exact ⟨k, by omega, by omega, rfl, fun z => absurd rfl z⟩
  | succ d ih =>
    intro b k h
    show ∃ k', _ ∧ _ ∧ (fo (stI i P val) (b + 1) d (stI i P val b (n3 k, -n3 1))).1 = _ ∧ ((fo (stI i P val) (b + 1) d (stI i P val b (n3 k, -n3 1))).2 ≠ _ → _)
    by_cases hP : P b
    · have e0 : stI i P val b (n3 k, -n3 1) = (n3 (k + 1), if n3 k = i then val b else -n3 1) := by
        unfold stI; rw [if_pos hP]; dsimp only; rw [n3_add]
      rw [e0]
      by_cases e : n3 k = i
      · rw [if_pos e]
        have hk : i.toInt = k := by rw [← e, n3_toInt (by omega)]
        obtain ⟨k', a1, a2, a3⟩ := stI_keep (i := i) (P := P) (val := val) d (b + 1) (k + 1) (val b) (by omega) (by omega)
        rw [a3]
        exact ⟨k', by omega, by omega, rfl, fun _ => by omega⟩
      · rw [if_neg e]
        obtain ⟨k', a1, a2, a3, a4⟩ := ih (b + 1) (k + 1) (by omega)
        exact ⟨k', by omega, by omega, a3, a4⟩
    · have e0 : stI i P val b (n3 k, -n3 1) = (n3 k, -n3 1) := by unfold stI; rw [if_neg hP]
      rw [e0]
      obtain ⟨k', a1, a2, a3, a4⟩ := ih (b + 1) k (by omega)
      exact ⟨k', by omega, by omega, a3, a4⟩
theorem srch {β : Type} {i : Int32} {P : Nat → Prop} [DecidablePred P] {val : Nat → Int32} {w : Bool} {e : Nat} (F : Nat → Int32 → Nat → Option β) (c : Int32 → Option β) (ret : Int32 → Option β) (hv : ∀ b, b < e → val b ≠ -n3 1)
    (h1 : ∀ m k b, b < e → k < 2147483647 → F (m + 1) (n3 k) b = if P b then (if w = true ∧ n3 k = i then ret (val b) else F m (n3 k + n3 1) (b + 1)) else F m (n3 k) (b + 1))
    (h2 : ∀ m k, F (m + 1) (n3 k) e = c (n3 k)) : ∀ d b k m, b + d = e → d < m → k + d < 2147483647 →
    F m (n3 k) b = if w = true ∧ (fo (stI i P val) b d (n3 k, -n3 1)).2 ≠ -n3 1 then ret (fo (stI i P val) b d (n3 k, -n3 1)).2 else c (fo (stI i P val) b d (n3 k, -n3 1)).1 := by
  intro d
  induction d with
  | zero =>
    intro b k m hb hm hk
    obtain ⟨m, rfl⟩ : ∃ q, m = q + 1 := ⟨m - 1, by omega⟩
    have : b = e := by omega
    subst this
    rw [h2, if_neg (fun z => z.2 rfl)]
    rfl
  | succ d ih =>
    intro b k m hb hm hk
    obtain ⟨m, rfl⟩ : ∃ q, m = q + 1 := ⟨m - 1, by omega⟩
    rw [h1 m k b (by omega) (by omega)]
    have eF : fo (stI i P val) b (d + 1) (n3 k, -n3 1) = fo (stI i P val) (b + 1) d (stI i P val b (n3 k, -n3 1)) := rfl
    rw [eF]
    by_cases hP : P b
    · have e0 : stI i P val b (n3 k, -n3 1) = (n3 (k + 1), if n3 k = i then val b else -n3 1) := by
        unfold stI; rw [if_pos hP]; dsimp only; rw [n3_add]
      rw [if_pos hP, e0]
      by_cases hw : w = true ∧ n3 k = i
      · rw [if_pos hw, if_pos hw.2]
        have hk' : i.toInt = k := by rw [← hw.2, n3_toInt (by omega)]
        obtain ⟨k', a1, a2, a3⟩ := stI_keep (i := i) (P := P) (val := val) d (b + 1) (k + 1) (val b) (by omega) (by omega)
        rw [a3, if_pos ⟨hw.1, hv b (by omega)⟩]
      · rw [if_neg hw, n3_add]
        by_cases ew : w = true
        · have : ¬ n3 k = i := fun z => hw ⟨ew, z⟩
          rw [if_neg this]
          exact ih (b + 1) (k + 1) m (by omega) (by omega) (by omega)
        · rw [ih (b + 1) (k + 1) m (by omega) (by omega) (by omega), if_neg (fun z => ew z.1), if_neg (fun z => ew z.1)]
          -- the count alone
          congr 1
          have cnt : ∀ (d b : Nat) (p x y : Int32), (fo (stI i P val) b d (p, x)).1 = (fo (stI i P val) b d (p, y)).1 := by
            intro d
            induction d with
            | zero => intro b p x y; rfl
            | succ d ih =>
              intro b p x y
              show (fo (stI i P val) (b + 1) d (stI i P val b (p, x))).1 = (fo (stI i P val) (b + 1) d (stI i P val b (p, y))).1
              unfold stI
              by_cases hP : P b
              · rw [if_pos hP, if_pos hP]; exact ih _ _ _ _
              · rw [if_neg hP, if_neg hP]; exact ih _ _ _ _
          exact cnt d (b + 1) _ _ _
    · have e0 : stI i P val b (n3 k, -n3 1) = (n3 k, -n3 1) := by unfold stI; rw [if_neg hP]
      rw [if_neg hP, e0]
      exact ih (b + 1) k m (by omega) (by omega) (by omega)
/-- the same over pairs -/
def st2I (i : Int32) (P : Nat → Nat → Prop) [∀ a, DecidablePred (P a)] (val : Nat → Nat → Int32) (n : Nat) (a : Nat) (r : Int32 × Int32) : Int32 × Int32 := fo (stI i (P a) (val a)) (a + 1) (n - (a + 1)) r
theorem st2I_keep {i : Int32} {P : Nat → Nat → Prop} [∀ a, DecidablePred (P a)] {val : Nat → Nat → Int32} {n : Nat} : ∀ (d a k : Nat) (its : Int32), i.toInt < k → k + d * n < 2147483648 → ∃ k', k ≤ k' ∧ fo (st2I i P val n) a d (n3 k, its) = (n3 k', its) := by
  intro d
  induction d with
  | zero => intro a k its h1 h2; exact ⟨k, by omega, rfl⟩
  | succ d ih =>
    intro a k its h1 h2
    rw [Nat.succ_mul] at h2
    show ∃ k', _ ∧ fo (st2I i P val n) (a + 1) d (st2I i P val n a (n3 k, its)) = _
    obtain ⟨k', a1, a2, a3⟩ := stI_keep (i := i) (P := P a) (val := val a) (n - (a + 1)) (a + 1) k its h1 (by omega)
    have : st2I i P val n a (n3 k, its) = (n3 k', its) := a3
    rw [this]
    obtain ⟨k2, b1, b2⟩ := ih (a + 1) k' its (by omega) (by omega)
    exact ⟨k2, by omega, b2⟩
theorem srch2 {β : Type} {i : Int32} {P : Nat → Nat → Prop} [∀ a, DecidablePred (P a)] {val : Nat → Nat → Int32} {w : Bool} {n : Nat} (G : Nat → Int32 → Nat → Option β) (out : Int32 → Option β) (ret : Int32 → Option β)
    (h1 : ∀ m k a, a < n → k < 1000000 → G (m + 1) (n3 k) a = if w = true ∧ (st2I i P val n a (n3 k, -n3 1)).2 ≠ -n3 1 then ret (st2I i P val n a (n3 k, -n3 1)).2 else G m (st2I i P val n a (n3 k, -n3 1)).1 (a + 1))
    (h2 : ∀ m k, G (m + 1) (n3 k) n = out (n3 k)) : ∀ d a k m, a + d = n → d < m → k + d * n < 1000000 →
    G m (n3 k) a = if w = true ∧ (fo (st2I i P val n) a d (n3 k, -n3 1)).2 ≠ -n3 1 then ret (fo (st2I i P val n) a d (n3 k, -n3 1)).2 else out (fo (st2I i P val n) a d (n3 k, -n3 1)).1 := by
  intro d
  induction d with
  | zero =>
    intro a k m ha hm hk
    obtain ⟨m, rfl⟩ : ∃ q, m = q + 1 := ⟨m - 1, by omega⟩
    have : a = n := by omega
    subst this
    rw [h2, if_neg (fun z => z.2 rfl)]
    rfl
  | succ d ih =>
    intro a k m ha hm hk
    rw [Nat.succ_mul] at hk
    obtain ⟨m, rfl⟩ : ∃ q, m = q + 1 := ⟨m - 1, by omega⟩
    rw [h1 m k a (by omega) (by omega)]
    have eF : fo (st2I i P val n) a (d + 1) (n3 k, -n3 1) = fo (st2I i P val n) (a + 1) d (st2I i P val n a (n3 k, -n3 1)) := rfl
    rw [eF]
    obtain ⟨k', a1, a2, a3, a4⟩ := stI_hit (i := i) (P := P a) (val := val a) (n - (a + 1)) (a + 1) k (by omega)
    have e3 : (st2I i P val n a (n3 k, -n3 1)).1 = n3 k' := a3
    have e4 : (st2I i P val n a (n3 k, -n3 1)).2 ≠ -n3 1 → i.toInt < k' := a4
    generalize hr : st2I i P val n a (n3 k, -n3 1) = r at e3 e4
    obtain ⟨p, its⟩ := r
    dsimp only at e3 e4 ⊢
    subst e3
    by_cases hw : w = true ∧ its ≠ -n3 1
    · rw [if_pos hw]
      obtain ⟨k2, b1, b2⟩ := st2I_keep (i := i) (P := P) (val := val) (n := n) d (a + 1) k' its (e4 hw.2) (by omega)
      rw [b2, if_pos hw]
    · rw [if_neg hw]
      by_cases ew : w = true
      · have : its = -n3 1 := Classical.byContradiction fun z => hw ⟨ew, z⟩
        subst this
        exact ih (a + 1) k' m (by omega) (by omega) (by omega)
      · rw [ih (a + 1) k' m (by omega) (by omega) (by omega), if_neg (fun z => ew z.1), if_neg (fun z => ew z.1)]
        congr 1
        have cnt : ∀ (Q : Nat → Prop) [DecidablePred Q] (va : Nat → Int32) (d b : Nat) (p x y : Int32), (fo (stI i Q va) b d (p, x)).1 = (fo (stI i Q va) b d (p, y)).1 := by
          intro Q _ va d
          induction d with
          | zero => intro b p x y; rfl
          | succ d ih =>
            intro b p x y
            show (fo (stI i Q va) (b + 1) d (stI i Q va b (p, x))).1 = (fo (stI i Q va) (b + 1) d (stI i Q va b (p, y))).1
            unfold stI
            by_cases hP : Q b
            · rw [if_pos hP, if_pos hP]; exact ih _ _ _ _
            · rw [if_neg hP, if_neg hP]; exact ih _ _ _ _
        have cnt2 : ∀ (d a : Nat) (p x y : Int32), (fo (st2I i P val n) a d (p, x)).1 = (fo (st2I i P val n) a d (p, y)).1 := by
          intro d
          induction d with
          | zero => intro b p x y; rfl
          | succ d ih =>
            intro a p x y
            show (fo (st2I i P val n) (a + 1) d (st2I i P val n a (p, x))).1 = (fo (st2I i P val n) (a + 1) d (st2I i P val n a (p, y))).1
            have e1 := cnt (P a) (val a) (n - (a + 1)) (a + 1) p x y
            have e2 : st2I i P val n a (p, x) = ((fo (stI i (P a) (val a)) (a + 1) (n - (a + 1)) (p, x)).1, (fo (stI i (P a) (val a)) (a + 1) (n - (a + 1)) (p, x)).2) := rfl
            have e3 : st2I i P val n a (p, y) = ((fo (stI i (P a) (val a)) (a + 1) (n - (a + 1)) (p, y)).1, (fo (stI i (P a) (val a)) (a + 1) (n - (a + 1)) (p, y)).2) := rfl
            rw [e2, e3, e1]
            exact ih _ _ _ _
        exact cnt2 d (a + 1) _ _ _
/-- the same with another P that says the same -/
theorem st2I_congr {i : Int32} {P Q : Nat → Nat → Prop} [∀ a, DecidablePred (P a)] [∀ a, DecidablePred (Q a)] {val : Nat → Nat → Int32} {n : Nat} (h : ∀ a b, a < n → b < n → (P a b ↔ Q a b)) (r : Int32 × Int32) : fo (st2I i P val n) 0 n r = fo (st2I i Q val n) 0 n r := by
  refine fo_congr n 0 r (fun a s h1 h2 => fo_congr _ _ _ (fun b s' h3 h4 => ?_))
  unfold stI
  have := h a b (by omega) (by omega)
  by_cases hP : P a b
  · rw [if_pos hP, if_pos (this.mp hP)]
  · rw [if_neg hP, if_neg (fun z => hP (this.mpr z))]
