/-! words -/
def wT : List (List Nat) := [[98, 97, 121], [115, 104, 101, 108, 102], [112, 108, 97, 99, 101], [111, 117, 114, 115], [102, 97, 108, 115, 101], [108, 101, 116, 116, 101, 114], [110, 117, 109, 98, 101, 114], [99, 97, 109, 101], [116, 104, 105, 99, 107], [116, 97, 108, 108], [104, 111, 108, 101], [104, 101, 105, 103, 104, 116], [115, 116, 97, 114], [100, 97, 109, 112], [119, 111, 114, 100], [115, 117, 98, 106, 101, 99, 116], [104, 111, 117, 115, 101], [105, 102], [110, 111, 116], [97, 110, 100], [111, 114]]
def wLen (k : Nat) : Nat := (wT.getD k []).length
def wCh (k i : Nat) : Nat := (wT.getD k []).getD i 0
def enW (k : Nat) : Nat := fo (fun i w => w * 32 + (wCh k i - 96)) 0 (wLen k) 0
abbrev isW (B : Nat → Nat) (n k j : Nat) : Prop := tkK B n j = 1 ∧ tkE B n j - j = wLen k ∧ ∀ i, i < wLen k → B (j + i) = wCh k i
theorem wT_len : ∀ k, k < 21 → ra_slen.getD k 0 = wLen k ∧ wLen k ≤ 7 ∧ 1 ≤ wLen k := by decide +kernel
theorem wT_ch : ∀ k, k < 21 → ∀ i, i < wLen k → ra_ch k i = n3 (wCh k i) ∧ 97 ≤ wCh k i ∧ wCh k i ≤ 122 := by decide +kernel
theorem enW_at : enW 0 = 2105 ∧ enW 1 = 20190598 ∧ enW 2 = 17171557 ∧ enW 3 = 513619 ∧ enW 4 = 6337125 ∧ enW 5 = 408572082 ∧ enW 6 = 492210354 ∧ enW 7 = 99749 ∧ enW 8 = 21242987 ∧ enW 9 = 656780 ∧ enW 10 = 277893 ∧ enW 11 = 273980692 ∧ enW 12 = 643122 ∧ enW 13 = 132528 ∧ enW 14 = 769604 ∧ enW 15 = 21108167796 ∧ enW 16 = 8902245 ∧ enW 17 = 294 ∧ enW 18 = 14836 ∧ enW 19 = 1476 ∧ enW 20 = 498 := by decide +kernel
/-- letters as one number: no two words alike -/
def encF (f : Nat → Nat) (m : Nat) : Nat := fo (fun i w => w * 32 + f i) 0 m 0
theorem encF_inj : ∀ m m' (f f' : Nat → Nat), (∀ i, i < m → 1 ≤ f i ∧ f i < 32) → (∀ i, i < m' → 1 ≤ f' i ∧ f' i < 32) → encF f m = encF f' m' → m = m' ∧ ∀ i, i < m → f i = f' i := by
  intro m
  induction m with
  | zero =>
    intro m' f f' _ h' e
    cases m' with
    | zero => exact ⟨rfl, fun i h => by omega⟩
    | succ m' =>
      exfalso
      unfold encF at e
      rw [fo_last, Nat.zero_add] at e
      have := (h' m' (by omega)).1
      have e0 : fo (fun i w => w * 32 + f i) 0 0 0 = 0 := rfl
      omega
  | succ m ih =>
    intro m' f f' h h' e
    cases m' with
    | zero =>
      exfalso
      unfold encF at e
      rw [fo_last, Nat.zero_add] at e
      have := (h m (by omega)).1
      have e0 : fo (fun i w => w * 32 + f' i) 0 0 0 = 0 := rfl
      omega
    | succ m' =>
      have e1 : encF f (m + 1) = encF f m * 32 + f m := by unfold encF; rw [fo_last, Nat.zero_add]
      have e2 : encF f' (m' + 1) = encF f' m' * 32 + f' m' := by unfold encF; rw [fo_last, Nat.zero_add]
      rw [e1, e2] at e
      have a1 := h m (by omega)
      have a2 := h' m' (by omega)
      obtain ⟨i1, i2⟩ := ih m' f f' (fun i hi => h i (by omega)) (fun i hi => h' i (by omega)) (by omega)
      subst i1
      refine ⟨rfl, fun i hi => ?_⟩
      by_cases c : i = m
      · rw [c]; omega
      · exact i2 i (by omega)
theorem fo_sh {σ : Type} (st : Nat → σ → σ) (j : Nat) (s : σ) : ∀ m, fo st j m s = fo (fun i => st (j + i)) 0 m s := by
  intro m
  induction m with
  | zero => rfl
  | succ m ih => rw [fo_last, fo_last, ih, Nat.zero_add]
/-- a token of letters is made of letters -/
theorem tk_letters {B : Nat → Nat} {n j : Nat} (h : tkK B n j = 1) : j < n ∧ ∀ i, j ≤ i → i < tkE B n j → isL (B i) := by
  unfold tkK at h
  by_cases c : n ≤ j
  · rw [if_pos c] at h; omega
  · rw [if_neg c] at h
    by_cases cl : isL (B j)
    · refine ⟨by omega, ?_⟩
      have e : tkE B n j = scn (fun i => isL (B i)) n j := by unfold tkE; rw [if_neg c, if_pos cl]
      rw [e]
      exact (scn_is (fun i => isL (B i)) (show j ≤ n by omega)).2.2.1
    · rw [if_neg cl] at h
      split at h <;> omega
theorem word_eq {B : Nat → Nat} {n j k : Nat} (hj : j ≤ n) (h : tkK B n j = 1) (hk : k < 21) : wrR B j (tkE B n j) = j3 (enW k) ↔ isW B n k j := by
  obtain ⟨l1, l2⟩ := tk_letters h
  obtain ⟨-, w7, w1⟩ := wT_len k hk
  have le := tkE_le (B := B) hj
  have ew : enW k = encF (fun i => wCh k i - 96) (wLen k) := rfl
  have bw : enW k < 32 ^ 7 := by
    have : ∀ k, k < 21 → enW k < 32 ^ 7 := by decide +kernel
    exact this k hk
  unfold wrR
  by_cases c : tkE B n j - j ≤ 10
  · rw [if_pos c]
    have en : encN B j (tkE B n j) = encF (fun i => B (j + i) - 96) (tkE B n j - j) := by unfold encN encF; rw [fo_sh]
    have bn : encN B j (tkE B n j) < 2 ^ 60 := by
      have key : ∀ m, (∀ i, i < m → isL (B (j + i))) → m ≤ 10 → encF (fun i => B (j + i) - 96) m < 32 ^ m := by
        intro m
        induction m with
        | zero => intro _ _; exact Nat.one_pos
        | succ m ih =>
          intro g1 g2
          have i1 := ih (fun i hi => g1 i (by omega)) (by omega)
          have l := g1 m (by omega)
          have e1 : encF (fun i => B (j + i) - 96) (m + 1) = encF (fun i => B (j + i) - 96) m * 32 + (B (j + m) - 96) := by unfold encF; rw [fo_last, Nat.zero_add]
          rw [e1, Nat.pow_succ]
          omega
      have k1 := key (tkE B n j - j) (fun i hi => l2 (j + i) (by omega) (by omega)) c
      have k2 : 32 ^ (tkE B n j - j) ≤ 32 ^ 10 := Nat.pow_le_pow_right (by omega) c
      rw [en]
      have k3 : (32 : Nat) ^ 10 < 2 ^ 60 := by decide
      omega
    rw [j3_eq (by omega) (by have : (32 : Nat) ^ 7 < 9223372036854775808 := by decide
                             omega), en, ew]
    constructor
    · intro e
      obtain ⟨e1, e2⟩ := encF_inj _ _ _ _ (fun i hi => by have := l2 (j + i) (by omega) (by omega); omega) (fun i hi => by have := (wT_ch k hk i hi).2; omega) e
      refine ⟨h, e1, fun i hi => ?_⟩
      have g1 := e2 i (by omega)
      have g2 := l2 (j + i) (by omega) (by omega)
      have g3 := (wT_ch k hk i hi).2
      omega
    · rintro ⟨-, e1, e2⟩
      rw [e1]
      unfold encF
      exact fo_congr _ _ _ (fun i s _ hi => by dsimp only; rw [e2 i (by omega)])
  · rw [if_neg c]
    constructor
    · intro e
      exfalso
      have e' := congrArg Int64.toInt e
      rw [j3_toInt (by have : (32 : Nat) ^ 7 < 9223372036854775808 := by decide
                       omega)] at e'
      have : (-1 : Int64).toInt = -1 := by decide
      omega
    · rintro ⟨-, e1, -⟩; omega
