/-! making -/
theorem i_of {i : Nat} (h : i < 2147483648) : (Int32.ofNat i).toInt = i := Int32.toInt_ofNat_of_lt h
theorem i_succ {i : Nat} (h : i + 1 < 2147483648) : Int32.ofNat i + 1 = Int32.ofNat (i + 1) := by
  rw [i_eq, Int32.toInt_add, i_of (by omega), i_of h]
  show ((i : Int) + 1).bmod (2 ^ 32) = _
  rw [Int.bmod_eq_of_le (by omega) (by omega)]
  omega
theorem i_ofcl {i : Nat} (h : i < 2147483648) : (Int32.ofNat i).toNatClampNeg = i := by rw [i_cl, i_of h]; rfl
theorem i_oflt {i n : Nat} (hi : i < 2147483648) (hn : n < 2147483648) : Int32.ofNat i < Int32.ofNat n ↔ i < n := by
  rw [i_lt, i_of hi, i_of hn]; omega
theorem ra_up_up (σ : Nat → ra_C) (k : Nat) (a b : ra_C) : ra_up (ra_up σ k a) k b = ra_up σ k b := by
  funext q
  unfold ra_up
  split <;> rfl
theorem ra_up_same (σ : Nat → ra_C) (k : Nat) (a : ra_C) : ra_up σ k a k = a := by simp [ra_up]
theorem ra_up_self (σ : Nat → ra_C) (k : Nat) (a : ra_C) (h : σ k = a) : ra_up σ k a = σ := by
  funext q
  unfold ra_up
  split
  · rename_i e; rw [e, h]
  · rfl
theorem f_fill5 (N a : Nat) (v : Int32) (n : Nat) (hn : n ≤ 100000) : ∀ (m i : Nat) (f : Nat → Int32) (h : ra_H), h.1 a = .inl (0, n, .inl f) → i ≤ n → n - i < m → nJ7_fill_53178_5 N m a v (Int32.ofNat i) (Int32.ofNat n) h = some (ra_up h.1 a (.inl (0, n, .inl (fun j => if i ≤ j ∧ j < n then v else f j))), h.2) := by
  intro m
  induction m with
  | zero => intro i f h _ _ hm; omega
  | succ m ih =>
    intro i f h hc hi hm
    rw [nJ7_fill_53178_5]
    by_cases hlt : i < n
    · rw [if_pos ((i_oflt (by omega) (by omega)).mpr hlt)]
      have e1 : ra_aW h 0 a (Int32.ofNat i) v = some (ra_up h.1 a (.inl (0, n, .inl (upd f i v))), h.2) := by
        unfold ra_aW
        rw [hc]
        simp only [if_true]
        rw [if_neg (ix (by rw [i_of (by omega)]; omega) (by rw [i_of (by omega)]; omega)), i_ofcl (by omega)]
      rw [e1, Option.bind_some, i_succ (by omega)]
      rw [ih (i + 1) (upd f i v) _ (ra_up_same _ _ _) (by omega) (by omega)]
      dsimp only
      rw [ra_up_up]
      congr 7
      funext j
      simp only [upd]
      by_cases h1 : j = i
      · subst h1
        simp [hlt]
      · by_cases h2 : i + 1 ≤ j ∧ j < n
        · have h3 : i ≤ j ∧ j < n := by omega
          simp only [h2, h3, and_self, if_true]
        · have h3 : ¬ (i ≤ j ∧ j < n) := by omega
          simp only [h2, h3, h1, if_false]
    · rw [if_neg (fun z => hlt ((i_oflt (by omega) (by omega)).mp z))]
      have e2 : (fun j => if i ≤ j ∧ j < n then v else f j) = f := by
        funext j
        rw [if_neg (by omega)]
      rw [e2, ra_up_self _ _ _ hc]
theorem f_fill (N a : Nat) (v : Int32) (n : Nat) (f : Nat → Int32) (h : ra_H) (hc : h.1 a = .inl (0, n, .inl f)) (hn : n ≤ 100000) (hN : n < N) : fJ7_fill_53178 N a v h = some (ra_up h.1 a (.inl (0, n, .inl (fun j => if j < n then v else f j))), h.2) := by
  unfold fJ7_fill_53178 nJ7_fill_53178_0
  have e1 : ra_aL h a = some (Int32.ofNat n) := by unfold ra_aL; rw [hc]; rfl
  rw [e1, Option.bind_some]
  have := f_fill5 N a v n hn N 0 f h hc (by omega) (by omega)
  simp only [Nat.zero_le, true_and] at this
  exact this
