/-! what weighSet finds is the table's -/
theorem wsR_cT {a : Nat → Nat → Int} {us : Nat → Nat → Bool} {mst : Nat → Nat} {L n k s sz : Nat} {g : Nat → Nat} {S : Nat → Int} {W : Nat → Nat} (hl : LL (fun l => l < L ∧ us l (n - (k + 1)) = true) (fun l => l) sz g)
    (h0 : s &&& mst (n - k) = mst (n - k) → S s = (cT a us mst L n k s).1 ∧ W s = (cT a us mst L n k s).2.1) (h1 : ∀ l, l < L → us l (n - (k + 1)) = true → ¬ s.testBit l = true → (s ||| 2 ^ l) &&& mst (n - k) = mst (n - k) → S (s ||| 2 ^ l) = (cT a us mst L n k (s ||| 2 ^ l)).1 ∧ W (s ||| 2 ^ l) = (cT a us mst L n k (s ||| 2 ^ l)).2.1) :
    wsR S W (fun l => a l (n - (k + 1))) g sz (mst (n - k)) s = cT a us mst L n (k + 1) s := by
  rw [cT, fo_list _ (fun l => us l (n - (k + 1)) = true) (fun l hn r => by
    unfold st3
    exact if_pos (fun z => hn z.1)) L sz g _ hl]
  unfold wsR
  have eb : (if s &&& mst (n - k) = mst (n - k) then (S s, W s, 4096) else ((-1000000 : Int), (0 : Nat), (0 : Nat))) = (if s &&& mst (n - k) = mst (n - k) then ((cT a us mst L n k s).1, (cT a us mst L n k s).2.1, 2 ^ 12) else (-1000000, 0, 0)) := by
    by_cases c : s &&& mst (n - k) = mst (n - k)
    · rw [if_pos c, if_pos c, (h0 c).1, (h0 c).2]
    · rw [if_neg c, if_neg c]
  rw [eb]
  refine fo_congr sz 0 _ (fun i r _ hi => ?_)
  obtain ⟨g1, g2⟩ := hl.1 i (by omega)
  unfold st3
  dsimp only
  by_cases c : ¬ s.testBit (g i) = true ∧ (s ||| 2 ^ g i) &&& mst (n - k) = mst (n - k)
  · obtain ⟨e1, e2⟩ := h1 (g i) g1 g2 c.1 c.2
    have n1 : ¬ ¬ (¬ s.testBit (g i) = true ∧ (s ||| 2 ^ g i) &&& mst (n - k) = mst (n - k)) := fun z => z c
    have n2 : ¬ ¬ (us (g i) (n - (k + 1)) = true ∧ ¬ s.testBit (g i) = true ∧ (s ||| 2 ^ g i) &&& mst (n - k) = mst (n - k)) := fun z => z ⟨g2, c⟩
    rw [if_neg n1, if_neg n2]
    simp only [e1, e2]
  · have n2 : ¬ (us (g i) (n - (k + 1)) = true ∧ ¬ s.testBit (g i) = true ∧ (s ||| 2 ^ g i) &&& mst (n - k) = mst (n - k)) := fun z => c z.2
    rw [if_pos c, if_pos n2]
