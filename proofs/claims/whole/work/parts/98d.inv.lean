/-! what holds between calls -/
def bkOk (F : Nat → Int32) (b : Nat) : Prop := markV (F (12 * b)) (F (12 * b + 1)) = true ∧ vIn 0 199 (F (12 * b + 2)) = true ∧ vIn 1 30 (F (12 * b + 3)) = true ∧ vIn 1 40 (F (12 * b + 4)) = true ∧ vIn 0 2 (F (12 * b + 5)) = true ∧ vIn 0 40 (F (12 * b + 6)) = true ∧ vIn 0 9 (F (12 * b + 7)) = true ∧ vIn 0 9 (F (12 * b + 8)) = true ∧ vIn 0 999 (F (12 * b + 9)) = true ∧ vIn 0 7 (F (12 * b + 10)) = true ∧ vIn 0 11 (F (12 * b + 11)) = true
/-- counts -/
def hrN (I M : Nat → Int32) (n nT nL nS : Nat) : Prop := (I 13 = n3 n ∧ n ≤ 40 ∧ M 480 = n3 n) ∧ (I 14 = n3 nT ∧ nT ≤ 8 ∧ M 481 = n3 nT) ∧ (I 15 = n3 nL ∧ nL ≤ 12 ∧ M 482 = n3 nL) ∧ (I 16 = n3 nS ∧ nS ≤ 9 ∧ M 483 = n3 nS)
/-- the kept history -/
def hrK (I M : Nat → Int32) (nT : Nat) : Prop := (I 17 = -n3 1 ∧ M 484 = -n3 1) ∨ ∃ fi sc y, fi < nT ∧ sc < nT ∧ y ≤ 200 ∧ I 17 = n3 fi ∧ I 18 = n3 sc ∧ I 19 = n3 y ∧ M 484 = n3 fi ∧ M 485 = n3 sc ∧ M 486 = n3 y
def hrF (F M : Nat → Int32) (n : Nat) : Prop := (∀ i, i < 12 * n → M i = F i) ∧ (∀ i, 12 * n ≤ i → i < 480 → F i = n3 0) ∧ ∀ b, b < n → bkOk F b
def hrS (SD WI HI M : Nat → Int32) : Prop := (∀ b, b < 9 → M (490 + b) = SD b ∧ vIn 0 2 (SD b) = true) ∧ ∀ x, x < 54 → M (500 + 2 * x) = WI x ∧ M (500 + 2 * x + 1) = HI x ∧ vIn 1 400 (WI x) = true ∧ vIn 1 60 (HI x) = true
def hrH (AL LO CO M : Nat → Int32) : Prop := ∀ x, x < 12 → ∃ a l c, AL x = n3 a ∧ LO x = n3 l ∧ CO x = n3 c ∧ M (610 + 3 * x) = n3 a ∧ M (610 + 3 * x + 1) = n3 l ∧ M (610 + 3 * x + 2) = n3 c ∧ a ≤ 5000 ∧ l ≤ a ∧ 1 ≤ c ∧ c ≤ 100
def hrL (G LI M : Nat → Int32) (nL : Nat) : Prop := (∀ l, l < nL → M (650 + 6 * l) = G (12 * l + 9) ∧ M (650 + 6 * l + 1) = G (12 * l + 10) ∧ M (650 + 6 * l + 2) = G (12 * l + 3) ∧ M (650 + 6 * l + 3) = G (12 * l) ∧ M (650 + 6 * l + 4) = G (12 * l + 1) ∧ M (650 + 6 * l + 5) = LI l ∧ okLine (G (12 * l + 9)) (G (12 * l + 10)) (G (12 * l + 3)) (G (12 * l)) (G (12 * l + 1)) = true ∧ vIn 0 3 (LI l) = true) ∧ ∀ l, nL ≤ l → l < 12 → LI l = n3 0
def hrZ (Z M : Nat → Int32) (nS n : Nat) : Prop := (∀ i, i < nS → ∃ z, z < n ∧ Z i = n3 z ∧ M (725 + i) = n3 z) ∧ ∀ i j, i < j → j < nS → Z i ≠ Z j
def hrB (FR TO M : Nat → Int32) : Prop := ∀ s, s < 10 → M (735 + 2 * s) = FR s ∧ M (735 + 2 * s + 1) = TO s
/-- holdings of the class (I numbers, R rows) and of the reference (M) are alike -/
def HR (I : Nat → Int32) (R : Nat → Nat → Int32) (M : Nat → Int32) (n nT nL nS : Nat) : Prop := hrN I M n nT nL nS ∧ hrK I M nT ∧ hrF (R 0) M n ∧ hrS (R 1) (R 2) (R 3) M ∧ hrH (R 10) (R 11) (R 12) M ∧ hrL (R 5) (R 6) M nL ∧ hrZ (R 9) M nS n ∧ hrB (R 7) (R 8) M
theorem hrN.cg {I I' M M' : Nat → Int32} {n nT nL nS : Nat} (h : hrN I M n nT nL nS) (eI : ∀ j, 13 ≤ j → j < 20 → I' j = I j) (eM : ∀ x, x < 760 → M' x = M x) : hrN I' M' n nT nL nS := by
  unfold hrN
  rw [eI 13 (by omega) (by omega), eI 14 (by omega) (by omega), eI 15 (by omega) (by omega), eI 16 (by omega) (by omega), eM 480 (by omega), eM 481 (by omega), eM 482 (by omega), eM 483 (by omega)]
  exact h
theorem hrK.cg {I I' M M' : Nat → Int32} {nT : Nat} (h : hrK I M nT) (eI : ∀ j, 13 ≤ j → j < 20 → I' j = I j) (eM : ∀ x, x < 760 → M' x = M x) : hrK I' M' nT := by
  unfold hrK
  rw [eI 17 (by omega) (by omega), eI 18 (by omega) (by omega), eI 19 (by omega) (by omega), eM 484 (by omega), eM 485 (by omega), eM 486 (by omega)]
  exact h
theorem bkOk.cg {F F' : Nat → Int32} {b : Nat} (h : bkOk F b) (e : ∀ i, 12 * b ≤ i → i < 12 * b + 12 → F' i = F i) : bkOk F' b := by
  unfold bkOk
  rw [e (12 * b) (by omega) (by omega), e (12 * b + 1) (by omega) (by omega), e (12 * b + 2) (by omega) (by omega), e (12 * b + 3) (by omega) (by omega), e (12 * b + 4) (by omega) (by omega), e (12 * b + 5) (by omega) (by omega), e (12 * b + 6) (by omega) (by omega), e (12 * b + 7) (by omega) (by omega), e (12 * b + 8) (by omega) (by omega), e (12 * b + 9) (by omega) (by omega), e (12 * b + 10) (by omega) (by omega), e (12 * b + 11) (by omega) (by omega)]
  exact h
theorem HR.cg {I I' : Nat → Int32} {R R' : Nat → Nat → Int32} {M M' : Nat → Int32} {n nT nL nS : Nat} (h : HR I R M n nT nL nS) (eI : ∀ j, 13 ≤ j → j < 20 → I' j = I j) (eR : ∀ i x, i < 13 → i ≠ 4 → x < hoL i → R' i x = R i x) (eM : ∀ x, x < 760 → M' x = M x) : HR I' R' M' n nT nL nS := by
  obtain ⟨h1, h2, h3, h4, h5, h6, h7, h8⟩ := h
  have n40 := h1.1.2.1
  have n12 := h1.2.2.1.2.1
  have n9 := h1.2.2.2.2.1
  refine ⟨h1.cg eI eM, h2.cg eI eM, ⟨fun i hi => ?_, fun i g1 g2 => ?_, fun b hb => (h3.2.2 b hb).cg (fun i g1 g2 => eR 0 i (by omega) (by omega) (by show i < 480; omega))⟩, ⟨fun b hb => ?_, fun x hx => ?_⟩, fun x hx => ?_, ⟨fun l hl => ?_, fun l g1 g2 => ?_⟩, ⟨fun i hi => ?_, fun i j g1 g2 => ?_⟩, fun s hs => ?_⟩
  · rw [eM i (by omega), eR 0 i (by omega) (by omega) (by show i < 480; omega)]
    exact h3.1 i hi
  · rw [eR 0 i (by omega) (by omega) (by show i < 480; omega)]
    exact h3.2.1 i g1 g2
  · rw [eM _ (by omega), eR 1 b (by omega) (by omega) (by show b < 9; omega)]
    exact h4.1 b hb
  · rw [eM _ (by omega), eM _ (by omega), eR 2 x (by omega) (by omega) (by show x < 54; omega), eR 3 x (by omega) (by omega) (by show x < 54; omega)]
    exact h4.2 x hx
  · rw [eM _ (by omega), eM _ (by omega), eM _ (by omega), eR 10 x (by omega) (by omega) (by show x < 12; omega), eR 11 x (by omega) (by omega) (by show x < 12; omega), eR 12 x (by omega) (by omega) (by show x < 12; omega)]
    exact h5 x hx
  · rw [eM _ (by omega), eM _ (by omega), eM _ (by omega), eM _ (by omega), eM _ (by omega), eM _ (by omega), eR 5 _ (by omega) (by omega) (by show 12 * l + 9 < 144; omega), eR 5 _ (by omega) (by omega) (by show 12 * l + 10 < 144; omega), eR 5 _ (by omega) (by omega) (by show 12 * l + 3 < 144; omega), eR 5 _ (by omega) (by omega) (by show 12 * l < 144; omega), eR 5 _ (by omega) (by omega) (by show 12 * l + 1 < 144; omega), eR 6 l (by omega) (by omega) (by show l < 12; omega)]
    exact h6.1 l hl
  · rw [eR 6 l (by omega) (by omega) (by show l < 12; omega)]
    exact h6.2 l g1 g2
  · rw [eM _ (by omega), eR 9 i (by omega) (by omega) (by show i < 9; omega)]
    exact h7.1 i hi
  · rw [eR 9 i (by omega) (by omega) (by show i < 9; omega), eR 9 j (by omega) (by omega) (by show j < 9; omega)]
    exact h7.2 i j g1 g2
  · rw [eM _ (by omega), eM _ (by omega), eR 7 s (by omega) (by omega) (by show s < 10; omega), eR 8 s (by omega) (by omega) (by show s < 10; omega)]
    exact h8 s hs
/-- a cell of a text, nobody else's -/
def tOwn (κ : hk_T) (k : Nat) : Prop := 101 ≤ k ∧ k < hk_n κ ∧ k ∉ pL κ ∧ ∀ i a, i < 2 → hk_Q κ 15 i = some a → ¬ (a ≤ k ∧ k ≤ a + 13)
def tOne (κ : hk_T) (q : Nat) (τ : tauT) : Prop := ∃ c h b, cTb (hk_D κ) q c h b τ ∧ tOwn κ q ∧ tOwn κ c ∧ tOwn κ h ∧ tOwn κ b
def tTab (κ : hk_T) (Q : Nat → Option Nat) (M : Nat → Int32) (nT : Nat) (T : Nat → tauT) : Prop := (∀ t, t < nT → ∃ q, Q t = some q ∧ tOne κ q (T t) ∧ tauOk (T t) ∧ rTx (fun i => M (760 + 900 * t + i)) (T t)) ∧ ∀ t q, t < 8 → Q t = some q → ∃ τ, tOne κ q τ
def imOk (κ : hk_T) (i : Nat) : Prop := (hk_Q κ 15 i = none ∧ hk_A κ 73 i = n3 0) ∨ ∃ a I R Q n nT nL nS T, hk_Q κ 15 i = some a ∧ hk_A κ 73 i = n3 1 ∧ 101 ≤ a ∧ a + 13 < hk_n κ ∧ (∀ k, k ∈ pL κ → ¬ (a ≤ k ∧ k ≤ a + 13)) ∧ imgC (hk_D κ) a I R Q ∧ HR I R (fun x => hk_A κ 72 (7960 * i + x)) n nT nL nS ∧ tTab κ Q (fun x => hk_A κ 72 (7960 * i + x)) nT T
def imDj (κ : hk_T) : Prop := ∀ a b, hk_Q κ 15 0 = some a → hk_Q κ 15 1 = some b → a + 13 < b ∨ b + 13 < a
def scI (κ : hk_T) : Prop := hk_I κ 0 10 = hk_I κ 69 1 ∧ hk_I κ 0 11 = hk_I κ 69 6 ∧ hk_I κ 0 12 = hk_I κ 69 13 ∧ ∀ k, k < 7 → hk_A κ 68 k = hk_A κ 70 k
def taI (κ : hk_T) : Prop := ∃ B len, cTape κ B len ∧ rTape κ B len
def woI (κ : hk_T) : Prop := (hk_I κ 66 1 = n3 0 ∧ hk_I κ 69 56 = -n3 1 ∧ ∀ b, b < 40 → hk_A κ 67 b = -n3 1) ∨ ∃ d, d ≤ 40 ∧ hk_I κ 66 1 = n3 1 ∧ hk_I κ 69 56 = n3 d ∧ (∀ b, b < d → hk_A κ 67 b = hk_A κ 100 b) ∧ ∀ b, d ≤ b → b < 40 → hk_A κ 67 b = -n3 1
def rfI (κ : hk_T) (c : Nat) : Prop := rWd κ ∧ ∃ u, u ≤ 13000 * c ∧ hk_I κ 69 38 = n3 u ∧ ∀ s, s < 5400 → ∃ k, k ≤ u ∧ hk_A κ 86 s = n3 k
def dmF (F : Nat → Int32) (b : Nat) : Nat := (F (12 * b + 8)).toInt.toNat % 10
def cmF (F : Nat → Int32) (b : Nat) : Nat := (F (12 * b + 2)).toInt.toNat % 200
def zF (Z : Nat → Int32) (i : Nat) : Nat := (Z i).toInt.toNat
def rF (κ : hk_T) (T : Nat → tauT) (t b : Nat) : Option Nat := rsO (hk_A κ 3) (hk_A κ 5) (hk_A κ 2) b (seatX (T t) (fx (hk_A κ 2) b))
def caI (κ : hk_T) (n nT nL nS : Nat) (T : Nat → tauT) : Prop := cA κ (hk_A κ 2) T nT n ∧ (∀ s, s < 5346 → hk_A κ 27 s = n3 0) ∧ (hk_I κ 23 9 = n3 0 ∨ ∃ fi sc y, (hk_I κ 1 17 = n3 fi ∧ fi < 8 ∧ sc < 8 ∧ y ≤ 200) ∧ hk_I κ 1 18 = n3 sc ∧ hk_I κ 1 19 = n3 y ∧ kRows κ n fi sc y T (hk_A κ 2) (hk_A κ 3) (hk_A κ 5)) ∧ (hk_I κ 23 10 = n3 0 ∨ hk_I κ 23 10 = n3 1 ∧ bR κ (bestF (rF κ T) (cmF (hk_A κ 2)) n nT)) ∧ (hk_I κ 40 12 = n3 0 ∨ hk_I κ 40 12 = n3 1 ∧ mOut κ (agC κ) n nL) ∧ (hk_I κ 61 4 = n3 0 ∨ hk_I κ 61 4 = n3 1 ∧ layC κ nS (zF (hk_A κ 11)) (dmF (hk_A κ 2)) (hk_A κ 2))
def rzP (κ : hk_T) (z : Nat) : Prop := roomZ κ z ∧ ∀ k, k ∈ pL κ → k < hk_n κ
def roI (κ : hk_T) (c : Nat) : Prop := 101 ≤ hk_n κ ∧ hk_n κ ≤ 101 + 20 * c ∧ ∃ z, rzP κ z ∧ hk_s κ ≤ 400000 + 86 * z + 900 * c
/-- all of it: L how long the script, c how many calls -/
def Inv (L : Nat) (xs : Nat → Int32) (c : Nat) (κ : hk_T) : Prop := ∃ n nT nL nS T, hk_x κ = ra_ex0 L xs ∧ roI κ c ∧ HR (hk_I κ 1) (fun i => hk_A κ (2 + i)) (hk_A κ 71) n nT nL nS ∧ tTab κ (hk_Q κ 6) (hk_A κ 71) nT T ∧ (imOk κ 0 ∧ imOk κ 1 ∧ imDj κ) ∧ scI κ ∧ taI κ ∧ woI κ ∧ rfI κ c ∧ caI κ n nT nL nS T
/-! what changes nothing of it -/
abbrev keyR : List Nat := [2, 3, 4, 5, 6, 7, 8, 9, 10, 11, 12, 13, 14, 17, 24, 25, 27, 29, 35, 36, 37, 59, 60, 65, 67, 68, 70, 71, 72, 73, 74, 80, 81, 86, 100]
abbrev keyF : List (Nat × Nat) := [(0, 10), (0, 11), (0, 12), (16, 1), (23, 9), (23, 10), (34, 3), (40, 12), (40, 15), (40, 16), (40, 17), (61, 4), (61, 6), (66, 1), (69, 1), (69, 6), (69, 8), (69, 13), (69, 38), (69, 56)]
def sameK (κ κ' : hk_T) : Prop := (∀ k, k ∈ keyR → hk_A κ' k = hk_A κ k) ∧ (∀ k, k ∈ keyR → hk_B κ' k = hk_B κ k) ∧ (∀ k j, (k, j) ∈ keyF → hk_I κ' k j = hk_I κ k j) ∧ hk_I κ' 1 = hk_I κ 1 ∧ hk_Q κ' = hk_Q κ ∧ hk_P κ' = hk_P κ ∧ hk_D κ' = hk_D κ ∧ hk_n κ' = hk_n κ ∧ hk_s κ' = hk_s κ ∧ hk_x κ' = hk_x κ
theorem same.key {ks : List Nat} {fs : List (Nat × Nat)} {κ κ' : hk_T} (h : same ks fs κ κ') (h1 : ∀ k ∈ ks, k ∉ keyR) (h2 : ∀ q ∈ fs, q ∉ keyF ∧ q.1 ≠ 1) : sameK κ κ' := by
  obtain ⟨a1, a2, a3, a4, a5, a6, a7, a8, a9⟩ := h
  exact ⟨fun k hk => a1 k (fun z => h1 k z hk), fun k hk => a2 k (fun z => h1 k z hk), fun k j hk => a3 k j (fun z => (h2 _ z).1 hk), funext fun j => a3 1 j (fun z => (h2 _ z).2 rfl), a4, a5, a6, a7, a8, a9⟩
theorem sameK.pL {κ κ' : hk_T} (h : sameK κ κ') : pL κ' = pL κ := by
  show [hk_P κ' 8, hk_P κ' 9, hk_P κ' 10, hk_P κ' 11] = [hk_P κ 8, hk_P κ 9, hk_P κ 10, hk_P κ 11]
  rw [h.2.2.2.2.2.1]
