/-! what a text tells of a book: by its head and the book's facts -/
abbrev tauT : Type := Nat → (Nat → Int32) → Option Int
def fx (F : Nat → Int32) (b : Nat) (f : Nat) : Int32 := if f < 12 then F (12 * b + f) else n3 0
theorem fx_0 (F : Nat → Int32) (b : Nat) : fx F b 0 = F (12 * b) := rfl
theorem fx_congr {F G : Nat → Int32} {b : Nat} (h : ∀ f, f < 12 → F (12 * b + f) = G (12 * b + f)) : fx F b = fx G b := by
  funext f
  unfold fx
  split
  · rename_i c; exact h f c
  · rfl
def factsOk (X : Nat → Int32) : Prop := ∀ f, f < 12 → vIn (-1) 1000 (X f) = true
def tauOk (τ : tauT) : Prop := ∀ h X v, τ h X = some v → -1000000000 ≤ v ∧ v ≤ 1000000000
def tellI : Option Int → Int32
  | none => -n3 2000000000
  | some v => Int32.ofInt v
/-- a scheme of the class at q tells so -/
def cTx (D : Nat → ra_C) (q : Nat) (τ : tauT) : Prop := ∃ c h b, 101 ≤ q ∧ 101 ≤ c ∧ 101 ≤ h ∧ 101 ≤ b ∧ ra_isOb ((D, 0, 0, fun _ => (0, fun _ => 0)) : ra_H) q 4 = true ∧ ∀ (N : Nat) (κ : hk_T) (bk hd : Nat), 100000 < N → bk < 40 → hd < 5 → factsOk (fx (hk_A κ 2) bk) → hk_D κ q = D q → hk_D κ c = D c → hk_D κ h = D h → hk_D κ b = D b →
  ∃ κ', fX0_told N 21 q (n3 hd) 2 (n3 (12 * bk)) (hp κ) = some (tellI (τ hd (fx (hk_A κ 2) bk)), hp κ') ∧ same [22] [] κ κ'
/-- a text of the reference, W its 900 numbers, tells so -/
def rTx (W : Nat → Int32) (τ : tauT) : Prop := ∀ (N : Nat) (κ : hk_T) (t bk hd : Nat), 100000 < N → t < 8 → bk < 40 → hd < 5 → factsOk (fx (hk_A κ 71) bk) → (∀ i, i < 900 → hk_A κ 71 (760 + 900 * t + i) = W i) →
  ∃ κ', fX12_ask N 69 (n3 t) (n3 bk) (n3 hd) (hp κ) = some (hp κ') ∧ same [82, 83] [(69, 27), (69, 30), (69, 33)] κ κ' ∧ hk_I κ' 69 33 = (if τ hd (fx (hk_A κ 71) bk) = none then n3 0 else n3 1) ∧ (hd < 4 → hk_J κ' 34 = Int64.ofInt ((τ hd (fx (hk_A κ 71) bk)).getD 0))
/-- the seat: bay, shelf, place as one number -/
def seatP (bay shelf place : Option Int) : Option Nat := match bay, place with
  | some b, some p => if (0 ≤ b ∧ b ≤ 8) ∧ (0 ≤ shelf.getD 0 ∧ shelf.getD 0 ≤ 5) ∧ 1 ≤ p ∧ p ≤ 99 then some ((b.toNat * 6 + (shelf.getD 0).toNat) * 99 + p.toNat - 1) else none
  | _, _ => none
def seatX (τ : tauT) (X : Nat → Int32) : Option Nat := if X 0 = -n3 1 then none else seatP (τ 0 X) (τ 1 X) (τ 2 X)
theorem seatP_lt {a b c : Option Int} {s : Nat} (h : seatP a b c = some s) : s < 5346 := by
  unfold seatP at h
  split at h
  · split at h
    · rename_i b p c
      have := Option.some.inj h
      omega
    · cases h
  · cases h
theorem seatX_lt {τ : tauT} {X : Nat → Int32} {s : Nat} (h : seatX τ X = some s) : s < 5346 := by
  unfold seatX at h
  split at h
  · cases h
  · exact seatP_lt h
def seatI : Option Nat → Int32
  | none => -n3 1
  | some s => n3 s
def seatR : Option Nat → Int32
  | none => -n3 1
  | some s => n3 (100 * (s / 99) + (s % 99 + 1))
theorem ofInt_n3 {v : Int} (h : 0 ≤ v) : Int32.ofInt v = n3 v.toNat := by
  show _ = Int32.ofNat v.toNat
  rw [← Int32.ofInt_eq_ofNat]
  congr 1
  omega
theorem toInt_ofI {v : Int} (h1 : -1000000000 ≤ v) (h2 : v ≤ 1000000000) : (Int32.ofInt v).toInt = v := Int32.toInt_ofInt_of_le (by omega) (by omega)
theorem ofInt_ne {v : Int} (h1 : -1000000000 ≤ v) (h2 : v ≤ 1000000000) : ¬ Int32.ofInt v = -n3 2000000000 := by
  rw [i_eq, toInt_ofI h1 h2, n3_ntoInt (by omega)]
  omega
section
variable (N : Nat) (κ : hk_T)
theorem c_seatNumber (a b c : Int32) (h : ra_H) : fX1_seatNumber N a b c h = some (if (vIn 0 8 a = true ∧ vIn 0 5 b = true) ∧ vIn 1 99 c = true then (a * n3 6 + b) * n3 99 + c - n3 1 else -n3 1, h) := by
  unfold fX1_seatNumber nX1_seatNumber_0 nX1_seatNumber_19
  simp (maxSteps := 400000) (disch := omega) only [n3_l, n3_add, n3_mul, n3_sub, n3_subn, n3_lt, n3_le, n3_eq, n3_eqn, n3_neq, n3_and, n3_or, n3_shl, n3_i, n3_cl, ↓hbd_0, ↓hbd_1, ↓hbd_2, hk_ob_0, hk_rd_0, hk_rd_1, hk_rd_2, hk_al_0, hk_al_1, h3r_0, h3r_1, hk_wi_0, hk_wj_0, h3w_0, h3w_1, h3v_0, hk_kI, hk_kJ, hk_kA, hk_kB, A_eq, A_ne, A_row, B_eq, B_ne, B_row, I_eq, I_ne, J_eq, J_ne, Option.bind_some, Option.some.injEq, if_true, if_false, eq_self, true_or, or_true, true_and, and_true, false_or, or_false, not_true_eq_false, not_false_eq_true, Classical.not_not, nar_b0, nar_b1, rz_0, rz_1, rz_i, ite01, Nat.add_zero, Nat.zero_add, Nat.one_mul, mul12, reduceIte, ra_z0, Nat.reduceEqDiff, Nat.reduceLT, Nat.reduceLeDiff, Nat.reduceAdd, Nat.reduceMul, Nat.reduceSub, Nat.reduceDiv, Nat.reduceMod, Bool.false_eq_true, false_and, and_false, reduceCtorEq, c_isShelf, lt3, le3]
  by_cases h1 : vIn 0 8 a = true ∧ vIn 0 5 b = true
  · rw [if_neg (fun z => z h1)]
    by_cases h2 : vIn 1 99 c = true
    · have := vIn_iff.mp h2
      rw [if_neg (by omega), if_pos (by omega), if_pos ⟨h1, h2⟩]
    · have h3 : ¬ (1 ≤ c.toInt ∧ c.toInt ≤ 99) := fun z => h2 (vIn_iff.mpr z)
      have h4 : ¬ ((vIn 0 8 a = true ∧ vIn 0 5 b = true) ∧ vIn 1 99 c = true) := fun z => h2 z.2
      rw [if_neg h4]
      by_cases h5 : c.toInt < 1
      · rw [if_pos (by omega)]
      · rw [if_neg (by omega), if_neg (by omega)]
  · have h4 : ¬ ((vIn 0 8 a = true ∧ vIn 0 5 b = true) ∧ vIn 1 99 c = true) := fun z => h1 z.1
    rw [if_pos h1, if_neg h4]
/-- the number of a seat out of what is told -/
theorem seat_num {a b c : Option Int} (ha : ∀ v, a = some v → -1000000000 ≤ v ∧ v ≤ 1000000000) (hb : ∀ v, b = some v → -1000000000 ≤ v ∧ v ≤ 1000000000) (hc : ∀ v, c = some v → -1000000000 ≤ v ∧ v ≤ 1000000000) (h : ra_H) :
    fX1_seatNumber N (tellI a) (if tellI b = -n3 2000000000 then n3 0 else tellI b) (tellI c) h = some (seatI (seatP a b c), h) := by
  rw [c_seatNumber]
  have eb : (if tellI b = -n3 2000000000 then n3 0 else tellI b) = Int32.ofInt (b.getD 0) := by
    cases b with
    | none => rw [if_pos (show tellI none = -n3 2000000000 from rfl)]; rfl
    | some v => have := hb v rfl; rw [if_neg (show ¬ tellI (some v) = -n3 2000000000 from ofInt_ne this.1 this.2)]; rfl
  have hb' : -1000000000 ≤ b.getD 0 ∧ b.getD 0 ≤ 1000000000 := by
    cases b with
    | none => exact ⟨by decide, by decide⟩
    | some v => exact hb v rfl
  rw [eb]
  have mm : (-n3 2000000000).toInt = -2000000000 := n3_ntoInt (by omega)
  cases a with
  | none =>
    have : ¬ ((vIn 0 8 (tellI none) = true ∧ vIn 0 5 (Int32.ofInt (b.getD 0)) = true) ∧ vIn 1 99 (tellI c) = true) := by
      rintro ⟨⟨z, -⟩, -⟩
      have := vIn_iff.mp z
      show False
      have e : (tellI none).toInt = -2000000000 := mm
      omega
    rw [if_neg this]; rfl
  | some p =>
    cases c with
    | none =>
      have : ¬ ((vIn 0 8 (tellI (some p)) = true ∧ vIn 0 5 (Int32.ofInt (b.getD 0)) = true) ∧ vIn 1 99 (tellI none) = true) := by
        rintro ⟨-, z⟩
        have := vIn_iff.mp z
        have e : (tellI none).toInt = -2000000000 := mm
        omega
      rw [if_neg this]; rfl
    | some r =>
      have hp' := ha p rfl
      have hr := hc r rfl
      show some ((if (vIn 0 8 (Int32.ofInt p) = true ∧ vIn 0 5 (Int32.ofInt (b.getD 0)) = true) ∧ vIn 1 99 (Int32.ofInt r) = true then _ else _), h) = _
      simp only [vIn_iff, toInt_ofI hp'.1 hp'.2, toInt_ofI hb'.1 hb'.2, toInt_ofI hr.1 hr.2]
      unfold seatP
      dsimp only
      by_cases c : (0 ≤ p ∧ p ≤ 8) ∧ (0 ≤ b.getD 0 ∧ b.getD 0 ≤ 5) ∧ 1 ≤ r ∧ r ≤ 99
      · have c' : ((0 ≤ p ∧ p ≤ 8) ∧ 0 ≤ b.getD 0 ∧ b.getD 0 ≤ 5) ∧ 1 ≤ r ∧ r ≤ 99 := ⟨⟨c.1, c.2.1⟩, c.2.2⟩
        rw [if_pos c', if_pos c]
        show some ((Int32.ofInt p * n3 6 + Int32.ofInt (b.getD 0)) * n3 99 + Int32.ofInt r - n3 1, h) = some (n3 _, h)
        rw [ofInt_n3 c.1.1, ofInt_n3 c.2.1.1, ofInt_n3 (show 0 ≤ r by omega), n3_mul, n3_add, n3_mul, n3_add, n3_sub (by omega)]
      · have c' : ¬ (((0 ≤ p ∧ p ≤ 8) ∧ 0 ≤ b.getD 0 ∧ b.getD 0 ≤ 5) ∧ 1 ≤ r ∧ r ≤ 99) := fun z => c ⟨z.1.1, z.1.2, z.2⟩
        rw [if_neg c', if_neg c]
        rfl
theorem c_seatOf {t b q : Nat} {τ : tauT} (ht : t < 8) (hb : b < 40) (hN : 100000 < N) (hq : hk_Q κ 6 t = some q) (hc : cTx (hk_D κ) q τ) (hτ : tauOk τ) (hX : factsOk (fx (hk_A κ 2) b)) (hA : ¬ hk_A κ 25 (t * 40 + b) = n3 0 → hk_A κ 24 (t * 40 + b) = seatI (seatX τ (fx (hk_A κ 2) b))) :
    ∃ κ', fX1_seatOf N 23 (n3 t) (n3 b) (hp κ) = some (seatI (seatX τ (fx (hk_A κ 2) b)), hp κ') ∧ same [22, 24, 25] [] κ κ' ∧ (∀ i, i ≠ t * 40 + b → hk_A κ' 24 i = hk_A κ 24 i ∧ hk_A κ' 25 i = hk_A κ 25 i) ∧ hk_A κ' 24 (t * 40 + b) = seatI (seatX τ (fx (hk_A κ 2) b)) := by
  by_cases hz : hk_A κ 25 (t * 40 + b) = n3 0
  · unfold fX1_seatOf nX1_seatOf_0 nX1_seatOf_147
    simp (maxSteps := 400000) (disch := omega) only [n3_l, n3_add, n3_mul, n3_sub, n3_subn, n3_lt, n3_le, n3_eq, n3_eqn, n3_neq, n3_and, n3_or, n3_shl, n3_i, n3_cl, ↓hbd_0, ↓hbd_1, ↓hbd_2, hk_ob_0, hk_rd_0, hk_rd_1, hk_rd_2, hk_al_0, hk_al_1, h3r_0, h3r_1, hk_wi_0, hk_wj_0, h3w_0, h3w_1, h3v_0, hk_kI, hk_kJ, hk_kA, hk_kB, A_eq, A_ne, A_row, B_eq, B_ne, B_row, I_eq, I_ne, J_eq, J_ne, Option.bind_some, Option.some.injEq, if_true, if_false, eq_self, true_or, or_true, true_and, and_true, false_or, or_false, not_true_eq_false, not_false_eq_true, Classical.not_not, nar_b0, nar_b1, rz_0, rz_1, rz_i, ite01, Nat.add_zero, Nat.zero_add, Nat.one_mul, mul12, reduceIte, ra_z0, Nat.reduceEqDiff, Nat.reduceLT, Nat.reduceLeDiff, Nat.reduceAdd, Nat.reduceMul, Nat.reduceSub, Nat.reduceDiv, Nat.reduceMod, Bool.false_eq_true, false_and, and_false, reduceCtorEq, hz]
    have s0 : same [22, 24, 25] [] κ (hk_wA (hk_wA κ 25 (t * 40 + b) (n3 1)) 24 (t * 40 + b) (-n3 1)) := ((same.refl _ _ κ).wA (by decide)).wA (by decide)
    by_cases hm : hk_A κ 2 (12 * b) = -n3 1
    · have e : seatX τ (fx (hk_A κ 2) b) = none := by unfold seatX; rw [fx_0, if_pos hm]
      refine ⟨hk_wA (hk_wA κ 25 (t * 40 + b) (n3 1)) 24 (t * 40 + b) (-n3 1), ?_, s0, ?_, ?_⟩
      · simp (maxSteps := 400000) (disch := omega) only [n3_l, n3_add, n3_mul, n3_sub, n3_subn, n3_lt, n3_le, n3_eq, n3_eqn, n3_neq, n3_and, n3_or, n3_shl, n3_i, n3_cl, ↓hbd_0, ↓hbd_1, ↓hbd_2, hk_ob_0, hk_rd_0, hk_rd_1, hk_rd_2, hk_al_0, hk_al_1, h3r_0, h3r_1, hk_wi_0, hk_wj_0, h3w_0, h3w_1, h3v_0, hk_kI, hk_kJ, hk_kA, hk_kB, A_eq, A_ne, A_row, B_eq, B_ne, B_row, I_eq, I_ne, J_eq, J_ne, Option.bind_some, Option.some.injEq, if_true, if_false, eq_self, true_or, or_true, true_and, and_true, false_or, or_false, not_true_eq_false, not_false_eq_true, Classical.not_not, nar_b0, nar_b1, rz_0, rz_1, rz_i, ite01, Nat.add_zero, Nat.zero_add, Nat.one_mul, mul12, reduceIte, ra_z0, Nat.reduceEqDiff, Nat.reduceLT, Nat.reduceLeDiff, Nat.reduceAdd, Nat.reduceMul, Nat.reduceSub, Nat.reduceDiv, Nat.reduceMod, Bool.false_eq_true, false_and, and_false, reduceCtorEq, h_isMarked, hm, ne_eq, e]
        rfl
      · intro i hi; constructor <;> simp (maxSteps := 400000) (disch := omega) only [n3_l, n3_add, n3_mul, n3_sub, n3_subn, n3_lt, n3_le, n3_eq, n3_eqn, n3_neq, n3_and, n3_or, n3_shl, n3_i, n3_cl, ↓hbd_0, ↓hbd_1, ↓hbd_2, hk_ob_0, hk_rd_0, hk_rd_1, hk_rd_2, hk_al_0, hk_al_1, h3r_0, h3r_1, hk_wi_0, hk_wj_0, h3w_0, h3w_1, h3v_0, hk_kI, hk_kJ, hk_kA, hk_kB, A_eq, A_ne, A_row, B_eq, B_ne, B_row, I_eq, I_ne, J_eq, J_ne, Option.bind_some, Option.some.injEq, if_true, if_false, eq_self, true_or, or_true, true_and, and_true, false_or, or_false, not_true_eq_false, not_false_eq_true, Classical.not_not, nar_b0, nar_b1, rz_0, rz_1, rz_i, ite01, Nat.add_zero, Nat.zero_add, Nat.one_mul, mul12, reduceIte, ra_z0, Nat.reduceEqDiff, Nat.reduceLT, Nat.reduceLeDiff, Nat.reduceAdd, Nat.reduceMul, Nat.reduceSub, Nat.reduceDiv, Nat.reduceMod, Bool.false_eq_true, false_and, and_false, reduceCtorEq]
      · simp (maxSteps := 400000) (disch := omega) only [n3_l, n3_add, n3_mul, n3_sub, n3_subn, n3_lt, n3_le, n3_eq, n3_eqn, n3_neq, n3_and, n3_or, n3_shl, n3_i, n3_cl, ↓hbd_0, ↓hbd_1, ↓hbd_2, hk_ob_0, hk_rd_0, hk_rd_1, hk_rd_2, hk_al_0, hk_al_1, h3r_0, h3r_1, hk_wi_0, hk_wj_0, h3w_0, h3w_1, h3v_0, hk_kI, hk_kJ, hk_kA, hk_kB, A_eq, A_ne, A_row, B_eq, B_ne, B_row, I_eq, I_ne, J_eq, J_ne, Option.bind_some, Option.some.injEq, if_true, if_false, eq_self, true_or, or_true, true_and, and_true, false_or, or_false, not_true_eq_false, not_false_eq_true, Classical.not_not, nar_b0, nar_b1, rz_0, rz_1, rz_i, ite01, Nat.add_zero, Nat.zero_add, Nat.one_mul, mul12, reduceIte, ra_z0, Nat.reduceEqDiff, Nat.reduceLT, Nat.reduceLeDiff, Nat.reduceAdd, Nat.reduceMul, Nat.reduceSub, Nat.reduceDiv, Nat.reduceMod, Bool.false_eq_true, false_and, and_false, reduceCtorEq, e]; rfl
    · obtain ⟨cc, ch, cb, q1, q2, q3, q4, -, con⟩ := hc
      have e2 : hk_A (hk_wA (hk_wA κ 25 (t * 40 + b) (n3 1)) 24 (t * 40 + b) (-n3 1)) 2 = hk_A κ 2 := by simp (maxSteps := 400000) (disch := omega) only [n3_l, n3_add, n3_mul, n3_sub, n3_subn, n3_lt, n3_le, n3_eq, n3_eqn, n3_neq, n3_and, n3_or, n3_shl, n3_i, n3_cl, ↓hbd_0, ↓hbd_1, ↓hbd_2, hk_ob_0, hk_rd_0, hk_rd_1, hk_rd_2, hk_al_0, hk_al_1, h3r_0, h3r_1, hk_wi_0, hk_wj_0, h3w_0, h3w_1, h3v_0, hk_kI, hk_kJ, hk_kA, hk_kB, A_eq, A_ne, A_row, B_eq, B_ne, B_row, I_eq, I_ne, J_eq, J_ne, Option.bind_some, Option.some.injEq, if_true, if_false, eq_self, true_or, or_true, true_and, and_true, false_or, or_false, not_true_eq_false, not_false_eq_true, Classical.not_not, nar_b0, nar_b1, rz_0, rz_1, rz_i, ite01, Nat.add_zero, Nat.zero_add, Nat.one_mul, mul12, reduceIte, ra_z0, Nat.reduceEqDiff, Nat.reduceLT, Nat.reduceLeDiff, Nat.reduceAdd, Nat.reduceMul, Nat.reduceSub, Nat.reduceDiv, Nat.reduceMod, Bool.false_eq_true, false_and, and_false, reduceCtorEq]
      obtain ⟨k1, e1, s1⟩ := con N (hk_wA (hk_wA κ 25 (t * 40 + b) (n3 1)) 24 (t * 40 + b) (-n3 1)) b 0 hN hb (by omega) (by rw [e2]; exact hX) (by simp (maxSteps := 400000) (disch := omega) only [n3_l, n3_add, n3_mul, n3_sub, n3_subn, n3_lt, n3_le, n3_eq, n3_eqn, n3_neq, n3_and, n3_or, n3_shl, n3_i, n3_cl, ↓hbd_0, ↓hbd_1, ↓hbd_2, hk_ob_0, hk_rd_0, hk_rd_1, hk_rd_2, hk_al_0, hk_al_1, h3r_0, h3r_1, hk_wi_0, hk_wj_0, h3w_0, h3w_1, h3v_0, hk_kI, hk_kJ, hk_kA, hk_kB, A_eq, A_ne, A_row, B_eq, B_ne, B_row, I_eq, I_ne, J_eq, J_ne, Option.bind_some, Option.some.injEq, if_true, if_false, eq_self, true_or, or_true, true_and, and_true, false_or, or_false, not_true_eq_false, not_false_eq_true, Classical.not_not, nar_b0, nar_b1, rz_0, rz_1, rz_i, ite01, Nat.add_zero, Nat.zero_add, Nat.one_mul, mul12, reduceIte, ra_z0, Nat.reduceEqDiff, Nat.reduceLT, Nat.reduceLeDiff, Nat.reduceAdd, Nat.reduceMul, Nat.reduceSub, Nat.reduceDiv, Nat.reduceMod, Bool.false_eq_true, false_and, and_false, reduceCtorEq]) (by simp (maxSteps := 400000) (disch := omega) only [n3_l, n3_add, n3_mul, n3_sub, n3_subn, n3_lt, n3_le, n3_eq, n3_eqn, n3_neq, n3_and, n3_or, n3_shl, n3_i, n3_cl, ↓hbd_0, ↓hbd_1, ↓hbd_2, hk_ob_0, hk_rd_0, hk_rd_1, hk_rd_2, hk_al_0, hk_al_1, h3r_0, h3r_1, hk_wi_0, hk_wj_0, h3w_0, h3w_1, h3v_0, hk_kI, hk_kJ, hk_kA, hk_kB, A_eq, A_ne, A_row, B_eq, B_ne, B_row, I_eq, I_ne, J_eq, J_ne, Option.bind_some, Option.some.injEq, if_true, if_false, eq_self, true_or, or_true, true_and, and_true, false_or, or_false, not_true_eq_false, not_false_eq_true, Classical.not_not, nar_b0, nar_b1, rz_0, rz_1, rz_i, ite01, Nat.add_zero, Nat.zero_add, Nat.one_mul, mul12, reduceIte, ra_z0, Nat.reduceEqDiff, Nat.reduceLT, Nat.reduceLeDiff, Nat.reduceAdd, Nat.reduceMul, Nat.reduceSub, Nat.reduceDiv, Nat.reduceMod, Bool.false_eq_true, false_and, and_false, reduceCtorEq]) (by simp (maxSteps := 400000) (disch := omega) only [n3_l, n3_add, n3_mul, n3_sub, n3_subn, n3_lt, n3_le, n3_eq, n3_eqn, n3_neq, n3_and, n3_or, n3_shl, n3_i, n3_cl, ↓hbd_0, ↓hbd_1, ↓hbd_2, hk_ob_0, hk_rd_0, hk_rd_1, hk_rd_2, hk_al_0, hk_al_1, h3r_0, h3r_1, hk_wi_0, hk_wj_0, h3w_0, h3w_1, h3v_0, hk_kI, hk_kJ, hk_kA, hk_kB, A_eq, A_ne, A_row, B_eq, B_ne, B_row, I_eq, I_ne, J_eq, J_ne, Option.bind_some, Option.some.injEq, if_true, if_false, eq_self, true_or, or_true, true_and, and_true, false_or, or_false, not_true_eq_false, not_false_eq_true, Classical.not_not, nar_b0, nar_b1, rz_0, rz_1, rz_i, ite01, Nat.add_zero, Nat.zero_add, Nat.one_mul, mul12, reduceIte, ra_z0, Nat.reduceEqDiff, Nat.reduceLT, Nat.reduceLeDiff, Nat.reduceAdd, Nat.reduceMul, Nat.reduceSub, Nat.reduceDiv, Nat.reduceMod, Bool.false_eq_true, false_and, and_false, reduceCtorEq]) (by simp (maxSteps := 400000) (disch := omega) only [n3_l, n3_add, n3_mul, n3_sub, n3_subn, n3_lt, n3_le, n3_eq, n3_eqn, n3_neq, n3_and, n3_or, n3_shl, n3_i, n3_cl, ↓hbd_0, ↓hbd_1, ↓hbd_2, hk_ob_0, hk_rd_0, hk_rd_1, hk_rd_2, hk_al_0, hk_al_1, h3r_0, h3r_1, hk_wi_0, hk_wj_0, h3w_0, h3w_1, h3v_0, hk_kI, hk_kJ, hk_kA, hk_kB, A_eq, A_ne, A_row, B_eq, B_ne, B_row, I_eq, I_ne, J_eq, J_ne, Option.bind_some, Option.some.injEq, if_true, if_false, eq_self, true_or, or_true, true_and, and_true, false_or, or_false, not_true_eq_false, not_false_eq_true, Classical.not_not, nar_b0, nar_b1, rz_0, rz_1, rz_i, ite01, Nat.add_zero, Nat.zero_add, Nat.one_mul, mul12, reduceIte, ra_z0, Nat.reduceEqDiff, Nat.reduceLT, Nat.reduceLeDiff, Nat.reduceAdd, Nat.reduceMul, Nat.reduceSub, Nat.reduceDiv, Nat.reduceMod, Bool.false_eq_true, false_and, and_false, reduceCtorEq])
      rw [e2] at e1
      have eA1 : hk_A k1 2 = hk_A κ 2 := by rw [s1.1 2 (by decide), e2]
      have eD1 : hk_D k1 = hk_D κ := by rw [s1.2.2.2.2.2.1]; simp (maxSteps := 400000) (disch := omega) only [n3_l, n3_add, n3_mul, n3_sub, n3_subn, n3_lt, n3_le, n3_eq, n3_eqn, n3_neq, n3_and, n3_or, n3_shl, n3_i, n3_cl, ↓hbd_0, ↓hbd_1, ↓hbd_2, hk_ob_0, hk_rd_0, hk_rd_1, hk_rd_2, hk_al_0, hk_al_1, h3r_0, h3r_1, hk_wi_0, hk_wj_0, h3w_0, h3w_1, h3v_0, hk_kI, hk_kJ, hk_kA, hk_kB, A_eq, A_ne, A_row, B_eq, B_ne, B_row, I_eq, I_ne, J_eq, J_ne, Option.bind_some, Option.some.injEq, if_true, if_false, eq_self, true_or, or_true, true_and, and_true, false_or, or_false, not_true_eq_false, not_false_eq_true, Classical.not_not, nar_b0, nar_b1, rz_0, rz_1, rz_i, ite01, Nat.add_zero, Nat.zero_add, Nat.one_mul, mul12, reduceIte, ra_z0, Nat.reduceEqDiff, Nat.reduceLT, Nat.reduceLeDiff, Nat.reduceAdd, Nat.reduceMul, Nat.reduceSub, Nat.reduceDiv, Nat.reduceMod, Bool.false_eq_true, false_and, and_false, reduceCtorEq]
      obtain ⟨k2, e3, s2⟩ := con N k1 b 1 hN hb (by omega) (by rw [eA1]; exact hX) (by rw [eD1]) (by rw [eD1]) (by rw [eD1]) (by rw [eD1])
      rw [eA1] at e3
      have eA2 : hk_A k2 2 = hk_A κ 2 := by rw [s2.1 2 (by decide), eA1]
      have eD2 : hk_D k2 = hk_D κ := by rw [s2.2.2.2.2.2.1, eD1]
      obtain ⟨k3, e4, s3⟩ := con N k2 b 2 hN hb (by omega) (by rw [eA2]; exact hX) (by rw [eD2]) (by rw [eD2]) (by rw [eD2]) (by rw [eD2])
      rw [eA2] at e4
      have hxe : seatX τ (fx (hk_A κ 2) b) = seatP (τ 0 (fx (hk_A κ 2) b)) (τ 1 (fx (hk_A κ 2) b)) (τ 2 (fx (hk_A κ 2) b)) := by unfold seatX; rw [fx_0, if_neg hm]
      have sn := seat_num N (a := τ 0 (fx (hk_A κ 2) b)) (b := τ 1 (fx (hk_A κ 2) b)) (c := τ 2 (fx (hk_A κ 2) b)) (fun v => hτ _ _ v) (fun v => hτ _ _ v) (fun v => hτ _ _ v) (hp k3)
      have m2 : (-2000000000 : Int32) = -n3 2000000000 := rfl
      have s4 : same [22, 24, 25] [] κ k3 := ((s0.trans (s1.weak (by decide) (by decide))).trans (s2.weak (by decide) (by decide))).trans (s3.weak (by decide) (by decide))
      have r24 : hk_A k3 24 = hk_A (hk_wA (hk_wA κ 25 (t * 40 + b) (n3 1)) 24 (t * 40 + b) (-n3 1)) 24 := by rw [s3.1 24 (by decide), s2.1 24 (by decide), s1.1 24 (by decide)]
      have r25 : hk_A k3 25 = hk_A (hk_wA (hk_wA κ 25 (t * 40 + b) (n3 1)) 24 (t * 40 + b) (-n3 1)) 25 := by rw [s3.1 25 (by decide), s2.1 25 (by decide), s1.1 25 (by decide)]
      refine ⟨hk_wA k3 24 (t * 40 + b) (seatI (seatX τ (fx (hk_A κ 2) b))), ?_, s4.wA (by decide), ?_, ?_⟩
      · simp (maxSteps := 400000) (disch := omega) only [n3_l, n3_add, n3_mul, n3_sub, n3_subn, n3_lt, n3_le, n3_eq, n3_eqn, n3_neq, n3_and, n3_or, n3_shl, n3_i, n3_cl, ↓hbd_0, ↓hbd_1, ↓hbd_2, hk_ob_0, hk_rd_0, hk_rd_1, hk_rd_2, hk_al_0, hk_al_1, h3r_0, h3r_1, hk_wi_0, hk_wj_0, h3w_0, h3w_1, h3v_0, hk_kI, hk_kJ, hk_kA, hk_kB, A_eq, A_ne, A_row, B_eq, B_ne, B_row, I_eq, I_ne, J_eq, J_ne, Option.bind_some, Option.some.injEq, if_true, if_false, eq_self, true_or, or_true, true_and, and_true, false_or, or_false, not_true_eq_false, not_false_eq_true, Classical.not_not, nar_b0, nar_b1, rz_0, rz_1, rz_i, ite01, Nat.add_zero, Nat.zero_add, Nat.one_mul, mul12, reduceIte, ra_z0, Nat.reduceEqDiff, Nat.reduceLT, Nat.reduceLeDiff, Nat.reduceAdd, Nat.reduceMul, Nat.reduceSub, Nat.reduceDiv, Nat.reduceMod, Bool.false_eq_true, false_and, and_false, reduceCtorEq, h_isMarked, hm, ne_eq, hk_kA, hq]
        simp (maxSteps := 400000) (disch := omega) only [n3_l, n3_add, n3_mul, n3_sub, n3_subn, n3_lt, n3_le, n3_eq, n3_eqn, n3_neq, n3_and, n3_or, n3_shl, n3_i, n3_cl, ↓hbd_0, ↓hbd_1, ↓hbd_2, hk_ob_0, hk_rd_0, hk_rd_1, hk_rd_2, hk_al_0, hk_al_1, h3r_0, h3r_1, hk_wi_0, hk_wj_0, h3w_0, h3w_1, h3v_0, hk_kI, hk_kJ, hk_kA, hk_kB, A_eq, A_ne, A_row, B_eq, B_ne, B_row, I_eq, I_ne, J_eq, J_ne, Option.bind_some, Option.some.injEq, if_true, if_false, eq_self, true_or, or_true, true_and, and_true, false_or, or_false, not_true_eq_false, not_false_eq_true, Classical.not_not, nar_b0, nar_b1, rz_0, rz_1, rz_i, ite01, Nat.add_zero, Nat.zero_add, Nat.one_mul, mul12, reduceIte, ra_z0, Nat.reduceEqDiff, Nat.reduceLT, Nat.reduceLeDiff, Nat.reduceAdd, Nat.reduceMul, Nat.reduceSub, Nat.reduceDiv, Nat.reduceMod, Bool.false_eq_true, false_and, and_false, reduceCtorEq, e1, e3, e4, nX1_seatOf_141, nX1_seatOf_147]
        rw [hxe] at *
        by_cases c : tellI (τ 1 (fx (hk_A κ 2) b)) = -n3 2000000000
        · rw [if_pos c] at sn
          simp (maxSteps := 400000) (disch := omega) only [n3_l, n3_add, n3_mul, n3_sub, n3_subn, n3_lt, n3_le, n3_eq, n3_eqn, n3_neq, n3_and, n3_or, n3_shl, n3_i, n3_cl, ↓hbd_0, ↓hbd_1, ↓hbd_2, hk_ob_0, hk_rd_0, hk_rd_1, hk_rd_2, hk_al_0, hk_al_1, h3r_0, h3r_1, hk_wi_0, hk_wj_0, h3w_0, h3w_1, h3v_0, hk_kI, hk_kJ, hk_kA, hk_kB, A_eq, A_ne, A_row, B_eq, B_ne, B_row, I_eq, I_ne, J_eq, J_ne, Option.bind_some, Option.some.injEq, if_true, if_false, eq_self, true_or, or_true, true_and, and_true, false_or, or_false, not_true_eq_false, not_false_eq_true, Classical.not_not, nar_b0, nar_b1, rz_0, rz_1, rz_i, ite01, Nat.add_zero, Nat.zero_add, Nat.one_mul, mul12, reduceIte, ra_z0, Nat.reduceEqDiff, Nat.reduceLT, Nat.reduceLeDiff, Nat.reduceAdd, Nat.reduceMul, Nat.reduceSub, Nat.reduceDiv, Nat.reduceMod, Bool.false_eq_true, false_and, and_false, reduceCtorEq, m2, c, sn]
        · rw [if_neg c] at sn
          simp (maxSteps := 400000) (disch := omega) only [n3_l, n3_add, n3_mul, n3_sub, n3_subn, n3_lt, n3_le, n3_eq, n3_eqn, n3_neq, n3_and, n3_or, n3_shl, n3_i, n3_cl, ↓hbd_0, ↓hbd_1, ↓hbd_2, hk_ob_0, hk_rd_0, hk_rd_1, hk_rd_2, hk_al_0, hk_al_1, h3r_0, h3r_1, hk_wi_0, hk_wj_0, h3w_0, h3w_1, h3v_0, hk_kI, hk_kJ, hk_kA, hk_kB, A_eq, A_ne, A_row, B_eq, B_ne, B_row, I_eq, I_ne, J_eq, J_ne, Option.bind_some, Option.some.injEq, if_true, if_false, eq_self, true_or, or_true, true_and, and_true, false_or, or_false, not_true_eq_false, not_false_eq_true, Classical.not_not, nar_b0, nar_b1, rz_0, rz_1, rz_i, ite01, Nat.add_zero, Nat.zero_add, Nat.one_mul, mul12, reduceIte, ra_z0, Nat.reduceEqDiff, Nat.reduceLT, Nat.reduceLeDiff, Nat.reduceAdd, Nat.reduceMul, Nat.reduceSub, Nat.reduceDiv, Nat.reduceMod, Bool.false_eq_true, false_and, and_false, reduceCtorEq, m2, c, sn]
      · intro i hi
        constructor
        · simp (maxSteps := 400000) (disch := omega) only [n3_l, n3_add, n3_mul, n3_sub, n3_subn, n3_lt, n3_le, n3_eq, n3_eqn, n3_neq, n3_and, n3_or, n3_shl, n3_i, n3_cl, ↓hbd_0, ↓hbd_1, ↓hbd_2, hk_ob_0, hk_rd_0, hk_rd_1, hk_rd_2, hk_al_0, hk_al_1, h3r_0, h3r_1, hk_wi_0, hk_wj_0, h3w_0, h3w_1, h3v_0, hk_kI, hk_kJ, hk_kA, hk_kB, A_eq, A_ne, A_row, B_eq, B_ne, B_row, I_eq, I_ne, J_eq, J_ne, Option.bind_some, Option.some.injEq, if_true, if_false, eq_self, true_or, or_true, true_and, and_true, false_or, or_false, not_true_eq_false, not_false_eq_true, Classical.not_not, nar_b0, nar_b1, rz_0, rz_1, rz_i, ite01, Nat.add_zero, Nat.zero_add, Nat.one_mul, mul12, reduceIte, ra_z0, Nat.reduceEqDiff, Nat.reduceLT, Nat.reduceLeDiff, Nat.reduceAdd, Nat.reduceMul, Nat.reduceSub, Nat.reduceDiv, Nat.reduceMod, Bool.false_eq_true, false_and, and_false, reduceCtorEq, r24]
        · simp (maxSteps := 400000) (disch := omega) only [n3_l, n3_add, n3_mul, n3_sub, n3_subn, n3_lt, n3_le, n3_eq, n3_eqn, n3_neq, n3_and, n3_or, n3_shl, n3_i, n3_cl, ↓hbd_0, ↓hbd_1, ↓hbd_2, hk_ob_0, hk_rd_0, hk_rd_1, hk_rd_2, hk_al_0, hk_al_1, h3r_0, h3r_1, hk_wi_0, hk_wj_0, h3w_0, h3w_1, h3v_0, hk_kI, hk_kJ, hk_kA, hk_kB, A_eq, A_ne, A_row, B_eq, B_ne, B_row, I_eq, I_ne, J_eq, J_ne, Option.bind_some, Option.some.injEq, if_true, if_false, eq_self, true_or, or_true, true_and, and_true, false_or, or_false, not_true_eq_false, not_false_eq_true, Classical.not_not, nar_b0, nar_b1, rz_0, rz_1, rz_i, ite01, Nat.add_zero, Nat.zero_add, Nat.one_mul, mul12, reduceIte, ra_z0, Nat.reduceEqDiff, Nat.reduceLT, Nat.reduceLeDiff, Nat.reduceAdd, Nat.reduceMul, Nat.reduceSub, Nat.reduceDiv, Nat.reduceMod, Bool.false_eq_true, false_and, and_false, reduceCtorEq, r25]
      · simp (maxSteps := 400000) (disch := omega) only [n3_l, n3_add, n3_mul, n3_sub, n3_subn, n3_lt, n3_le, n3_eq, n3_eqn, n3_neq, n3_and, n3_or, n3_shl, n3_i, n3_cl, ↓hbd_0, ↓hbd_1, ↓hbd_2, hk_ob_0, hk_rd_0, hk_rd_1, hk_rd_2, hk_al_0, hk_al_1, h3r_0, h3r_1, hk_wi_0, hk_wj_0, h3w_0, h3w_1, h3v_0, hk_kI, hk_kJ, hk_kA, hk_kB, A_eq, A_ne, A_row, B_eq, B_ne, B_row, I_eq, I_ne, J_eq, J_ne, Option.bind_some, Option.some.injEq, if_true, if_false, eq_self, true_or, or_true, true_and, and_true, false_or, or_false, not_true_eq_false, not_false_eq_true, Classical.not_not, nar_b0, nar_b1, rz_0, rz_1, rz_i, ite01, Nat.add_zero, Nat.zero_add, Nat.one_mul, mul12, reduceIte, ra_z0, Nat.reduceEqDiff, Nat.reduceLT, Nat.reduceLeDiff, Nat.reduceAdd, Nat.reduceMul, Nat.reduceSub, Nat.reduceDiv, Nat.reduceMod, Bool.false_eq_true, false_and, and_false, reduceCtorEq]
  · refine ⟨κ, ?_, same.refl _ _ _, fun i _ => ⟨rfl, rfl⟩, hA hz⟩
    unfold fX1_seatOf nX1_seatOf_0 nX1_seatOf_147
    simp (maxSteps := 400000) (disch := omega) only [n3_l, n3_add, n3_mul, n3_sub, n3_subn, n3_lt, n3_le, n3_eq, n3_eqn, n3_neq, n3_and, n3_or, n3_shl, n3_i, n3_cl, ↓hbd_0, ↓hbd_1, ↓hbd_2, hk_ob_0, hk_rd_0, hk_rd_1, hk_rd_2, hk_al_0, hk_al_1, h3r_0, h3r_1, hk_wi_0, hk_wj_0, h3w_0, h3w_1, h3v_0, hk_kI, hk_kJ, hk_kA, hk_kB, A_eq, A_ne, A_row, B_eq, B_ne, B_row, I_eq, I_ne, J_eq, J_ne, Option.bind_some, Option.some.injEq, if_true, if_false, eq_self, true_or, or_true, true_and, and_true, false_or, or_false, not_true_eq_false, not_false_eq_true, Classical.not_not, nar_b0, nar_b1, rz_0, rz_1, rz_i, ite01, Nat.add_zero, Nat.zero_add, Nat.one_mul, mul12, reduceIte, ra_z0, Nat.reduceEqDiff, Nat.reduceLT, Nat.reduceLeDiff, Nat.reduceAdd, Nat.reduceMul, Nat.reduceSub, Nat.reduceDiv, Nat.reduceMod, Bool.false_eq_true, false_and, and_false, reduceCtorEq, hz, hA hz]
end
