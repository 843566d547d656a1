/-! Holdings on the bare heap -/
def hoL (i : Nat) : Nat := [480, 9, 54, 54, 8, 144, 12, 10, 10, 9, 12, 12, 12].getD i 0
def hoF (a : Nat) (I : Nat → Int32) : List Value := [.ref (a + 1), .ref (a + 2), .ref (a + 3), .ref (a + 4), .ref (a + 5), .ref (a + 6), .ref (a + 7), .ref (a + 8), .ref (a + 9), .ref (a + 10), .ref (a + 11), .ref (a + 12), .ref (a + 13), .int (I 13), .int (I 14), .int (I 15), .int (I 16), .int (I 17), .int (I 18), .int (I 19)]
def hol (h : ra_H) (a : Nat) (I : Nat → Int32) (R : Nat → Nat → Int32) (Q : Nat → Option Nat) : Prop := h.1 a = .inr (2, hoF a I) ∧ (∀ i, i < 13 → i ≠ 4 → h.1 (a + 1 + i) = .inl (0, hoL i, .inl (R i))) ∧ h.1 (a + 5) = .inl (4, 8, .inr (.inr (.inr (.inr Q))))
theorem hoL_le : ∀ i, i < 13 → hoL i ≤ 480 := by decide
theorem hoF_r (a : Nat) (I : Nat → Int32) : ∀ j, j < 13 → (hoF a I)[j]? = some (.ref (a + 1 + j)) := by
  intro j hj
  have c : j = 0 ∨ j = 1 ∨ j = 2 ∨ j = 3 ∨ j = 4 ∨ j = 5 ∨ j = 6 ∨ j = 7 ∨ j = 8 ∨ j = 9 ∨ j = 10 ∨ j = 11 ∨ j = 12 := by omega
  rcases c with rfl | rfl | rfl | rfl | rfl | rfl | rfl | rfl | rfl | rfl | rfl | rfl | rfl <;> rfl
theorem hoF_i (a : Nat) (I : Nat → Int32) : ∀ j, 13 ≤ j → j < 20 → (hoF a I)[j]? = some (.int (I j)) := by
  intro j hj hk
  have c : j = 13 ∨ j = 14 ∨ j = 15 ∨ j = 16 ∨ j = 17 ∨ j = 18 ∨ j = 19 := by omega
  rcases c with rfl | rfl | rfl | rfl | rfl | rfl | rfl <;> rfl
theorem hol.fR {h : ra_H} {a : Nat} {I : Nat → Int32} (e : h.1 a = .inr (2, hoF a I)) {j : Nat} (hj : j < 13) : ra_fR h 2 a j = some (a + 1 + j) := by
  unfold ra_fR
  rw [e]
  show (if 2 = 2 then (match (hoF a I)[j]? with | some (.ref x) => some x | _ => none) else none) = _
  rw [if_pos rfl, hoF_r a I j hj]
theorem hol.fI {h : ra_H} {a : Nat} {I : Nat → Int32} (e : h.1 a = .inr (2, hoF a I)) {j : Nat} (hj : 13 ≤ j) (hk : j < 20) : ra_fI h 2 a j = some (I j) := by
  unfold ra_fI
  rw [e]
  show (if 2 = 2 then (match (hoF a I)[j]? with | some (.int x) => some x | _ => none) else none) = _
  rw [if_pos rfl, hoF_i a I j hj hk]
theorem f_copyRow (N : Nat) {h : ra_H} {x y L : Nat} {f g : Nat → Int32} (hx : h.1 x = .inl (0, L, .inl f)) (hy : h.1 y = .inl (0, L, .inl g)) (hL : L ≤ 480) : fX2_copyRow N x y h = some (ra_up h.1 y (.inl (0, L, .inl (va_cpy f g 0 0 L))), h.2) := by
  have a1 : ra_aL h x = some (n3 L) := by unfold ra_aL; rw [hx]; rfl
  have a2 : ra_aL h y = some (n3 L) := by unfold ra_aL; rw [hy]; rfl
  have e : ra_cp h x 0 y 0 (n3 L) = some (ra_up h.1 y (.inl (0, L, .inl (va_cpy f g 0 0 L))), h.2) := by
    unfold ra_cp
    rw [hx, hy]
    show (if (0 : Int32) < 0 ∨ (0 : Int32) < 0 ∨ n3 L < 0 ∨ L < (0 : Int32).toNatClampNeg + (n3 L).toNatClampNeg ∨ L < (0 : Int32).toNatClampNeg + (n3 L).toNatClampNeg then none else some ((ra_up h.1 y (.inl (0, L, .inl (va_cpy f g (0 : Int32).toNatClampNeg (0 : Int32).toNatClampNeg (n3 L).toNatClampNeg))), h.2) : ra_H)) = _
    rw [n3_cl (by omega), show (0 : Int32).toNatClampNeg = 0 from rfl, if_neg]
    intro z
    have z0 : ¬ (0 : Int32) < 0 := by decide
    have z1 : ¬ n3 L < n3 0 := fun z => by have := (n3_lt (by omega) (by omega)).mp z; omega
    rcases z with z | z | z | z | z
    · exact z0 z
    · exact z0 z
    · exact z1 z
    · omega
    · omega
  unfold fX2_copyRow nX2_copyRow_0
  rw [a1, Option.bind_some, a2, Option.bind_some, ite_self, e, Option.bind_some]
def toH (h : ra_H) (a0 : Nat) (R : Nat → Nat → Int32) (i : Nat) : ra_H := (fun k => if a0 < k ∧ k ≤ a0 + i ∧ k ≠ a0 + 5 then .inl (0, hoL (k - a0 - 1), .inl (R (k - a0 - 1))) else h.1 k, h.2)
theorem toH_0 (h : ra_H) (a0 : Nat) (R : Nat → Nat → Int32) : toH h a0 R 0 = h := by
  have e : (toH h a0 R 0).1 = h.1 := by
    funext k
    show (if a0 < k ∧ k ≤ a0 + 0 ∧ k ≠ a0 + 5 then _ else h.1 k) = _
    rw [if_neg (by omega)]
  exact Prod.ext e rfl
theorem toH_4 (h : ra_H) (a0 : Nat) (R : Nat → Nat → Int32) : toH h a0 R 4 = toH h a0 R 5 := by
  have e : (toH h a0 R 4).1 = (toH h a0 R 5).1 := by
    funext k
    show (if a0 < k ∧ k ≤ a0 + 4 ∧ k ≠ a0 + 5 then _ else h.1 k) = (if a0 < k ∧ k ≤ a0 + 5 ∧ k ≠ a0 + 5 then _ else h.1 k)
    by_cases c : a0 < k ∧ k ≤ a0 + 4 ∧ k ≠ a0 + 5
    · rw [if_pos c, if_pos (by omega)]
    · rw [if_neg c, if_neg (by omega)]
  exact Prod.ext e rfl
theorem toH_o {h : ra_H} {a0 k i : Nat} {R : Nat → Nat → Int32} (hk : ¬ (a0 < k ∧ k ≤ a0 + i ∧ k ≠ a0 + 5)) : (toH h a0 R i).1 k = h.1 k := by
  show (if a0 < k ∧ k ≤ a0 + i ∧ k ≠ a0 + 5 then _ else h.1 k) = _
  rw [if_neg hk]
theorem toH_next (N : Nat) {h : ra_H} {a0 a1 i : Nat} {I0 I1 : Nat → Int32} {R0 R1 : Nat → Nat → Int32} {Q0 Q1 : Nat → Option Nat} (h0 : hol h a0 I0 R0 Q0) (h1 : hol h a1 I1 R1 Q1) (hd : a0 + 13 < a1 ∨ a1 + 13 < a0) (hi : i < 13) (h4 : i ≠ 4) : fX2_copyRow N (a1 + 1 + i) (a0 + 1 + i) (toH h a0 (fun i => va_cpy (R1 i) (R0 i) 0 0 (hoL i)) i) = some (toH h a0 (fun i => va_cpy (R1 i) (R0 i) 0 0 (hoL i)) (i + 1)) := by
  rw [f_copyRow N (L := hoL i) (f := R1 i) (g := R0 i) (by rw [toH_o (by omega)]; exact h1.2.1 i hi h4) (by rw [toH_o (by omega)]; exact h0.2.1 i hi h4) (hoL_le i hi)]
  congr 1
  refine Prod.ext ?_ rfl
  funext k
  show (if k = a0 + 1 + i then _ else (if a0 < k ∧ k ≤ a0 + i ∧ k ≠ a0 + 5 then _ else h.1 k)) = (if a0 < k ∧ k ≤ a0 + (i + 1) ∧ k ≠ a0 + 5 then _ else h.1 k)
  by_cases c : k = a0 + 1 + i
  · rw [if_pos c, if_pos (by omega)]
    subst c
    rw [show a0 + 1 + i - a0 - 1 = i by omega]
  · rw [if_neg c]
    by_cases c2 : a0 < k ∧ k ≤ a0 + i ∧ k ≠ a0 + 5
    · rw [if_pos c2, if_pos (by omega)]
    · rw [if_neg c2, if_neg (by omega)]
/-- references taken over -/
def trH (h : ra_H) (a0 : Nat) (Q0 Q1 : Nat → Option Nat) (t : Nat) : ra_H := (fun k => if k = a0 + 5 then .inl (4, 8, .inr (.inr (.inr (.inr (fun x => if x < t then Q1 x else Q0 x))))) else h.1 k, h.2)
theorem trH_o {h : ra_H} {a0 k t : Nat} {Q0 Q1 : Nat → Option Nat} (hk : k ≠ a0 + 5) : (trH h a0 Q0 Q1 t).1 k = h.1 k := if_neg hk
theorem trH_0 {h : ra_H} {a0 : Nat} {Q0 Q1 : Nat → Option Nat} (e : h.1 (a0 + 5) = .inl (4, 8, .inr (.inr (.inr (.inr Q0))))) : trH h a0 Q0 Q1 0 = h := by
  refine Prod.ext ?_ rfl
  funext k
  show (if k = a0 + 5 then _ else h.1 k) = _
  by_cases c : k = a0 + 5
  · rw [if_pos c, c, e]
    rfl
  · rw [if_neg c]
theorem trH_w {h : ra_H} {a0 t : Nat} {Q0 Q1 : Nat → Option Nat} {v : Option Nat} (hv : Q1 t = v) : ((ra_up (trH h a0 Q0 Q1 t).1 (a0 + 5) (.inl (4, 8, .inr (.inr (.inr (.inr (va_up (fun x => if x < t then Q1 x else Q0 x) t v)))))), (trH h a0 Q0 Q1 t).2) : ra_H) = trH h a0 Q0 Q1 (t + 1) := by
  refine Prod.ext ?_ rfl
  funext k
  show (if k = a0 + 5 then _ else (if k = a0 + 5 then _ else h.1 k)) = (if k = a0 + 5 then _ else h.1 k)
  by_cases c : k = a0 + 5
  · rw [if_pos c, if_pos c]
    have e : va_up (fun x => if x < t then Q1 x else Q0 x) t v = fun x => if x < t + 1 then Q1 x else Q0 x := by
      funext x
      show (if x = t then v else (if x < t then Q1 x else Q0 x)) = _
      by_cases e : x = t
      · rw [if_pos e, if_pos (by omega), e, hv]
      · rw [if_neg e]
        by_cases e2 : x < t
        · rw [if_pos e2, if_pos (by omega)]
        · rw [if_neg e2, if_neg (by omega)]
    rw [e]
  · rw [if_neg c, if_neg c, if_neg c]
theorem tr_loop (N : Nat) {h : ra_H} {a0 a1 : Nat} {I0 I1 : Nat → Int32} {Q0 Q1 : Nat → Option Nat} (o0 : h.1 a0 = .inr (2, hoF a0 I0)) (o1 : h.1 a1 = .inr (2, hoF a1 I1)) (q1 : h.1 (a1 + 5) = .inl (4, 8, .inr (.inr (.inr (.inr Q1))))) (hd : a0 + 13 < a1 ∨ a1 + 13 < a0) (hq : ∀ t q, t < 8 → Q1 t = some q → ra_isOb h q 4 = true ∧ q ≠ a0 + 5) : ∀ r t q, r + t = 8 → nX2_takeOver_134 N (r + q + 1) a0 a1 (n3 t) (trH h a0 Q0 Q1 t) = nX2_takeOver_134 N (q + 1) a0 a1 (n3 8) (trH h a0 Q0 Q1 8) := by
  intro r
  induction r with
  | zero =>
    intro t q ht
    rw [Nat.zero_add] at ht ⊢
    subst ht
    rfl
  | succ r ih =>
    intro t q ht
    have l8 : n3 t < (8 : Int32) := (n3_lt (a := t) (b := 8) (by omega) (by omega)).mpr (by omega)
    have f0 : ra_fR (trH h a0 Q0 Q1 t) 2 a0 4 = some (a0 + 1 + 4) := hol.fR (I := I0) (by rw [trH_o (by omega)]; exact o0) (by omega)
    have f1 : ra_fR (trH h a0 Q0 Q1 t) 2 a1 4 = some (a1 + 1 + 4) := hol.fR (I := I1) (by rw [trH_o (by omega)]; exact o1) (by omega)
    have an : ra_aN (trH h a0 Q0 Q1 t) (a1 + 1 + 4) (n3 t) = some (Q1 t) := by
      unfold ra_aN
      rw [show a1 + 1 + 4 = a1 + 5 by omega, trH_o (by omega), q1]
      show (if 4 = 4 ∨ 4 = 5 then (if n3 t < 0 ∨ 8 ≤ (n3 t).toNatClampNeg then none else some (Q1 (n3 t).toNatClampNeg)) else none) = _
      rw [if_pos (Or.inl rfl), if_neg (ix3 (by omega) (by omega)), n3_cl (by omega)]
    have c5 : (trH h a0 Q0 Q1 t).1 (a0 + 5) = .inl (4, 8, .inr (.inr (.inr (.inr (fun x => if x < t then Q1 x else Q0 x))))) := if_pos rfl
    have nt : n3 t + (1 : Int32) = n3 (t + 1) := by
      have : n3 t + n3 1 = n3 (t + 1) := by simp (maxSteps := 400000) (disch := omega) only [n3_l, n3_add, n3_mul, n3_sub, n3_subn, n3_lt, n3_le, n3_eq, n3_eqn, n3_neq, n3_and, n3_or, n3_shl, n3_i, n3_cl, Option.bind_some, Option.some.injEq, if_true, if_false, eq_self, true_or, or_true, true_and, and_true, false_or, or_false, not_true_eq_false, not_false_eq_true, Classical.not_not, nar_b0, nar_b1, rz_0, rz_1, rz_i, ite01, Nat.add_zero, Nat.zero_add, Nat.one_mul, mul12, reduceIte, ra_z0, Nat.reduceEqDiff, Nat.reduceLT, Nat.reduceLeDiff, Nat.reduceAdd, Nat.reduceMul, Nat.reduceSub, Nat.reduceDiv, Nat.reduceMod, Bool.false_eq_true, false_and, and_false, reduceCtorEq]
      exact this
    have i1 := ih (t + 1) q (by omega)
    rw [show r + 1 + q + 1 = (r + q + 1) + 1 by omega, nX2_takeOver_134, if_pos l8, f0, Option.bind_some, f1, Option.bind_some, an, Option.bind_some]
    cases hv : Q1 t with
    | none =>
      have w : ra_aWN (trH h a0 Q0 Q1 t) (a0 + 1 + 4) (n3 t) = some (trH h a0 Q0 Q1 (t + 1)) := by
        unfold ra_aWN
        rw [show a0 + 1 + 4 = a0 + 5 by omega, c5]
        show (if 4 = 4 ∨ 4 = 5 then (if n3 t < 0 ∨ 8 ≤ (n3 t).toNatClampNeg then none else some ((ra_up (trH h a0 Q0 Q1 t).1 (a0 + 5) (.inl (4, 8, .inr (.inr (.inr (.inr (va_up (fun x => if x < t then Q1 x else Q0 x) (n3 t).toNatClampNeg none)))))), (trH h a0 Q0 Q1 t).2) : ra_H)) else none) = _
        rw [if_pos (Or.inl rfl), if_neg (ix3 (by omega) (by omega)), n3_cl (by omega), trH_w hv]
      dsimp only
      rw [w, Option.bind_some, nt]
      exact i1
    | some x =>
      obtain ⟨g1, g2⟩ := hq t x (by omega) hv
      have io : ra_isOb (trH h a0 Q0 Q1 t) x (ra_ec 4) = true := by
        unfold ra_isOb at g1 ⊢
        rw [trH_o g2]
        exact g1
      have w : ra_aWR (trH h a0 Q0 Q1 t) (a0 + 1 + 4) (n3 t) x = some (trH h a0 Q0 Q1 (t + 1)) := by
        unfold ra_aWR
        rw [show a0 + 1 + 4 = a0 + 5 by omega, c5]
        show (if 4 = 4 ∨ 4 = 5 then (if ra_isOb (trH h a0 Q0 Q1 t) x (ra_ec 4) = true then (if n3 t < 0 ∨ 8 ≤ (n3 t).toNatClampNeg then none else some ((ra_up (trH h a0 Q0 Q1 t).1 (a0 + 5) (.inl (4, 8, .inr (.inr (.inr (.inr (va_up (fun x => if x < t then Q1 x else Q0 x) (n3 t).toNatClampNeg (some x))))))), (trH h a0 Q0 Q1 t).2) : ra_H)) else none) else none) = _
        rw [if_pos (Or.inl rfl), if_pos io, if_neg (ix3 (by omega) (by omega)), n3_cl (by omega), trH_w hv]
      dsimp only
      rw [w, Option.bind_some, nt]
      exact i1
/-- the object anew -/
def wO (h : ra_H) (a0 : Nat) (l : List Value) : ra_H := (fun k => if k = a0 then .inr (2, l) else h.1 k, h.2)
theorem wO_o {h : ra_H} {a0 k : Nat} {l : List Value} (hk : k ≠ a0) : (wO h a0 l).1 k = h.1 k := if_neg hk
theorem wO_w {h : ra_H} {a0 j : Nat} {l : List Value} {v : Value} (hj : j < l.length) : ra_fW (wO h a0 l) 2 a0 j v = some (wO h a0 (l.set j v)) := by
  unfold ra_fW
  rw [show (wO h a0 l).1 a0 = .inr (2, l) from if_pos rfl]
  show (if 2 = 2 then (if j < l.length then some ((ra_up (wO h a0 l).1 a0 (.inr (2, l.set j v)), (wO h a0 l).2) : ra_H) else none) else none) = _
  rw [if_pos rfl, if_pos hj]
  congr 1
  refine Prod.ext ?_ rfl
  funext k
  show (if k = a0 then _ else (if k = a0 then _ else h.1 k)) = (if k = a0 then _ else h.1 k)
  by_cases c : k = a0
  · rw [if_pos c, if_pos c]
  · rw [if_neg c, if_neg c, if_neg c]
theorem wO_0 {h : ra_H} {a0 : Nat} {l : List Value} (e : h.1 a0 = .inr (2, l)) : wO h a0 l = h := by
  refine Prod.ext ?_ rfl
  funext k
  show (if k = a0 then _ else h.1 k) = _
  by_cases c : k = a0
  · rw [if_pos c, c, e]
  · rw [if_neg c]
theorem f_takeOver (N : Nat) {h : ra_H} {a0 a1 : Nat} {I0 I1 : Nat → Int32} {R0 R1 : Nat → Nat → Int32} {Q0 Q1 : Nat → Option Nat} (h0 : hol h a0 I0 R0 Q0) (h1 : hol h a1 I1 R1 Q1) (hd : a0 + 13 < a1 ∨ a1 + 13 < a0) (hq : ∀ t q, t < 8 → Q1 t = some q → ra_isOb h q 4 = true) (hN : 1000 < N) : ∃ h', fX2_takeOver N a0 a1 h = some h' ∧ hol h' a0 I1 (fun i => va_cpy (R1 i) (R0 i) 0 0 (hoL i)) (fun x => if x < 8 then Q1 x else Q0 x) ∧ (∀ k, k < a0 ∨ a0 + 13 < k → h'.1 k = h.1 k) ∧ h'.2 = h.2 := by
  obtain ⟨R, eR⟩ : ∃ R : Nat → Nat → Int32, R = fun i => va_cpy (R1 i) (R0 i) 0 0 (hoL i) := ⟨_, rfl⟩
  have cp : ∀ i, i < 13 → i ≠ 4 → fX2_copyRow N (a1 + 1 + i) (a0 + 1 + i) (toH h a0 R i) = some (toH h a0 R (i + 1)) := fun i hi h4 => by rw [eR]; exact toH_next N h0 h1 hd hi h4
  have f0 : ∀ i j, j < 13 → ra_fR (toH h a0 R i) 2 a0 j = some (a0 + 1 + j) := fun i j hj => hol.fR (I := I0) (by rw [toH_o (by omega)]; exact h0.1) hj
  have f1 : ∀ i j, i ≤ 13 → j < 13 → ra_fR (toH h a0 R i) 2 a1 j = some (a1 + 1 + j) := fun i j hi hj => hol.fR (I := I1) (by rw [toH_o (by omega)]; exact h1.1) hj
  have ob : fX2_takeOver N a0 a1 h = nX2_takeOver_0 N a0 a1 h := by
    unfold fX2_takeOver
    rw [show ra_isOb h a0 2 = true by unfold ra_isOb; rw [h0.1]; rfl]
  have st : nX2_takeOver_0 N a0 a1 (toH h a0 R 0) = nX2_takeOver_134 N N a0 a1 (n3 0) (toH h a0 R 13) := by
    unfold nX2_takeOver_0
    rw [f1 0 0 (by omega) (by omega), Option.bind_some, f0 0 0 (by omega), Option.bind_some, cp 0 (by omega) (by omega), Option.bind_some]
    rw [f1 1 1 (by omega) (by omega), Option.bind_some, f0 1 1 (by omega), Option.bind_some, cp 1 (by omega) (by omega), Option.bind_some]
    rw [f1 2 2 (by omega) (by omega), Option.bind_some, f0 2 2 (by omega), Option.bind_some, cp 2 (by omega) (by omega), Option.bind_some]
    rw [f1 3 3 (by omega) (by omega), Option.bind_some, f0 3 3 (by omega), Option.bind_some, cp 3 (by omega) (by omega), Option.bind_some]
    rw [toH_4]
    rw [f1 5 5 (by omega) (by omega), Option.bind_some, f0 5 5 (by omega), Option.bind_some, cp 5 (by omega) (by omega), Option.bind_some]
    rw [f1 6 6 (by omega) (by omega), Option.bind_some, f0 6 6 (by omega), Option.bind_some, cp 6 (by omega) (by omega), Option.bind_some]
    rw [f1 7 7 (by omega) (by omega), Option.bind_some, f0 7 7 (by omega), Option.bind_some, cp 7 (by omega) (by omega), Option.bind_some]
    rw [f1 8 8 (by omega) (by omega), Option.bind_some, f0 8 8 (by omega), Option.bind_some, cp 8 (by omega) (by omega), Option.bind_some]
    rw [f1 9 9 (by omega) (by omega), Option.bind_some, f0 9 9 (by omega), Option.bind_some, cp 9 (by omega) (by omega), Option.bind_some]
    rw [f1 10 10 (by omega) (by omega), Option.bind_some, f0 10 10 (by omega), Option.bind_some, cp 10 (by omega) (by omega), Option.bind_some]
    rw [f1 11 11 (by omega) (by omega), Option.bind_some, f0 11 11 (by omega), Option.bind_some, cp 11 (by omega) (by omega), Option.bind_some]
    rw [f1 12 12 (by omega) (by omega), Option.bind_some, f0 12 12 (by omega), Option.bind_some, cp 12 (by omega) (by omega), Option.bind_some]
    rfl
  obtain ⟨H, eH⟩ : ∃ H, H = toH h a0 R 13 := ⟨_, rfl⟩
  rw [← eH] at st
  have H0 : H.1 a0 = .inr (2, hoF a0 I0) := by rw [eH, toH_o (by omega)]; exact h0.1
  have H1 : H.1 a1 = .inr (2, hoF a1 I1) := by rw [eH, toH_o (by omega)]; exact h1.1
  have H5 : H.1 (a0 + 5) = .inl (4, 8, .inr (.inr (.inr (.inr Q0)))) := by rw [eH, toH_o (by omega)]; exact h0.2.2
  have H15 : H.1 (a1 + 5) = .inl (4, 8, .inr (.inr (.inr (.inr Q1)))) := by rw [eH, toH_o (by omega)]; exact h1.2.2
  have Hq : ∀ t q, t < 8 → Q1 t = some q → ra_isOb H q 4 = true ∧ q ≠ a0 + 5 := by
    intro t q ht e
    have g := hq t q ht e
    have nq : ¬ (a0 < q ∧ q ≤ a0 + 13) := by
      intro z
      unfold ra_isOb at g
      by_cases c : q = a0 + 5
      · rw [c, h0.2.2] at g
        cases g
      · have e2 := h0.2.1 (q - a0 - 1) (by omega) (by omega)
        rw [show a0 + 1 + (q - a0 - 1) = q by omega] at e2
        rw [e2] at g
        cases g
    refine ⟨?_, by omega⟩
    unfold ra_isOb at g ⊢
    rw [eH, toH_o (by omega)]
    exact g
  obtain ⟨N', hN'⟩ : ∃ N', N = 8 + N' + 1 := ⟨N - 9, by omega⟩
  have lp := tr_loop N (Q0 := Q0) H0 H1 H15 hd Hq 8 0 N' (by omega)
  rw [trH_0 H5, ← hN'] at lp
  obtain ⟨T, eT⟩ : ∃ T, T = trH H a0 Q0 Q1 8 := ⟨_, rfl⟩
  rw [← eT] at lp
  have T0 : T.1 a0 = .inr (2, hoF a0 I0) := by rw [eT, trH_o (by omega)]; exact H0
  have T1 : T.1 a1 = .inr (2, hoF a1 I1) := by rw [eT, trH_o (by omega)]; exact H1
  have gI : ∀ l j, 13 ≤ j → j < 20 → ra_fI (wO T a0 l) 2 a1 j = some (I1 j) := fun l j g1 g2 => hol.fI (I := I1) (by rw [wO_o (by omega)]; exact T1) g1 g2
  have n8 : ¬ n3 8 < (8 : Int32) := by decide
  have en : nX2_takeOver_134 N (N' + 1) a0 a1 (n3 8) (wO T a0 (hoF a0 I0)) = some (wO T a0 (hoF a0 I1)) := by
    rw [nX2_takeOver_134, if_neg n8]
    rw [gI _ 13 (by omega) (by omega), Option.bind_some, wO_w (by show 13 < 20; omega), Option.bind_some]
    rw [gI _ 14 (by omega) (by omega), Option.bind_some, wO_w (by show 14 < 20; omega), Option.bind_some]
    rw [gI _ 15 (by omega) (by omega), Option.bind_some, wO_w (by show 15 < 20; omega), Option.bind_some]
    rw [gI _ 16 (by omega) (by omega), Option.bind_some, wO_w (by show 16 < 20; omega), Option.bind_some]
    rw [gI _ 17 (by omega) (by omega), Option.bind_some, wO_w (by show 17 < 20; omega), Option.bind_some]
    rw [gI _ 18 (by omega) (by omega), Option.bind_some, wO_w (by show 18 < 20; omega), Option.bind_some]
    rw [gI _ 19 (by omega) (by omega), Option.bind_some, wO_w (by show 19 < 20; omega), Option.bind_some]
    rfl
  rw [wO_0 T0] at en
  refine ⟨wO T a0 (hoF a0 I1), ?_, ⟨if_pos rfl, fun i hi h4 => ?_, ?_⟩, fun k hk => ?_, ?_⟩
  · rw [ob, show nX2_takeOver_0 N a0 a1 h = nX2_takeOver_0 N a0 a1 (toH h a0 R 0) by rw [toH_0], st, lp, en]
  · rw [wO_o (by omega), eT, trH_o (by omega), eH]
    show (if a0 < a0 + 1 + i ∧ a0 + 1 + i ≤ a0 + 13 ∧ a0 + 1 + i ≠ a0 + 5 then _ else _) = _
    rw [if_pos (by omega), show a0 + 1 + i - a0 - 1 = i by omega, eR]
  · rw [wO_o (by omega), eT]
    exact if_pos rfl
  · rw [wO_o (by omega), eT, trH_o (by omega), eH, toH_o (by omega)]
  · rw [show (wO T a0 (hoF a0 I1)).2 = T.2 from rfl, eT, show (trH H a0 Q0 Q1 8).2 = H.2 from rfl, eH]
    rfl
/-- a new one -/
def hoC (i : Nat) : ra_C := if i = 4 then ra_nr 4 8 else ra_na 0 (hoL i)
def hoS : Nat → Nat
  | 0 => 0
  | i + 1 => hoS i + hoL i
def hoH (h : ra_H) (a i : Nat) (l : List Value) : ra_H := (fun k => if k = a then .inr (2, l) else if a < k ∧ k ≤ a + i then hoC (k - a - 1) else h.1 k, a + 1 + i, h.2.2.1 + hoS i, h.2.2.2)
theorem hoH_next {h : ra_H} {a i : Nat} {l : List Value} (hl : i < l.length) : ra_fW (ra_mk (hoH h a i l) (hoC i) (hoL i)) 2 a i (.ref (a + 1 + i)) = some (hoH h a (i + 1) (l.set i (.ref (a + 1 + i)))) := by
  have e : (ra_mk (hoH h a i l) (hoC i) (hoL i)).1 a = .inr (2, l) := by
    show (if a = a + 1 + i then _ else (if a = a then _ else _)) = _
    rw [if_neg (by omega), if_pos rfl]
  unfold ra_fW
  rw [e]
  show (if 2 = 2 then (if i < l.length then some ((ra_up (ra_mk (hoH h a i l) (hoC i) (hoL i)).1 a (.inr (2, l.set i (.ref (a + 1 + i)))), (ra_mk (hoH h a i l) (hoC i) (hoL i)).2) : ra_H) else none) else none) = _
  rw [if_pos rfl, if_pos hl]
  congr 1
  refine Prod.ext ?_ ?_
  · funext k
    show (if k = a then _ else (if k = a + 1 + i then _ else (if k = a then _ else if a < k ∧ k ≤ a + i then _ else h.1 k))) = (if k = a then _ else if a < k ∧ k ≤ a + (i + 1) then _ else h.1 k)
    by_cases c : k = a
    · rw [if_pos c, if_pos c]
    · rw [if_neg c, if_neg c, if_neg c]
      by_cases c2 : k = a + 1 + i
      · rw [if_pos c2, if_pos (by omega), c2, show a + 1 + i - a - 1 = i by omega]
      · rw [if_neg c2]
        by_cases c3 : a < k ∧ k ≤ a + i
        · rw [if_pos c3, if_pos (by omega)]
        · rw [if_neg c3, if_neg (by omega)]
  · refine Prod.ext ?_ (Prod.ext ?_ rfl)
    · show a + 1 + i + 1 = a + 1 + (i + 1)
      omega
    · show h.2.2.1 + hoS i + hoL i = h.2.2.1 + (hoS i + hoL i)
      omega
theorem hoH_w {h : ra_H} {a i j : Nat} {l : List Value} {v : Value} (hl : j < l.length) : ra_fW (hoH h a i l) 2 a j v = some (hoH h a i (l.set j v)) := by
  unfold ra_fW
  rw [show (hoH h a i l).1 a = .inr (2, l) from if_pos rfl]
  show (if 2 = 2 then (if j < l.length then some ((ra_up (hoH h a i l).1 a (.inr (2, l.set j v)), (hoH h a i l).2) : ra_H) else none) else none) = _
  rw [if_pos rfl, if_pos hl]
  congr 1
  refine Prod.ext ?_ rfl
  funext k
  show (if k = a then _ else (if k = a then _ else _)) = (if k = a then _ else _)
  by_cases c : k = a
  · rw [if_pos c, if_pos c]
  · rw [if_neg c, if_neg c, if_neg c]
def hoI (j : Nat) : Int32 := if j = 17 ∨ j = 18 then -n3 1 else n3 0
def hoV (i : Nat) : Int32 := if i = 2 then n3 100 else if i = 3 then n3 40 else if i = 8 then n3 199 else if i = 12 then n3 1 else n3 0
def hoR (i x : Nat) : Int32 := if x < hoL i then hoV i else n3 0
def hoK (h : ra_H) (a : Nat) (S : Nat → Bool) : ra_H := (fun k => if a < k ∧ k ≤ a + 13 ∧ S (k - a - 1) = true then .inl (0, hoL (k - a - 1), .inl (hoR (k - a - 1))) else h.1 k, h.2)
theorem hoK_fill (N : Nat) {h : ra_H} {a i : Nat} {S S' : Nat → Bool} (hi : i < 13) (hc : (hoK h a S).1 (a + 1 + i) = .inl (0, hoL i, .inl (fun _ => 0))) (hS : ∀ x, S' x = if x = i then true else S x) (hN : 1000 < N) : fJ7_fill_53178 N (a + 1 + i) (hoV i) (hoK h a S) = some (hoK h a S') := by
  have ll := hoL_le i hi
  rw [f_fill N (a + 1 + i) (hoV i) (hoL i) _ _ hc (by omega) (by omega)]
  congr 1
  refine Prod.ext ?_ rfl
  funext k
  show (if k = a + 1 + i then _ else (if a < k ∧ k ≤ a + 13 ∧ S (k - a - 1) = true then _ else h.1 k)) = (if a < k ∧ k ≤ a + 13 ∧ S' (k - a - 1) = true then _ else h.1 k)
  by_cases c : k = a + 1 + i
  · rw [if_pos c, if_pos ⟨by omega, by omega, by rw [hS, if_pos (by omega)]⟩, c, show a + 1 + i - a - 1 = i by omega]
    rfl
  · rw [if_neg c, hS]
    by_cases c2 : a < k ∧ k ≤ a + 13 ∧ S (k - a - 1) = true
    · rw [if_pos c2, if_pos ⟨c2.1, c2.2.1, by rw [if_neg (by omega)]; exact c2.2.2⟩]
    · rw [if_neg c2]
      by_cases c3 : k - a - 1 = i
      · have : ¬ (a < k ∧ k ≤ a + 13) := by omega
        rw [if_neg (fun z => this ⟨z.1, z.2.1⟩)]
      · rw [if_neg c3, if_neg c2]
theorem f_holdings (N : Nat) {h : ra_H} {a : Nat} (e0 : h.1 a = .inr (2, ra_df 2)) (e1 : h.2.1 = a + 1) (hN : 1000 < N) : ∃ h', fX2_init N a h = some h' ∧ hol h' a hoI hoR (fun _ => none) ∧ (∀ k, k < a ∨ a + 13 < k → h'.1 k = h.1 k) ∧ h'.2.1 = a + 14 ∧ h'.2.2.1 = h.2.2.1 + 826 ∧ h'.2.2.2 = h.2.2.2 := by
  have b : h = hoH h a 0 (ra_df 2) := by
    refine Prod.ext ?_ (Prod.ext ?_ (Prod.ext ?_ rfl))
    · funext k
      show h.1 k = (if k = a then _ else if a < k ∧ k ≤ a + 0 then _ else h.1 k)
      by_cases c : k = a
      · rw [if_pos c, c, e0]
      · rw [if_neg c, if_neg (by omega)]
    · exact e1
    · rfl
  obtain ⟨l0, el0⟩ : ∃ l : List Value, l = ra_df 2 := ⟨_, rfl⟩
  have len0 : l0.length = 20 := by rw [el0]; rfl
  obtain ⟨l1, el1⟩ : ∃ l, l = l0.set 0 (.ref (a + 1 + 0)) := ⟨_, rfl⟩
  have len1 : l1.length = 20 := by rw [el1, List.length_set]; exact len0
  have s0 : ra_fW (ra_mk (hoH h a 0 l0) (ra_na 0 (Int32.toNatClampNeg (480 : Int32))) (Int32.toNatClampNeg (480 : Int32))) 2 a 0 (.ref (hoH h a 0 l0).2.1) = some (hoH h a 1 l1) := by
    rw [el1]
    exact hoH_next (by omega)
  obtain ⟨l2, el2⟩ : ∃ l, l = l1.set 1 (.ref (a + 1 + 1)) := ⟨_, rfl⟩
  have len2 : l2.length = 20 := by rw [el2, List.length_set]; exact len1
  have s1 : ra_fW (ra_mk (hoH h a 1 l1) (ra_na 0 (Int32.toNatClampNeg (9 : Int32))) (Int32.toNatClampNeg (9 : Int32))) 2 a 1 (.ref (hoH h a 1 l1).2.1) = some (hoH h a 2 l2) := by
    rw [el2]
    exact hoH_next (by omega)
  obtain ⟨l3, el3⟩ : ∃ l, l = l2.set 2 (.ref (a + 1 + 2)) := ⟨_, rfl⟩
  have len3 : l3.length = 20 := by rw [el3, List.length_set]; exact len2
  have s2 : ra_fW (ra_mk (hoH h a 2 l2) (ra_na 0 (Int32.toNatClampNeg (54 : Int32))) (Int32.toNatClampNeg (54 : Int32))) 2 a 2 (.ref (hoH h a 2 l2).2.1) = some (hoH h a 3 l3) := by
    rw [el3]
    exact hoH_next (by omega)
  obtain ⟨l4, el4⟩ : ∃ l, l = l3.set 3 (.ref (a + 1 + 3)) := ⟨_, rfl⟩
  have len4 : l4.length = 20 := by rw [el4, List.length_set]; exact len3
  have s3 : ra_fW (ra_mk (hoH h a 3 l3) (ra_na 0 (Int32.toNatClampNeg (54 : Int32))) (Int32.toNatClampNeg (54 : Int32))) 2 a 3 (.ref (hoH h a 3 l3).2.1) = some (hoH h a 4 l4) := by
    rw [el4]
    exact hoH_next (by omega)
  obtain ⟨l5, el5⟩ : ∃ l, l = l4.set 4 (.ref (a + 1 + 4)) := ⟨_, rfl⟩
  have len5 : l5.length = 20 := by rw [el5, List.length_set]; exact len4
  have s4 : ra_fW (ra_mk (hoH h a 4 l4) (ra_nr 4 (Int32.toNatClampNeg (8 : Int32))) (Int32.toNatClampNeg (8 : Int32))) 2 a 4 (.ref (hoH h a 4 l4).2.1) = some (hoH h a 5 l5) := by
    rw [el5]
    exact hoH_next (by omega)
  obtain ⟨l6, el6⟩ : ∃ l, l = l5.set 5 (.ref (a + 1 + 5)) := ⟨_, rfl⟩
  have len6 : l6.length = 20 := by rw [el6, List.length_set]; exact len5
  have s5 : ra_fW (ra_mk (hoH h a 5 l5) (ra_na 0 (Int32.toNatClampNeg (144 : Int32))) (Int32.toNatClampNeg (144 : Int32))) 2 a 5 (.ref (hoH h a 5 l5).2.1) = some (hoH h a 6 l6) := by
    rw [el6]
    exact hoH_next (by omega)
  obtain ⟨l7, el7⟩ : ∃ l, l = l6.set 6 (.ref (a + 1 + 6)) := ⟨_, rfl⟩
  have len7 : l7.length = 20 := by rw [el7, List.length_set]; exact len6
  have s6 : ra_fW (ra_mk (hoH h a 6 l6) (ra_na 0 (Int32.toNatClampNeg (12 : Int32))) (Int32.toNatClampNeg (12 : Int32))) 2 a 6 (.ref (hoH h a 6 l6).2.1) = some (hoH h a 7 l7) := by
    rw [el7]
    exact hoH_next (by omega)
  obtain ⟨l8, el8⟩ : ∃ l, l = l7.set 7 (.ref (a + 1 + 7)) := ⟨_, rfl⟩
  have len8 : l8.length = 20 := by rw [el8, List.length_set]; exact len7
  have s7 : ra_fW (ra_mk (hoH h a 7 l7) (ra_na 0 (Int32.toNatClampNeg (10 : Int32))) (Int32.toNatClampNeg (10 : Int32))) 2 a 7 (.ref (hoH h a 7 l7).2.1) = some (hoH h a 8 l8) := by
    rw [el8]
    exact hoH_next (by omega)
  obtain ⟨l9, el9⟩ : ∃ l, l = l8.set 8 (.ref (a + 1 + 8)) := ⟨_, rfl⟩
  have len9 : l9.length = 20 := by rw [el9, List.length_set]; exact len8
  have s8 : ra_fW (ra_mk (hoH h a 8 l8) (ra_na 0 (Int32.toNatClampNeg (10 : Int32))) (Int32.toNatClampNeg (10 : Int32))) 2 a 8 (.ref (hoH h a 8 l8).2.1) = some (hoH h a 9 l9) := by
    rw [el9]
    exact hoH_next (by omega)
  obtain ⟨l10, el10⟩ : ∃ l, l = l9.set 9 (.ref (a + 1 + 9)) := ⟨_, rfl⟩
  have len10 : l10.length = 20 := by rw [el10, List.length_set]; exact len9
  have s9 : ra_fW (ra_mk (hoH h a 9 l9) (ra_na 0 (Int32.toNatClampNeg (9 : Int32))) (Int32.toNatClampNeg (9 : Int32))) 2 a 9 (.ref (hoH h a 9 l9).2.1) = some (hoH h a 10 l10) := by
    rw [el10]
    exact hoH_next (by omega)
  obtain ⟨l11, el11⟩ : ∃ l, l = l10.set 10 (.ref (a + 1 + 10)) := ⟨_, rfl⟩
  have len11 : l11.length = 20 := by rw [el11, List.length_set]; exact len10
  have s10 : ra_fW (ra_mk (hoH h a 10 l10) (ra_na 0 (Int32.toNatClampNeg (12 : Int32))) (Int32.toNatClampNeg (12 : Int32))) 2 a 10 (.ref (hoH h a 10 l10).2.1) = some (hoH h a 11 l11) := by
    rw [el11]
    exact hoH_next (by omega)
  obtain ⟨l12, el12⟩ : ∃ l, l = l11.set 11 (.ref (a + 1 + 11)) := ⟨_, rfl⟩
  have len12 : l12.length = 20 := by rw [el12, List.length_set]; exact len11
  have s11 : ra_fW (ra_mk (hoH h a 11 l11) (ra_na 0 (Int32.toNatClampNeg (12 : Int32))) (Int32.toNatClampNeg (12 : Int32))) 2 a 11 (.ref (hoH h a 11 l11).2.1) = some (hoH h a 12 l12) := by
    rw [el12]
    exact hoH_next (by omega)
  obtain ⟨l13, el13⟩ : ∃ l, l = l12.set 12 (.ref (a + 1 + 12)) := ⟨_, rfl⟩
  have len13 : l13.length = 20 := by rw [el13, List.length_set]; exact len12
  have s12 : ra_fW (ra_mk (hoH h a 12 l12) (ra_na 0 (Int32.toNatClampNeg (12 : Int32))) (Int32.toNatClampNeg (12 : Int32))) 2 a 12 (.ref (hoH h a 12 l12).2.1) = some (hoH h a 13 l13) := by
    rw [el13]
    exact hoH_next (by omega)
  have w17 : ra_fW (hoH h a 13 l13) 2 a 17 (.int ((-1 : Int32))) = some (hoH h a 13 (l13.set 17 (.int ((-1 : Int32))))) := hoH_w (by omega)
  have w18 : ra_fW (hoH h a 13 (l13.set 17 (.int ((-1 : Int32))))) 2 a 18 (.int ((-1 : Int32))) = some (hoH h a 13 (hoF a hoI)) := by
    rw [hoH_w (by rw [List.length_set]; omega)]
    congr 2
    rw [el13, el12, el11, el10, el9, el8, el7, el6, el5, el4, el3, el2, el1, el0]
    rfl
  obtain ⟨H, eH⟩ : ∃ H, H = hoH h a 13 (hoF a hoI) := ⟨_, rfl⟩
  have K0 : H = hoK H a (fun _ => false) := by
    refine Prod.ext ?_ rfl
    funext k
    show H.1 k = (if a < k ∧ k ≤ a + 13 ∧ false = true then _ else H.1 k)
    rw [if_neg (fun z => absurd z.2.2 (by decide))]
  have cell : ∀ i, i < 13 → i ≠ 4 → H.1 (a + 1 + i) = .inl (0, hoL i, .inl (fun _ => 0)) := by
    intro i hi h4
    rw [eH]
    show (if a + 1 + i = a then _ else if a < a + 1 + i ∧ a + 1 + i ≤ a + 13 then hoC (a + 1 + i - a - 1) else _) = _
    rw [if_neg (by omega), if_pos (by omega), show a + 1 + i - a - 1 = i by omega]
    unfold hoC
    rw [if_neg h4]
    rfl
  have ob : ∀ S : Nat → Bool, (hoK H a S).1 a = .inr (2, hoF a hoI) := by
    intro S
    show (if a < a ∧ _ then _ else H.1 a) = _
    rw [if_neg (by omega), eH]
    exact if_pos rfl
  have fr : ∀ (S : Nat → Bool) j, j < 13 → ra_fR (hoK H a S) 2 a j = some (a + 1 + j) := fun S j hj => hol.fR (I := hoI) (ob S) hj
  have kc : ∀ (S : Nat → Bool) i, i < 13 → i ≠ 4 → S i = false → (hoK H a S).1 (a + 1 + i) = .inl (0, hoL i, .inl (fun _ => 0)) := by
    intro S i hi h4 hs
    show (if a < a + 1 + i ∧ a + 1 + i ≤ a + 13 ∧ S (a + 1 + i - a - 1) = true then _ else H.1 (a + 1 + i)) = _
    rw [show a + 1 + i - a - 1 = i by omega, hs, if_neg (fun z => absurd z.2.2 (by decide))]
    exact cell i hi h4
  have t2 := hoK_fill N (h := H) (a := a) (i := 2) (S := fun _ => false) (S' := fun x => x == 2) (by omega) (kc _ 2 (by omega) (by omega) rfl) (fun x => by by_cases e : x = 2 <;> simp [e]) hN
  have t3 := hoK_fill N (h := H) (a := a) (i := 3) (S := fun x => x == 2) (S' := fun x => x == 3 || x == 2) (by omega) (kc _ 3 (by omega) (by omega) rfl) (fun x => by by_cases e : x = 3 <;> simp [e]) hN
  have t8 := hoK_fill N (h := H) (a := a) (i := 8) (S := fun x => x == 3 || x == 2) (S' := fun x => x == 8 || (x == 3 || x == 2)) (by omega) (kc _ 8 (by omega) (by omega) rfl) (fun x => by by_cases e : x = 8 <;> simp [e]) hN
  have t12 := hoK_fill N (h := H) (a := a) (i := 12) (S := fun x => x == 8 || (x == 3 || x == 2)) (S' := fun x => x == 12 || (x == 8 || (x == 3 || x == 2))) (by omega) (kc _ 12 (by omega) (by omega) rfl) (fun x => by by_cases e : x = 12 <;> simp [e]) hN
  obtain ⟨S, eS⟩ : ∃ S : Nat → Bool, S = fun x => x == 12 || (x == 8 || (x == 3 || x == 2)) := ⟨_, rfl⟩
  refine ⟨hoK H a S, ?_, ⟨ob S, fun i hi h4 => ?_, ?_⟩, fun k hk => ?_, ?_, ?_, ?_⟩
  · unfold fX2_init nX2_init_0
    rw [b, ← el0]
    rw [if_neg (show ¬ ((480 : Int32) < 0 ∨ 50000000 < (Int32.toNatClampNeg (480 : Int32))) by decide)]
    refine Eq.trans (congrArg (fun z => Option.bind z _) s0) ?_
    rw [Option.bind_some]
    rw [if_neg (show ¬ ((9 : Int32) < 0 ∨ 50000000 < (Int32.toNatClampNeg (9 : Int32))) by decide)]
    refine Eq.trans (congrArg (fun z => Option.bind z _) s1) ?_
    rw [Option.bind_some]
    rw [if_neg (show ¬ ((54 : Int32) < 0 ∨ 50000000 < (Int32.toNatClampNeg (54 : Int32))) by decide)]
    refine Eq.trans (congrArg (fun z => Option.bind z _) s2) ?_
    rw [Option.bind_some]
    rw [if_neg (show ¬ ((54 : Int32) < 0 ∨ 50000000 < (Int32.toNatClampNeg (54 : Int32))) by decide)]
    refine Eq.trans (congrArg (fun z => Option.bind z _) s3) ?_
    rw [Option.bind_some]
    rw [if_neg (show ¬ ((8 : Int32) < 0 ∨ 50000000 < (Int32.toNatClampNeg (8 : Int32))) by decide)]
    refine Eq.trans (congrArg (fun z => Option.bind z _) s4) ?_
    rw [Option.bind_some]
    rw [if_neg (show ¬ ((144 : Int32) < 0 ∨ 50000000 < (Int32.toNatClampNeg (144 : Int32))) by decide)]
    refine Eq.trans (congrArg (fun z => Option.bind z _) s5) ?_
    rw [Option.bind_some]
    rw [if_neg (show ¬ ((12 : Int32) < 0 ∨ 50000000 < (Int32.toNatClampNeg (12 : Int32))) by decide)]
    refine Eq.trans (congrArg (fun z => Option.bind z _) s6) ?_
    rw [Option.bind_some]
    rw [if_neg (show ¬ ((10 : Int32) < 0 ∨ 50000000 < (Int32.toNatClampNeg (10 : Int32))) by decide)]
    refine Eq.trans (congrArg (fun z => Option.bind z _) s7) ?_
    rw [Option.bind_some]
    rw [if_neg (show ¬ ((10 : Int32) < 0 ∨ 50000000 < (Int32.toNatClampNeg (10 : Int32))) by decide)]
    refine Eq.trans (congrArg (fun z => Option.bind z _) s8) ?_
    rw [Option.bind_some]
    rw [if_neg (show ¬ ((9 : Int32) < 0 ∨ 50000000 < (Int32.toNatClampNeg (9 : Int32))) by decide)]
    refine Eq.trans (congrArg (fun z => Option.bind z _) s9) ?_
    rw [Option.bind_some]
    rw [if_neg (show ¬ ((12 : Int32) < 0 ∨ 50000000 < (Int32.toNatClampNeg (12 : Int32))) by decide)]
    refine Eq.trans (congrArg (fun z => Option.bind z _) s10) ?_
    rw [Option.bind_some]
    rw [if_neg (show ¬ ((12 : Int32) < 0 ∨ 50000000 < (Int32.toNatClampNeg (12 : Int32))) by decide)]
    refine Eq.trans (congrArg (fun z => Option.bind z _) s11) ?_
    rw [Option.bind_some]
    rw [if_neg (show ¬ ((12 : Int32) < 0 ∨ 50000000 < (Int32.toNatClampNeg (12 : Int32))) by decide)]
    refine Eq.trans (congrArg (fun z => Option.bind z _) s12) ?_
    rw [Option.bind_some]
    have fr0 : ra_fR H 2 a 2 = some (a + 1 + 2) := by
      have z := fr (fun _ => false) 2 (by omega)
      rw [← K0] at z
      exact z
    have t2' := t2
    rw [← K0] at t2'
    rw [w17, Option.bind_some, w18, Option.bind_some, ← eH]
    refine Eq.trans (congrArg (fun z => Option.bind z _) fr0) ?_
    rw [Option.bind_some]
    refine Eq.trans (congrArg (fun z => Option.bind z _) t2') ?_
    rw [Option.bind_some]
    refine Eq.trans (congrArg (fun z => Option.bind z _) (fr _ 3 (by omega))) ?_
    rw [Option.bind_some]
    refine Eq.trans (congrArg (fun z => Option.bind z _) t3) ?_
    rw [Option.bind_some]
    refine Eq.trans (congrArg (fun z => Option.bind z _) (fr _ 8 (by omega))) ?_
    rw [Option.bind_some]
    refine Eq.trans (congrArg (fun z => Option.bind z _) t8) ?_
    rw [Option.bind_some]
    refine Eq.trans (congrArg (fun z => Option.bind z _) (fr _ 12 (by omega))) ?_
    rw [Option.bind_some]
    refine Eq.trans (congrArg (fun z => Option.bind z _) t12) ?_
    rw [Option.bind_some, eS]
  · show (if a < a + 1 + i ∧ a + 1 + i ≤ a + 13 ∧ S (a + 1 + i - a - 1) = true then _ else H.1 (a + 1 + i)) = _
    rw [show a + 1 + i - a - 1 = i by omega]
    by_cases c : S i = true
    · rw [if_pos ⟨by omega, by omega, c⟩]
    · rw [if_neg (fun z => c z.2.2), cell i hi h4]
      have hr : hoR i = fun _ => 0 := by
        funext x
        have : hoV i = n3 0 := by
          rw [eS] at c
          have c' : ¬ i = 12 ∧ ¬ i = 8 ∧ ¬ i = 3 ∧ ¬ i = 2 := by
            refine ⟨?_, ?_, ?_, ?_⟩ <;> (intro z; apply c; rw [z]; rfl)
          unfold hoV
          rw [if_neg c'.2.2.2, if_neg c'.2.2.1, if_neg c'.2.1, if_neg c'.1]
        unfold hoR
        rw [this, ite_self]
        rfl
      rw [hr]
  · show (if a < a + 5 ∧ a + 5 ≤ a + 13 ∧ S (a + 5 - a - 1) = true then _ else H.1 (a + 5)) = _
    rw [show a + 5 - a - 1 = 4 by omega, eS, if_neg (fun z => absurd z.2.2 (by decide)), eH]
    show (if a + 5 = a then _ else if a < a + 5 ∧ a + 5 ≤ a + 13 then hoC (a + 5 - a - 1) else _) = _
    rw [if_neg (by omega), if_pos (by omega), show a + 5 - a - 1 = 4 by omega]
    rfl
  · show (if a < k ∧ k ≤ a + 13 ∧ _ then _ else H.1 k) = _
    rw [if_neg (by omega), eH]
    show (if k = a then _ else if a < k ∧ k ≤ a + 13 then _ else h.1 k) = _
    rw [if_neg (by omega), if_neg (by omega)]
  · rw [show (hoK H a S).2 = H.2 from rfl, eH]
    rfl
  · rw [show (hoK H a S).2 = H.2 from rfl, eH]
    rfl
  · rw [show (hoK H a S).2 = H.2 from rfl, eH]
    rfl
