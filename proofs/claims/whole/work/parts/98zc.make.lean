/-! what constructors make: an object at a with what lies behind it -/
def ch (h0 : ra_H) (a c : Nat) (o : List Value) (r : List ra_C) (s : Nat) : ra_H := (fun k => if k < a then h0.1 k else if k = a then .inr (c, o) else (r[k - a - 1]?).getD (h0.1 k), a + 1 + r.length, s, h0.2.2.2)
def rfO : Option Value → Option Nat
  | some (.ref x) => some x
  | _ => none
theorem rfO_s {x : Nat} : rfO (some (.ref x)) = some x := rfl
theorem st_eq {l : List Value} {i : Nat} {v : Value} (h : i < l.length) : (l.set i v)[i]? = some v := by simp [h]
theorem st_ne {l : List Value} {i j : Nat} {v : Value} (h : i ≠ j) : (l.set i v)[j]? = l[j]? := by simp [h]
theorem na_0 {n : Nat} : ra_na 0 n = .inl (0, n, .inl (fun _ => 0)) := rfl
theorem na_1 {n : Nat} : ra_na 1 n = .inl (1, n, .inr (.inl (fun _ => 0))) := rfl
theorem na_2 {n : Nat} : ra_na 2 n = .inl (2, n, .inl (fun _ => 0)) := rfl
theorem na_3 {n : Nat} : ra_na 3 n = .inl (3, n, .inl (fun _ => 0)) := rfl
section
variable {h0 : ra_H} {a c : Nat} {o : List Value} {r : List ra_C} {s : Nat}
theorem ch_n : (ch h0 a c o r s).2.1 = a + 1 + r.length := rfl
theorem ch_at : (ch h0 a c o r s).1 a = .inr (c, o) := by
  show (if a < a then h0.1 a else if a = a then .inr (c, o) else (r[a - a - 1]?).getD (h0.1 a)) = _
  rw [if_neg (Nat.lt_irrefl a), if_pos rfl]
theorem ch_rr {i : Nat} {d : ra_C} (hi : r[i]? = some d) : (ch h0 a c o r s).1 (a + 1 + i) = d := by
  show (if a + 1 + i < a then h0.1 (a + 1 + i) else if a + 1 + i = a then .inr (c, o) else (r[a + 1 + i - a - 1]?).getD (h0.1 (a + 1 + i))) = _
  rw [if_neg (by omega), if_neg (by omega), show a + 1 + i - a - 1 = i by omega, hi]
  rfl
theorem ch_up {i : Nat} {d : ra_C} (hi : i < r.length) : ((ra_up (ch h0 a c o r s).1 (a + 1 + i) d, (ch h0 a c o r s).2) : ra_H) = ch h0 a c o (r.set i d) s := by
  refine Prod.ext ?_ (Prod.ext ?_ rfl)
  · funext k
    show (if k = a + 1 + i then d else (if k < a then h0.1 k else if k = a then .inr (c, o) else (r[k - a - 1]?).getD (h0.1 k))) = (if k < a then h0.1 k else if k = a then .inr (c, o) else ((r.set i d)[k - a - 1]?).getD (h0.1 k))
    by_cases e : k = a + 1 + i
    · subst e
      rw [if_pos rfl, if_neg (by omega), if_neg (by omega), show a + 1 + i - a - 1 = i by omega]
      simp [hi]
    · rw [if_neg e]
      by_cases e1 : k < a
      · rw [if_pos e1, if_pos e1]
      · by_cases e2 : k = a
        · rw [if_neg e1, if_pos e2, if_neg e1, if_pos e2]
        · rw [if_neg e1, if_neg e2, if_neg e1, if_neg e2, List.getElem?_set_ne (by omega)]
  · show a + 1 + r.length = a + 1 + (r.set i d).length
    rw [List.length_set]
theorem ch_mk (d : ra_C) (n : Nat) : ra_mk (ch h0 a c o r s) d n = ch h0 a c o (r ++ [d]) (s + n) := by
  refine Prod.ext ?_ (Prod.ext ?_ rfl)
  · funext k
    show (if k = a + 1 + r.length then d else (if k < a then h0.1 k else if k = a then .inr (c, o) else (r[k - a - 1]?).getD (h0.1 k))) = (if k < a then h0.1 k else if k = a then .inr (c, o) else ((r ++ [d])[k - a - 1]?).getD (h0.1 k))
    by_cases e : k = a + 1 + r.length
    · rw [if_pos e, if_neg (by omega), if_neg (by omega), show k - a - 1 = r.length by omega, List.getElem?_concat_length]
      rfl
    · rw [if_neg e]
      by_cases e1 : k < a
      · rw [if_pos e1, if_pos e1]
      · by_cases e2 : k = a
        · rw [if_neg e1, if_pos e2, if_neg e1, if_pos e2]
        · rw [if_neg e1, if_neg e2, if_neg e1, if_neg e2]
          by_cases e3 : k - a - 1 < r.length
          · rw [List.getElem?_append_left e3]
          · rw [List.getElem?_eq_none (by omega), List.getElem?_eq_none (by rw [List.length_append, List.length_singleton]; omega)]
  · show a + 1 + r.length + 1 = a + 1 + (r ++ [d]).length
    rw [List.length_append, List.length_singleton]
    omega
theorem ch_0 {h : ra_H} {n : Nat} (e : h.2.1 = a) : ra_mk h (.inr (c, o)) n = ch h a c o [] (h.2.2.1 + n) := by
  subst e
  refine Prod.ext ?_ rfl
  funext k
  show (if k = h.2.1 then .inr (c, o) else h.1 k) = (if k < h.2.1 then h.1 k else if k = h.2.1 then .inr (c, o) else h.1 k)
  by_cases e1 : k = h.2.1
  · rw [if_pos e1, if_neg (by omega)]
  · rw [if_neg e1, ite_self]
theorem ch_fW {j : Nat} {v : Value} (hj : j < o.length) : ra_fW (ch h0 a c o r s) c a j v = some (ch h0 a c (o.set j v) r s) := by
  unfold ra_fW
  rw [ch_at]
  show (if c = c then (if j < o.length then some ((ra_up (ch h0 a c o r s).1 a (.inr (c, o.set j v)), (ch h0 a c o r s).2) : ra_H) else none) else none) = _
  rw [if_pos rfl, if_pos hj]
  congr 1
  refine Prod.ext ?_ rfl
  funext k
  show (if k = a then .inr (c, o.set j v) else (if k < a then h0.1 k else if k = a then .inr (c, o) else (r[k - a - 1]?).getD (h0.1 k))) = (if k < a then h0.1 k else if k = a then .inr (c, o.set j v) else (r[k - a - 1]?).getD (h0.1 k))
  by_cases e : k = a
  · rw [if_pos e, if_neg (by omega), if_pos e]
  · rw [if_neg e, if_neg e, if_neg e]
theorem ch_fR {j : Nat} : ra_fR (ch h0 a c o r s) c a j = rfO (o[j]?) := by
  unfold ra_fR
  rw [ch_at]
  show (if c = c then (match o[j]? with
    | some (.ref x) => some x
    | _ => none) else none) = _
  rw [if_pos rfl]
  rfl
theorem ch_fR2 {j c2 : Nat} {o2 : List Value} {r1 r2 : List ra_C} {x : ra_C} : ra_fR (ch h0 a c o (r1 ++ (.inr (c2, o2) :: r2) ++ [x]) s) c2 (a + 1 + r1.length) j = rfO (o2[j]?) := by
  unfold ra_fR
  rw [ch_rr (d := .inr (c2, o2)) (by simp)]
  show (if c2 = c2 then (match o2[j]? with
    | some (.ref x) => some x
    | _ => none) else none) = _
  rw [if_pos rfl]
  rfl
theorem ch_flat {c' : Nat} {o' : List Value} {r' : List ra_C} {s' : Nat} : ch (ch h0 a c o r s) (a + 1 + r.length) c' o' r' s' = ch h0 a c o (r ++ (.inr (c', o') :: r')) s' := by
  refine Prod.ext ?_ (Prod.ext ?_ rfl)
  · funext k
    show (if k < a + 1 + r.length then (if k < a then h0.1 k else if k = a then .inr (c, o) else (r[k - a - 1]?).getD (h0.1 k)) else if k = a + 1 + r.length then .inr (c', o') else (r'[k - (a + 1 + r.length) - 1]?).getD (if k < a then h0.1 k else if k = a then .inr (c, o) else (r[k - a - 1]?).getD (h0.1 k))) = (if k < a then h0.1 k else if k = a then .inr (c, o) else ((r ++ (.inr (c', o') :: r'))[k - a - 1]?).getD (h0.1 k))
    by_cases e1 : k < a
    · rw [if_pos (by omega), if_pos e1, if_pos e1]
    · by_cases e2 : k = a
      · rw [if_pos (by omega), if_neg e1, if_pos e2, if_neg e1, if_pos e2]
      · by_cases e3 : k < a + 1 + r.length
        · rw [if_pos e3, if_neg e1, if_neg e2, if_neg e1, if_neg e2, List.getElem?_append_left (by omega)]
        · rw [if_neg e3, if_neg e1, if_neg e2, if_neg e1, if_neg e2, List.getElem?_append_right (by omega)]
          by_cases e4 : k = a + 1 + r.length
          · rw [if_pos e4, show k - a - 1 - r.length = 0 by omega]
            rfl
          · rw [if_neg e4, show k - a - 1 - r.length = (k - (a + 1 + r.length) - 1) + 1 by omega, List.getElem?_cons_succ, List.getElem?_eq_none (l := r) (by omega)]
            rfl
  · show a + 1 + r.length + 1 + r'.length = a + 1 + (r ++ (.inr (c', o') :: r')).length
    rw [List.length_append, List.length_cons]
    omega
/-- a constructor's run put into a longer one -/
theorem ch_run {f : Nat → ra_H → Option ra_H} {c' d : Nat} {df : List Value} {o' : Nat → List Value} {r' : Nat → List ra_C} (hf : ∀ h b s, f b (ch h b c' df [] s) = some (ch h b c' (o' b) (r' b) (s + d))) : f (a + 1 + r.length) (ch h0 a c o (r ++ [.inr (c', df)]) s) = some (ch h0 a c o (r ++ (.inr (c', o' (a + 1 + r.length)) :: r' (a + 1 + r.length))) (s + d)) := by
  rw [← ch_flat (s := 0), hf, ch_flat]
theorem ch_wL {n : Nat} {f : Nat → Int64} {x : Int32} {v : Int64} (hx : ¬ (x < 0 ∨ n ≤ x.toNatClampNeg)) : ra_aWJ (ch h0 a c o (r ++ [.inl (1, n, .inr (.inl f))]) s) (a + 1 + r.length) x v = some (ch h0 a c o (r ++ [.inl (1, n, .inr (.inl (vp_updL f x.toNatClampNeg v)))]) s) := by
  unfold ra_aWJ
  rw [ch_rr (d := .inl (1, n, .inr (.inl f))) (by simp)]
  show (if 1 = 1 then (if x < 0 ∨ n ≤ x.toNatClampNeg then none else some ((ra_up (ch h0 a c o (r ++ [.inl (1, n, .inr (.inl f))]) s).1 (a + 1 + r.length) (.inl (1, n, .inr (.inl (vp_updL f x.toNatClampNeg v)))), (ch h0 a c o (r ++ [.inl (1, n, .inr (.inl f))]) s).2) : ra_H)) else none) = _
  rw [if_pos rfl, if_neg hx, ch_up (by simp)]
  congr 2
  simp
theorem ch_fill {N n : Nat} {f : Nat → Int32} {v : Int32} (hn : n ≤ 100000) (hN : n < N) : fJ7_fill_53178 N (a + 1 + r.length) v (ch h0 a c o (r ++ [.inl (0, n, .inl f)]) s) = some (ch h0 a c o (r ++ [.inl (0, n, .inl (fun j => if j < n then v else f j))]) s) := by
  rw [f_fill N _ v n f _ (ch_rr (d := .inl (0, n, .inl f)) (by simp)) hn hN, ch_up (by simp)]
  congr 2
  simp
end
