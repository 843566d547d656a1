/-! reads and writes of the picture -/
def ra_fI (h : ra_H) (ci k j : Nat) : Option Int32 := match h.1 k with
  | .inr (c, fs) => if c = ci then (match fs[j]? with
    | some (.int x) => some x
    | _ => none) else none
  | .inl _ => none
def ra_fJ (h : ra_H) (ci k j : Nat) : Option Int64 := match h.1 k with
  | .inr (c, fs) => if c = ci then (match fs[j]? with
    | some (.long x) => some x
    | _ => none) else none
  | .inl _ => none
def ra_fR (h : ra_H) (ci k j : Nat) : Option Nat := match h.1 k with
  | .inr (c, fs) => if c = ci then (match fs[j]? with
    | some (.ref x) => some x
    | _ => none) else none
  | .inl _ => none
/-- a field that may be null -/
def ra_fN (h : ra_H) (ci k j : Nat) : Option (Option Nat) := match h.1 k with
  | .inr (c, fs) => if c = ci then (match fs[j]? with
    | some (.ref x) => some (some x)
    | some .null => some none
    | _ => none) else none
  | .inl _ => none
def ra_fW (h : ra_H) (ci k j : Nat) (v : Value) : Option ra_H := match h.1 k with
  | .inr (c, fs) => if c = ci then (if j < fs.length then some (ra_up h.1 k (.inr (ci, fs.set j v)), h.2) else none) else none
  | .inl _ => none
def ra_aI (h : ra_H) (t a : Nat) (i : Int32) : Option Int32 := match h.1 a with
  | .inl (t', n, .inl f) => if t' = t then (if i < 0 ∨ n ≤ i.toNatClampNeg then none else some (f i.toNatClampNeg)) else none
  | _ => none
def ra_aJ (h : ra_H) (a : Nat) (i : Int32) : Option Int64 := match h.1 a with
  | .inl (t', n, .inr (.inl f)) => if t' = 1 then (if i < 0 ∨ n ≤ i.toNatClampNeg then none else some (f i.toNatClampNeg)) else none
  | _ => none
def ra_aN (h : ra_H) (a : Nat) (i : Int32) : Option (Option Nat) := match h.1 a with
  | .inl (t', n, .inr (.inr (.inr (.inr f)))) => if t' = 4 ∨ t' = 5 then (if i < 0 ∨ n ≤ i.toNatClampNeg then none else some (f i.toNatClampNeg)) else none
  | _ => none
def ra_aW (h : ra_H) (t a : Nat) (i x : Int32) : Option ra_H := match h.1 a with
  | .inl (t', n, .inl f) => if t' = t then (if i < 0 ∨ n ≤ i.toNatClampNeg then none else some (ra_up h.1 a (.inl (t, n, .inl (upd f i.toNatClampNeg x))), h.2)) else none
  | _ => none
def ra_aWJ (h : ra_H) (a : Nat) (i : Int32) (x : Int64) : Option ra_H := match h.1 a with
  | .inl (t', n, .inr (.inl f)) => if t' = 1 then (if i < 0 ∨ n ≤ i.toNatClampNeg then none else some (ra_up h.1 a (.inl (1, n, .inr (.inl (vp_updL f i.toNatClampNeg x)))), h.2)) else none
  | _ => none
/-- which class the elements of an array of references are of -/
def ra_ec : Nat → Nat
  | 4 => 4
  | _ => 2
def ra_isOb (h : ra_H) (k ci : Nat) : Bool := match h.1 k with
  | .inr (c, _) => c == ci
  | .inl _ => false
def ra_aWR (h : ra_H) (a : Nat) (i : Int32) (k : Nat) : Option ra_H := match h.1 a with
  | .inl (t', n, .inr (.inr (.inr (.inr f)))) => if t' = 4 ∨ t' = 5 then (if ra_isOb h k (ra_ec t') = true then (if i < 0 ∨ n ≤ i.toNatClampNeg then none else some (ra_up h.1 a (.inl (t', n, .inr (.inr (.inr (.inr (va_up f i.toNatClampNeg (some k))))))), h.2)) else none) else none
  | _ => none
def ra_aWN (h : ra_H) (a : Nat) (i : Int32) : Option ra_H := match h.1 a with
  | .inl (t', n, .inr (.inr (.inr (.inr f)))) => if t' = 4 ∨ t' = 5 then (if i < 0 ∨ n ≤ i.toNatClampNeg then none else some (ra_up h.1 a (.inl (t', n, .inr (.inr (.inr (.inr (va_up f i.toNatClampNeg none)))))), h.2)) else none
  | _ => none
def ra_aL (h : ra_H) (a : Nat) : Option Int32 := match h.1 a with
  | .inl (t, n, _) => if t < 6 then some (Int32.ofNat n) else none
  | .inr _ => none
def ra_xI (h : ra_H) (u : UInt32) (i : Int32) : Option Int32 := if u.toNat < 3 then (if i < 0 ∨ (h.2.2.2 u.toNat).1 ≤ i.toNatClampNeg then none else some ((h.2.2.2 u.toNat).2 i.toNatClampNeg)) else none
def ra_xL (h : ra_H) (u : UInt32) : Option Int32 := if u.toNat < 3 then some (Int32.ofNat (h.2.2.2 u.toNat).1) else none
def ra_mk (h : ra_H) (c : ra_C) (n : Nat) : ra_H := (ra_up h.1 h.2.1 c, h.2.1 + 1, h.2.2.1 + n, h.2.2.2)
/-- a new array of numbers -/
def ra_na (t n : Nat) : ra_C := match t with
  | 1 => .inl (1, n, .inr (.inl (fun _ => 0)))
  | t => .inl (t, n, .inl (fun _ => 0))
/-- a new array of references -/
def ra_nr (t n : Nat) : ra_C := .inl (t, n, .inr (.inr (.inr (.inr (fun _ => none)))))
/-- copying ints -/
def ra_cp (h : ra_H) (a : Nat) (sp : Int32) (b : Nat) (dp n : Int32) : Option ra_H := match h.1 a, h.1 b with
  | .inl (0, n0, .inl f), .inl (0, n1, .inl g) => if sp < 0 ∨ dp < 0 ∨ n < 0 ∨ n0 < sp.toNatClampNeg + n.toNatClampNeg ∨ n1 < dp.toNatClampNeg + n.toNatClampNeg then none else some (ra_up h.1 b (.inl (0, n1, .inl (va_cpy f g sp.toNatClampNeg dp.toNatClampNeg n.toNatClampNeg))), h.2)
  | _, _ => none
def ra_df : Nat → List Value
  | 0 => [.null]
  | 1 => [.null, .null, .null, .null, .null, .null, .null, .null, .null, .int 0, .int 0, .null]
  | 2 => [.null, .null, .null, .null, .null, .null, .null, .null, .null, .null, .null, .null, .null, .int 0, .int 0, .int 0, .int 0, .int 0, .int 0, .int 0]
  | 3 => [.null, .null, .null, .null, .null, .null, .null, .null, .null, .null, .null, .null, .int 0, .null, .null, .int 0, .int 0, .int 0]
  | 4 => [.null, .null, .null]
  | 5 => [.null, .null, .null]
  | 6 => [.null, .null, .null, .null, .int 0, .null, .int 0]
  | 7 => [.null, .null, .null, .int 0]
  | 8 => [.null, .int 0, .int 0, .null, .null, .null, .int 0, .int 0, .int 0, .int 0, .int 0, .int 0]
  | 9 => [.null, .int 0, .int 0]
  | 10 => [.null, .null, .null, .null, .null, .null, .null, .int 0]
  | 11 => [.null, .null, .null, .null, .null, .null, .null, .null, .null, .null, .int 0, .int 0, .int 0]
  | 12 => [.int 0, .int 0, .null, .null, .null, .null, .int 0, .null, .int 0, .int 0, .int 0, .int 0, .long 0, .int 0, .int 0, .int 0, .null, .int 0, .null, .null, .int 0, .null, .null, .int 0, .int 0, .null, .null, .int 0, .null, .null, .int 0, .long 0, .long 0, .int 0, .long 0, .null, .null, .null, .int 0, .null, .null, .int 0, .null, .int 0, .null, .null, .null, .null, .null, .null, .null, .long 0, .null, .null, .null, .long 0, .int 0, .null]
  | _ => []
def ra_ld : List (Option Value) → Nat → Option Value
  | [], _ => none
  | x :: _, 0 => x
  | _ :: l, i + 1 => ra_ld l i
theorem ra_ld_eq : ∀ (L : List (Option Value)) (i : Nat) (v : Value), ra_ld L i = some v → L[i]? = some (some v) := by
  intro L
  induction L with
  | nil => intro i v h; cases h
  | cons x l ih =>
    intro i v h
    cases i with
    | zero => simp only [ra_ld] at h; simp [h]
    | succ i => simp only [ra_ld] at h; simpa using ih i v h
abbrev ra_Z : Type := List (Option Value) × List Value × ra_H
def ra_s1 (f : Int32 → Value) : List Value → Option (List Value)
  | .int x :: S => some (f x :: S)
  | _ => none
def ra_s2 (f : Int32 → Int32 → Value) : List Value → Option (List Value)
  | .int y :: .int x :: S => some (f x y :: S)
  | _ => none
def ra_l1 (f : Int64 → Value) : List Value → Option (List Value)
  | .long x :: S => some (f x :: S)
  | _ => none
def ra_l2 (f : Int64 → Int64 → Value) : List Value → Option (List Value)
  | .long y :: .long x :: S => some (f x y :: S)
  | _ => none
def ra_cat : List Value → Nat
  | [] => 0
  | v :: S => v.category + ra_cat S
/-- one instruction that neither jumps nor calls a method of ours; n1, n2, n3, v, w: what its operands say -/
def ra_x (i : Instr) (n1 n2 n3 : Nat) (v : Int32) (w : Int64) (L : List (Option Value)) (S : List Value) (h : ra_H) : Option ra_Z := match i with
  | .iconst _ => some (L, .int v :: S, h)
  | .bipush _ => some (L, .int v :: S, h)
  | .sipush _ => some (L, .int v :: S, h)
  | .ldc _ => match n3 with
    | 0 => some (L, .int v :: S, h)
    | _ => some (L, .float (UInt32.ofNat n1) :: S, h)
  | .ldc_w _ => some (L, .int v :: S, h)
  | .ldc2_w _ => some (L, .long w :: S, h)
  | .lconst _ => some (L, .long w :: S, h)
  | .aconst_null => some (L, .null :: S, h)
  | .iload _ => match ra_ld L n1 with
    | some (.int x) => some (L, .int x :: S, h)
    | _ => none
  | .iload_n _ => match ra_ld L n1 with
    | some (.int x) => some (L, .int x :: S, h)
    | _ => none
  | .lload _ => match ra_ld L n1 with
    | some (.long x) => some (L, .long x :: S, h)
    | _ => none
  | .lload_n _ => match ra_ld L n1 with
    | some (.long x) => some (L, .long x :: S, h)
    | _ => none
  | .aload _ => match ra_ld L n1 with
    | some (.ref x) => some (L, .ref x :: S, h)
    | some .null => some (L, .null :: S, h)
    | some (.float x) => some (L, .float x :: S, h)
    | _ => none
  | .aload_n _ => match ra_ld L n1 with
    | some (.ref x) => some (L, .ref x :: S, h)
    | some .null => some (L, .null :: S, h)
    | some (.float x) => some (L, .float x :: S, h)
    | _ => none
  | .istore _ => match S with
    | .int x :: S => some (ra_st (.int x) L n1, S, h)
    | _ => none
  | .istore_n _ => match S with
    | .int x :: S => some (ra_st (.int x) L n1, S, h)
    | _ => none
  | .lstore _ => match S with
    | .long x :: S => some (ra_st2 (.long x) L n1, S, h)
    | _ => none
  | .lstore_n _ => match S with
    | .long x :: S => some (ra_st2 (.long x) L n1, S, h)
    | _ => none
  | .astore _ => match S with
    | .ref x :: S => some (ra_st (.ref x) L n1, S, h)
    | .null :: S => some (ra_st .null L n1, S, h)
    | .float x :: S => some (ra_st (.float x) L n1, S, h)
    | _ => none
  | .astore_n _ => match S with
    | .ref x :: S => some (ra_st (.ref x) L n1, S, h)
    | .null :: S => some (ra_st .null L n1, S, h)
    | .float x :: S => some (ra_st (.float x) L n1, S, h)
    | _ => none
  | .iinc _ _ => match ra_ld L n1 with
    | some (.int x) => some (ra_st (.int (x + v)) L n1, S, h)
    | _ => none
  | .iadd => (ra_s2 (fun x y => .int (x + y)) S).map (fun S => (L, S, h))
  | .isub => (ra_s2 (fun x y => .int (x - y)) S).map (fun S => (L, S, h))
  | .imul => (ra_s2 (fun x y => .int (x * y)) S).map (fun S => (L, S, h))
  | .iand => (ra_s2 (fun x y => .int (x &&& y)) S).map (fun S => (L, S, h))
  | .ior => (ra_s2 (fun x y => .int (x ||| y)) S).map (fun S => (L, S, h))
  | .ixor => (ra_s2 (fun x y => .int (x ^^^ y)) S).map (fun S => (L, S, h))
  | .ishl => (ra_s2 (fun x y => .int (x <<< (y &&& 31))) S).map (fun S => (L, S, h))
  | .ishr => (ra_s2 (fun x y => .int (x >>> (y &&& 31))) S).map (fun S => (L, S, h))
  | .iushr => (ra_s2 (fun x y => .int ((x.toUInt32 >>> (y.toUInt32 &&& Int32.toUInt32 31)).toInt32)) S).map (fun S => (L, S, h))
  | .ineg => (ra_s1 (fun x => .int (-x)) S).map (fun S => (L, S, h))
  | .i2l => (ra_s1 (fun x => .long x.toInt64) S).map (fun S => (L, S, h))
  | .i2s => (ra_s1 (fun x => .int x.toInt16.toInt32) S).map (fun S => (L, S, h))
  | .l2i => (ra_l1 (fun x => .int x.toInt32) S).map (fun S => (L, S, h))
  | .ladd => (ra_l2 (fun x y => .long (x + y)) S).map (fun S => (L, S, h))
  | .lsub => (ra_l2 (fun x y => .long (x - y)) S).map (fun S => (L, S, h))
  | .lmul => (ra_l2 (fun x y => .long (x * y)) S).map (fun S => (L, S, h))
  | .lcmp => (ra_l2 (fun x y => .int (lg_cmp x y)) S).map (fun S => (L, S, h))
  | .idiv => match S with
    | .int y :: .int x :: S => if y = 0 then none else some (L, .int (x / y) :: S, h)
    | _ => none
  | .irem => match S with
    | .int y :: .int x :: S => if y = 0 then none else some (L, .int (x - x / y * y) :: S, h)
    | _ => none
  | .ldiv => match S with
    | .long y :: .long x :: S => if y = 0 then none else some (L, .long (x / y) :: S, h)
    | _ => none
  | .lrem => match S with
    | .long y :: .long x :: S => if y = 0 then none else some (L, .long (x - x / y * y) :: S, h)
    | _ => none
  | .dup => match S with
    | a :: S => (match a.category with
      | 1 => some (L, a :: a :: S, h)
      | _ => none)
    | _ => none
  | .dup2 => match S with
    | a :: b :: S => (match a.category, b.category with
      | 1, 1 => some (L, a :: b :: a :: b :: S, h)
      | _, _ => none)
    | _ => none
  | .pop => match S with
    | a :: S => (match a.category with
      | 1 => some (L, S, h)
      | _ => none)
    | _ => none
  | .getfield _ => match S with
    | .ref k :: S => (match n3 with
      | 0 => (ra_fI h n1 k n2).bind (fun x => some (L, .int x :: S, h))
      | 1 => (ra_fJ h n1 k n2).bind (fun x => some (L, .long x :: S, h))
      | _ => (ra_fR h n1 k n2).bind (fun x => some (L, .ref x :: S, h)))
    | _ => none
  | .putfield _ => match S with
    | .int x :: .ref k :: S => (match n3 with
      | 0 => (ra_fW h n1 k n2 (.int x)).bind (fun h => some (L, S, h))
      | 4 => if x = 0 ∨ x = 1 then (ra_fW h n1 k n2 (.int x)).bind (fun h => some (L, S, h)) else none
      | _ => none)
    | .long x :: .ref k :: S => (match n3 with
      | 1 => (ra_fW h n1 k n2 (.long x)).bind (fun h => some (L, S, h))
      | _ => none)
    | .ref x :: .ref k :: S => (match n3 with
      | 2 => (ra_fW h n1 k n2 (.ref x)).bind (fun h => some (L, S, h))
      | _ => none)
    | .null :: .ref k :: S => (match n3 with
      | 2 => (ra_fW h n1 k n2 .null).bind (fun h => some (L, S, h))
      | _ => none)
    | _ => none
  | .iaload => match S with
    | .int j :: .ref a :: S => (ra_aI h 0 a j).bind (fun x => some (L, .int x :: S, h))
    | .int j :: .float u :: S => (ra_xI h u j).bind (fun x => some (L, .int x :: S, h))
    | _ => none
  | .baload => match S with
    | .int j :: .ref a :: S => (ra_aI h 2 a j).bind (fun x => some (L, .int x :: S, h))
    | _ => none
  | .saload => match S with
    | .int j :: .ref a :: S => (ra_aI h 3 a j).bind (fun x => some (L, .int x :: S, h))
    | _ => none
  | .laload => match S with
    | .int j :: .ref a :: S => (ra_aJ h a j).bind (fun x => some (L, .long x :: S, h))
    | _ => none
  | .iastore => match S with
    | .int x :: .int j :: .ref a :: S => (ra_aW h 0 a j x).bind (fun h => some (L, S, h))
    | _ => none
  | .bastore => match S with
    | .int x :: .int j :: .ref a :: S => (ra_aW h 2 a j (vp_nar .boolean x)).bind (fun h => some (L, S, h))
    | _ => none
  | .sastore => match S with
    | .int x :: .int j :: .ref a :: S => (ra_aW h 3 a j (vp_nar .short x)).bind (fun h => some (L, S, h))
    | _ => none
  | .lastore => match S with
    | .long x :: .int j :: .ref a :: S => (ra_aWJ h a j x).bind (fun h => some (L, S, h))
    | _ => none
  | .aastore => match S with
    | .ref k :: .int j :: .ref a :: S => (ra_aWR h a j k).bind (fun h => some (L, S, h))
    | .null :: .int j :: .ref a :: S => (ra_aWN h a j).bind (fun h => some (L, S, h))
    | _ => none
  | .arraylength => match S with
    | .ref a :: S => (ra_aL h a).bind (fun x => some (L, .int x :: S, h))
    | .float u :: S => (ra_xL h u).bind (fun x => some (L, .int x :: S, h))
    | _ => none
  | .newarray _ => match S with
    | .int n :: S => if n < 0 ∨ 50000000 < n.toNatClampNeg then none else some (L, .ref h.2.1 :: S, ra_mk h (ra_na n1 n.toNatClampNeg) n.toNatClampNeg)
    | _ => none
  | .anewarray _ => match S with
    | .int n :: S => if n < 0 ∨ 50000000 < n.toNatClampNeg then none else some (L, .ref h.2.1 :: S, ra_mk h (ra_nr n1 n.toNatClampNeg) n.toNatClampNeg)
    | _ => none
  | .new _ => some (L, .ref h.2.1 :: S, ra_mk h (.inr (n1, ra_df n1)) n2)
  | .getstatic _ => some (L, .float (UInt32.ofNat n1) :: S, h)
  | .invokestatic _ => match Nat.ble (ra_cat S) 8 with
    | true => (match n3 with
      | 20 => (ra_s2 (fun x y => .int (if x < y then y else x)) S).map (fun S => (L, S, h))
      | 21 => (ra_s2 (fun x y => .int (if y < x then y else x)) S).map (fun S => (L, S, h))
      | 22 => (match S with
        | .int n :: .int dp :: .ref b :: .int sp :: .ref a :: S => (ra_cp h a sp b dp n).bind (fun h => some (L, S, h))
        | _ => none)
      | _ => none)
    | false => none
  | .invokespecial _ => match Nat.ble (ra_cat S) 8 with
    | true => (match n3 with
      | 23 => (match S with
        | .ref _ :: S => some (L, S, h)
        | _ => none)
      | _ => none)
    | false => none
  | _ => none
theorem ra_cat_eq (G : ra_G) : ∀ S : List Value, ((S.map (ra_v G)).map fun v => v.category).sum = ra_cat S
  | [] => rfl
  | v :: S => by
    simp only [List.map_cons, List.sum_cons, ra_cat, ra_v_cat, ra_cat_eq G S]
