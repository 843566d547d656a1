def ra_xk {β : Type} (i : Instr) (n1 n2 n3 : Nat) (v : Int32) (w : Int64) (L : List (Option Value)) (S : List Value) (h : ra_H) (k9 : List (Option Value) → List Value → ra_H → Option β) : Option β := match i with
  | .iconst _ => k9 (L) (.int v :: S) (h)
  | .bipush _ => k9 (L) (.int v :: S) (h)
  | .sipush _ => k9 (L) (.int v :: S) (h)
  | .ldc _ => match n3 with
    | 0 => k9 (L) (.int v :: S) (h)
    | _ => k9 (L) (.float (UInt32.ofNat n1) :: S) (h)
  | .ldc_w _ => k9 (L) (.int v :: S) (h)
  | .ldc2_w _ => k9 (L) (.long w :: S) (h)
  | .lconst _ => k9 (L) (.long w :: S) (h)
  | .aconst_null => k9 (L) (.null :: S) (h)
  | .iload _ => match ra_ld L n1 with
    | some (.int x) => k9 (L) (.int x :: S) (h)
    | _ => none
  | .iload_n _ => match ra_ld L n1 with
    | some (.int x) => k9 (L) (.int x :: S) (h)
    | _ => none
  | .lload _ => match ra_ld L n1 with
    | some (.long x) => k9 (L) (.long x :: S) (h)
    | _ => none
  | .lload_n _ => match ra_ld L n1 with
    | some (.long x) => k9 (L) (.long x :: S) (h)
    | _ => none
  | .aload _ => match ra_ld L n1 with
    | some (.ref x) => k9 (L) (.ref x :: S) (h)
    | some .null => k9 (L) (.null :: S) (h)
    | some (.float x) => k9 (L) (.float x :: S) (h)
    | _ => none
  | .aload_n _ => match ra_ld L n1 with
    | some (.ref x) => k9 (L) (.ref x :: S) (h)
    | some .null => k9 (L) (.null :: S) (h)
    | some (.float x) => k9 (L) (.float x :: S) (h)
    | _ => none
  | .istore _ => match S with
    | .int x :: S => k9 (ra_st (.int x) L n1) (S) (h)
    | _ => none
  | .istore_n _ => match S with
    | .int x :: S => k9 (ra_st (.int x) L n1) (S) (h)
    | _ => none
  | .lstore _ => match S with
    | .long x :: S => k9 (ra_st2 (.long x) L n1) (S) (h)
    | _ => none
  | .lstore_n _ => match S with
    | .long x :: S => k9 (ra_st2 (.long x) L n1) (S) (h)
    | _ => none
  | .astore _ => match S with
    | .ref x :: S => k9 (ra_st (.ref x) L n1) (S) (h)
    | .null :: S => k9 (ra_st .null L n1) (S) (h)
    | .float x :: S => k9 (ra_st (.float x) L n1) (S) (h)
    | _ => none
  | .astore_n _ => match S with
    | .ref x :: S => k9 (ra_st (.ref x) L n1) (S) (h)
    | .null :: S => k9 (ra_st .null L n1) (S) (h)
    | .float x :: S => k9 (ra_st (.float x) L n1) (S) (h)
    | _ => none
  | .iinc _ _ => match ra_ld L n1 with
    | some (.int x) => k9 (ra_st (.int (x + v)) L n1) (S) (h)
    | _ => none
  | .iadd => (ra_s2 (fun x y => .int (x + y)) S).bind (fun S => k9 L S h)
  | .isub => (ra_s2 (fun x y => .int (x - y)) S).bind (fun S => k9 L S h)
  | .imul => (ra_s2 (fun x y => .int (x * y)) S).bind (fun S => k9 L S h)
  | .iand => (ra_s2 (fun x y => .int (x &&& y)) S).bind (fun S => k9 L S h)
  | .ior => (ra_s2 (fun x y => .int (x ||| y)) S).bind (fun S => k9 L S h)
  | .ixor => (ra_s2 (fun x y => .int (x ^^^ y)) S).bind (fun S => k9 L S h)
  | .ishl => (ra_s2 (fun x y => .int (x <<< (y &&& 31))) S).bind (fun S => k9 L S h)
  | .ishr => (ra_s2 (fun x y => .int (x >>> (y &&& 31))) S).bind (fun S => k9 L S h)
  | .iushr => (ra_s2 (fun x y => .int ((x.toUInt32 >>> (y.toUInt32 &&& Int32.toUInt32 31)).toInt32)) S).bind (fun S => k9 L S h)
  | .ineg => (ra_s1 (fun x => .int (-x)) S).bind (fun S => k9 L S h)
  | .i2l => (ra_s1 (fun x => .long x.toInt64) S).bind (fun S => k9 L S h)
  | .i2s => (ra_s1 (fun x => .int x.toInt16.toInt32) S).bind (fun S => k9 L S h)
  | .l2i => (ra_l1 (fun x => .int x.toInt32) S).bind (fun S => k9 L S h)
  | .ladd => (ra_l2 (fun x y => .long (x + y)) S).bind (fun S => k9 L S h)
  | .lsub => (ra_l2 (fun x y => .long (x - y)) S).bind (fun S => k9 L S h)
  | .lmul => (ra_l2 (fun x y => .long (x * y)) S).bind (fun S => k9 L S h)
  | .lcmp => (ra_l2 (fun x y => .int (lg_cmp x y)) S).bind (fun S => k9 L S h)
  | .idiv => match S with
    | .int y :: .int x :: S => if y = 0 then none else k9 (L) (.int (x / y) :: S) (h)
    | _ => none
  | .irem => match S with
    | .int y :: .int x :: S => if y = 0 then none else k9 (L) (.int (x - x / y * y) :: S) (h)
    | _ => none
  | .ldiv => match S with
    | .long y :: .long x :: S => if y = 0 then none else k9 (L) (.long (x / y) :: S) (h)
    | _ => none
  | .lrem => match S with
    | .long y :: .long x :: S => if y = 0 then none else k9 (L) (.long (x - x / y * y) :: S) (h)
    | _ => none
  | .dup => match S with
    | a :: S => (match a.category with
      | 1 => k9 (L) (a :: a :: S) (h)
      | _ => none)
    | _ => none
  | .dup2 => match S with
    | a :: b :: S => (match a.category, b.category with
      | 1, 1 => k9 (L) (a :: b :: a :: b :: S) (h)
      | _, _ => none)
    | _ => none
  | .pop => match S with
    | a :: S => (match a.category with
      | 1 => k9 (L) (S) (h)
      | _ => none)
    | _ => none
  | .getfield _ => match S with
    | .ref k :: S => (match n3 with
      | 0 => (ra_fI h n1 k n2).bind (fun x => k9 (L) (.int x :: S) (h))
      | 1 => (ra_fJ h n1 k n2).bind (fun x => k9 (L) (.long x :: S) (h))
      | _ => (ra_fR h n1 k n2).bind (fun x => k9 (L) (.ref x :: S) (h)))
    | _ => none
  | .putfield _ => match S with
    | .int x :: .ref k :: S => (match n3 with
      | 0 => (ra_fW h n1 k n2 (.int x)).bind (fun h => k9 (L) (S) (h))
      | 4 => if x = 0 ∨ x = 1 then (ra_fW h n1 k n2 (.int x)).bind (fun h => k9 (L) (S) (h)) else none
      | _ => none)
    | .long x :: .ref k :: S => (match n3 with
      | 1 => (ra_fW h n1 k n2 (.long x)).bind (fun h => k9 (L) (S) (h))
      | _ => none)
    | .ref x :: .ref k :: S => (match n3 with
      | 2 => (ra_fW h n1 k n2 (.ref x)).bind (fun h => k9 (L) (S) (h))
      | _ => none)
    | .null :: .ref k :: S => (match n3 with
      | 2 => (ra_fW h n1 k n2 .null).bind (fun h => k9 (L) (S) (h))
      | _ => none)
    | _ => none
  | .iaload => match S with
    | .int j :: .ref a :: S => (ra_aI h 0 a j).bind (fun x => k9 (L) (.int x :: S) (h))
    | .int j :: .float u :: S => (ra_xI h u j).bind (fun x => k9 (L) (.int x :: S) (h))
    | _ => none
  | .baload => match S with
    | .int j :: .ref a :: S => (ra_aI h 2 a j).bind (fun x => k9 (L) (.int x :: S) (h))
    | _ => none
  | .saload => match S with
    | .int j :: .ref a :: S => (ra_aI h 3 a j).bind (fun x => k9 (L) (.int x :: S) (h))
    | _ => none
  | .laload => match S with
    | .int j :: .ref a :: S => (ra_aJ h a j).bind (fun x => k9 (L) (.long x :: S) (h))
    | _ => none
  | .iastore => match S with
    | .int x :: .int j :: .ref a :: S => (ra_aW h 0 a j x).bind (fun h => k9 (L) (S) (h))
    | _ => none
  | .bastore => match S with
    | .int x :: .int j :: .ref a :: S => (ra_aW h 2 a j (vp_nar .boolean x)).bind (fun h => k9 (L) (S) (h))
    | _ => none
  | .sastore => match S with
    | .int x :: .int j :: .ref a :: S => (ra_aW h 3 a j (vp_nar .short x)).bind (fun h => k9 (L) (S) (h))
    | _ => none
  | .lastore => match S with
    | .long x :: .int j :: .ref a :: S => (ra_aWJ h a j x).bind (fun h => k9 (L) (S) (h))
    | _ => none
  | .aastore => match S with
    | .ref k :: .int j :: .ref a :: S => (ra_aWR h a j k).bind (fun h => k9 (L) (S) (h))
    | .null :: .int j :: .ref a :: S => (ra_aWN h a j).bind (fun h => k9 (L) (S) (h))
    | _ => none
  | .arraylength => match S with
    | .ref a :: S => (ra_aL h a).bind (fun x => k9 (L) (.int x :: S) (h))
    | .float u :: S => (ra_xL h u).bind (fun x => k9 (L) (.int x :: S) (h))
    | _ => none
  | .newarray _ => match S with
    | .int n :: S => if n < 0 ∨ 50000000 < n.toNatClampNeg then none else k9 (L) (.ref h.2.1 :: S) (ra_mk h (ra_na n1 n.toNatClampNeg) n.toNatClampNeg)
    | _ => none
  | .anewarray _ => match S with
    | .int n :: S => if n < 0 ∨ 50000000 < n.toNatClampNeg then none else k9 (L) (.ref h.2.1 :: S) (ra_mk h (ra_nr n1 n.toNatClampNeg) n.toNatClampNeg)
    | _ => none
  | .new _ => k9 (L) (.ref h.2.1 :: S) (ra_mk h (.inr (n1, ra_df n1)) n2)
  | .getstatic _ => k9 (L) (.float (UInt32.ofNat n1) :: S) (h)
  | .invokestatic _ => match Nat.ble (ra_cat S) 8 with
    | true => (match n3 with
      | 20 => (ra_s2 (fun x y => .int (if x < y then y else x)) S).bind (fun S => k9 L S h)
      | 21 => (ra_s2 (fun x y => .int (if y < x then y else x)) S).bind (fun S => k9 L S h)
      | 22 => (match S with
        | .int n :: .int dp :: .ref b :: .int sp :: .ref a :: S => (ra_cp h a sp b dp n).bind (fun h => k9 (L) (S) (h))
        | _ => none)
      | _ => none)
    | false => none
  | .invokespecial _ => match Nat.ble (ra_cat S) 8 with
    | true => (match n3 with
      | 23 => (match S with
        | .ref _ :: S => k9 (L) (S) (h)
        | _ => none)
      | _ => none)
    | false => none
  | _ => none

set_option maxHeartbeats 2000000 in
theorem ra_xk_of {β : Type} {i : Instr} {n1 n2 n3 : Nat} {v : Int32} {w : Int64} {L : List (Option Value)} {S : List Value} {h : ra_H} {k9 : List (Option Value) → List Value → ra_H → Option β} {z : β} (e : ra_xk i n1 n2 n3 v w L S h k9 = some z) : ∃ L' S' h', ra_x i n1 n2 n3 v w L S h = some (L', S', h') ∧ k9 L' S' h' = some z := by
  cases i
  all_goals first | (cases e; done) | exact ⟨_, _, _, rfl, e⟩ | skip
  all_goals (unfold ra_xk at e; dsimp only at e)
  all_goals (repeat' split at e)
  all_goals first | (cases e; done) | exact ⟨_, _, _, rfl, e⟩ | (obtain ⟨y, e1, e2⟩ := Option.bind_eq_some_iff.mp e; exact ⟨_, _, _, by simp [ra_x, *], e2⟩) | exact ⟨_, _, _, by simp [ra_x, *], e⟩ | skip
def ra_if1 {β : Type} (c : Jvm.ClassFile.Cond) (x : Int32) (A B : β) : β := match c with
  | .eq => if x = 0 then A else B
  | .ne => if x = 0 then B else A
  | .lt => if x < 0 then A else B
  | .ge => if x < 0 then B else A
  | .gt => if x ≤ 0 then B else A
  | .le => if x ≤ 0 then A else B
def ra_if2 {β : Type} (c : Jvm.ClassFile.Cond) (x y : Int32) (A B : β) : β := match c with
  | .eq => if x = y then A else B
  | .ne => if x = y then B else A
  | .lt => if x < y then A else B
  | .ge => if x < y then B else A
  | .gt => if x ≤ y then B else A
  | .le => if x ≤ y then A else B
