def ra_tk : Nat → List Value → List Value → Option (List Value × List Value)
  | 0, S, acc => some (acc, S)
  | n + 1, v :: S, acc => ra_tk n S (v :: acc)
  | _ + 1, [], _ => none
theorem ra_tk_of : ∀ (n : Nat) (S acc av rest : List Value), ra_tk n S acc = some (av, rest) → ∃ X, S = X ++ rest ∧ av = X.reverse ++ acc ∧ X.length = n := by
  intro n
  induction n with
  | zero => intro S acc av rest e; cases e; exact ⟨[], rfl, rfl, rfl⟩
  | succ n ih =>
    intro S acc av rest e
    cases S with
    | nil => cases e
    | cons v S =>
      obtain ⟨X, h1, h2, h3⟩ := ih S (v :: acc) av rest e
      exact ⟨v :: X, by rw [h1]; rfl, by rw [h2]; simp, by simp [h3]⟩
def ra_doc {β : Type} (Cv : Nat → List Value → ra_H → Option ra_H) (Ci : Nat → List Value → ra_H → Option (Int32 × ra_H)) (Cj : Nat → List Value → ra_H → Option (Int64 × ra_H)) (Cr : Nat → List Value → ra_H → Option (Nat × ra_H)) (Cn : Nat → List Value → ra_H → Option (Option Nat × ra_H)) (Cf : Nat → List Value → ra_H → Option (UInt32 × ra_H)) (n1 n2 n3 : Nat) (S : List Value) (h : ra_H) (k : List Value → ra_H → Option β) : Option β :=
  match ra_tk n2 S [] with
  | some (av, rest) => (match Nat.ble (ra_cat rest) 8 with
    | true => (match n3 % 10 with
      | 0 => (Cv n1 av h).bind (fun h => k rest h)
      | 1 => (Ci n1 av h).bind (fun q => k (.int q.1 :: rest) q.2)
      | 2 => (Cj n1 av h).bind (fun q => k (.long q.1 :: rest) q.2)
      | 3 => (Cr n1 av h).bind (fun q => k (.ref q.1 :: rest) q.2)
      | 5 => (Cf n1 av h).bind (fun q => k (.float q.1 :: rest) q.2)
      | _ => (Cn n1 av h).bind (fun q => match q.1 with
        | none => k (.null :: rest) q.2
        | some a => k (.ref a :: rest) q.2))
    | false => none)
  | none => none
/-- what a call's function must say -/
def ra_CO (d mno : Nat) (av : List Value) (h : ra_H) (r : Option Value) (h' : ra_H) : Prop :=
  ∃ d' q, ra_MT[mno]? = some q ∧ d' + 1 ≤ d ∧ ra_Ev d' q.1 av h r h' ∧ (q.2.1 = 1 → ∃ rv as, av = rv :: as ∧ ra_rcv h q.1.1.cls rv) ∧ (q.2.1 = 2 → ∃ b as, av = .ref b :: as)
theorem ra_doc_of {β : Type} {Cv : Nat → List Value → ra_H → Option ra_H} {Ci : Nat → List Value → ra_H → Option (Int32 × ra_H)} {Cj : Nat → List Value → ra_H → Option (Int64 × ra_H)} {Cr : Nat → List Value → ra_H → Option (Nat × ra_H)} {Cn : Nat → List Value → ra_H → Option (Option Nat × ra_H)} {Cf : Nat → List Value → ra_H → Option (UInt32 × ra_H)} {n1 n2 n3 : Nat} {S : List Value} {h : ra_H} {k : List Value → ra_H → Option β} {z : β} {d : Nat}
    (hv : ∀ mno av h h', Cv mno av h = some h' → ra_CO d mno av h none h') (hi : ∀ mno av h x h', Ci mno av h = some (x, h') → ra_CO d mno av h (some (.int x)) h') (hj : ∀ mno av h x h', Cj mno av h = some (x, h') → ra_CO d mno av h (some (.long x)) h') (hr : ∀ mno av h x h', Cr mno av h = some (x, h') → ra_CO d mno av h (some (.ref x)) h') (hn : ∀ mno av h x h', Cn mno av h = some (x, h') → ra_CO d mno av h (some (va_rf x)) h') (hf : ∀ mno av h x h', Cf mno av h = some (x, h') → ra_CO d mno av h (some (.float x)) h')
    (e : ra_doc Cv Ci Cj Cr Cn Cf n1 n2 n3 S h k = some z) : ∃ av rest r h', S = av.reverse ++ rest ∧ av.length = n2 ∧ ra_cat rest ≤ 8 ∧ ra_CO d n1 av h r h' ∧ k (r.toList ++ rest) h' = some z := by
  unfold ra_doc at e
  split at e
  · rename_i av rest htk
    obtain ⟨X, x1, x2, x3⟩ := ra_tk_of _ _ _ _ _ htk
    have hS : S = av.reverse ++ rest := by rw [x1, x2]; simp
    have hl : av.length = n2 := by rw [x2]; simp [x3]
    split at e
    · rename_i hc
      have hc := Nat.le_of_ble_eq_true hc
      split at e
      · obtain ⟨y, e1, e2⟩ := Option.bind_eq_some_iff.mp e
        exact ⟨av, rest, none, y, hS, hl, hc, hv _ _ _ _ e1, e2⟩
      · obtain ⟨⟨x, y⟩, e1, e2⟩ := Option.bind_eq_some_iff.mp e
        exact ⟨av, rest, _, y, hS, hl, hc, hi _ _ _ _ _ e1, e2⟩
      · obtain ⟨⟨x, y⟩, e1, e2⟩ := Option.bind_eq_some_iff.mp e
        exact ⟨av, rest, _, y, hS, hl, hc, hj _ _ _ _ _ e1, e2⟩
      · obtain ⟨⟨x, y⟩, e1, e2⟩ := Option.bind_eq_some_iff.mp e
        exact ⟨av, rest, _, y, hS, hl, hc, hr _ _ _ _ _ e1, e2⟩
      · obtain ⟨⟨x, y⟩, e1, e2⟩ := Option.bind_eq_some_iff.mp e
        exact ⟨av, rest, _, y, hS, hl, hc, hf _ _ _ _ _ e1, e2⟩
      · obtain ⟨⟨x, y⟩, e1, e2⟩ := Option.bind_eq_some_iff.mp e
        have h9 := hn _ _ _ _ _ e1
        cases x with
        | none => exact ⟨av, rest, _, y, hS, hl, hc, h9, e2⟩
        | some a => exact ⟨av, rest, _, y, hS, hl, hc, h9, e2⟩
    · cases e
  · cases e
def ra_chkC (M : ra_M) (oc : Nat) (i : Instr) (len n1 n2 n3 : Nat) : Bool := len == 3 && !(n1 == 0) && (match ra_MT[n1]? with
  | some q => (match i with
    | .invokestatic idx => q.2.1 == 0 && n2 == q.2.2.1 && (match Nat.blt n3 10 with
      | true => ra_hasL oc idx n1
      | false => ra_nw.any (fun x => decide (x = (M.1.cls, idx, q.1.1))))
    | .invokevirtual idx => q.2.1 == 1 && n2 == q.2.2.1 + 1 && ra_hasL oc idx n1
    | .invokespecial idx => q.2.1 == 2 && n2 == q.2.2.1 + 1 && decide (q.1.2.2.2 = none) && (match Nat.blt n3 10 with
      | true => ra_hasL oc idx n1
      | false => ra_nw.any (fun x => decide (x = (M.1.cls, idx, q.1.1))))
    | _ => false)
  | none => false)
theorem ra_call_ok {d : Nat} {M : ra_M} {oc pc : Nat} {L : List (Option Value)} {av rest : List Value} {h h1 : ra_H} {r : Option Value} {o : Option Value × ra_H} {i : Instr} {len n1 n2 n3 : Nat} (hcn : ra_cn[oc]? = some M.1.cls) (hd : decode M.2.1 pc = .ok (i, len)) (hc : ra_chkC M oc i len n1 n2 n3 = true) (hl : av.length = n2) (hcat : ra_cat rest ≤ 8) (hco : ra_CO d n1 av h r h1)
    (k : ra_Ru d M (pc + len) L (r.toList ++ rest) h1 o) : ra_Ru d M pc L (av.reverse ++ rest) h o := by
  obtain ⟨d', q, hq, hdd, hev, hr1, hr2⟩ := hco
  unfold ra_chkC at hc
  rw [hq] at hc
  simp only [Bool.and_eq_true, beq_iff_eq, Bool.not_eq_true', beq_eq_false_iff_ne] at hc
  obtain ⟨⟨rfl, h0⟩, hc⟩ := hc
  split at hc
  · rename_i idx
    simp only [Bool.and_eq_true, beq_iff_eq] at hc
    obtain ⟨⟨c1, c2⟩, c3⟩ := hc
    split at c3
    · exact ra_callS hcn h0 hq c1 (hl.trans c2) c3 hd hev hdd hcat k
    · obtain ⟨x, x1, x2⟩ := List.any_eq_true.mp c3
      simp only [decide_eq_true_eq] at x2
      subst x2
      exact ra_callSN h0 hq c1 (hl.trans c2) x1 hd hev hdd hcat k
  · rename_i idx
    simp only [Bool.and_eq_true, beq_iff_eq] at hc
    obtain ⟨⟨c1, c2⟩, c3⟩ := hc
    obtain ⟨rv, as, rfl, hrv⟩ := hr1 c1
    exact ra_callV hcn h0 hq c1 (by simp at hl; omega) c3 hd hrv hev hdd hcat k
  · rename_i idx
    simp only [Bool.and_eq_true, beq_iff_eq, decide_eq_true_eq] at hc
    obtain ⟨⟨⟨c1, c2⟩, c4⟩, c3⟩ := hc
    obtain ⟨b, as, rfl⟩ := hr2 c1
    split at c3
    · exact ra_callI hcn h0 hq c1 c4 (by simp at hl; omega) c3 hd hev hdd hcat k
    · obtain ⟨x, x1, x2⟩ := List.any_eq_true.mp c3
      simp only [decide_eq_true_eq] at x2
      subst x2
      exact ra_callIN h0 hq c1 c4 (by simp at hl; omega) x1 hd hev hdd hcat k
  · cases hc
/-! jumps -/
def ra_sw {β : Type} (x : Int32) : List (Int32 × Nat) → (Nat → β) → Nat → β
  | [], k, t => k t
  | (c, t') :: l, k, t => if x = c then k t' else ra_sw x l k t
def ra_cksw (pc : Nat) (dflt lo hi : Int) (offs : Array Int) (n1 : Nat) (sw : List (Int32 × Nat)) : Bool :=
  decide ((pc : Int) + dflt = (n1 : Int)) && decide ((sw.length : Int) = hi - lo + 1) && (List.range sw.length).all (fun j => match sw[j]?, offs[j]? with
    | some (c, t), some off => decide (c.toInt = lo + (j : Int)) && decide ((pc : Int) + off = (t : Int))
    | _, _ => false)
theorem ra_sw_of {β : Type} {x : Int32} {k : Nat → β} {t : Nat} : ∀ sw : List (Int32 × Nat), (∃ (j : Nat) (c : Int32) (t' : Nat), sw[j]? = some (c, t') ∧ x = c ∧ ra_sw x sw k t = k t') ∨ ((∀ (j : Nat) (c : Int32) (t' : Nat), sw[j]? = some (c, t') → x ≠ c) ∧ ra_sw x sw k t = k t)
  | [] => Or.inr ⟨fun j c t' h => by simp at h, rfl⟩
  | (c, t') :: l => by
    by_cases hx : x = c
    · exact Or.inl ⟨0, c, t', rfl, hx, by simp [ra_sw, hx]⟩
    · rcases ra_sw_of (k := k) (t := t) l with ⟨j, c', t1, h1, h2, h3⟩ | ⟨h1, h2⟩
      · exact Or.inl ⟨j + 1, c', t1, by simpa using h1, h2, by rw [ra_sw, if_neg hx]; exact h3⟩
      · refine Or.inr ⟨fun j c' t1 h => ?_, by rw [ra_sw, if_neg hx]; exact h2⟩
        cases j with
        | zero => simp at h; rw [← h.1]; exact hx
        | succ j => exact h1 j c' t1 (by simpa using h)
def ra_to (t : Nat) : List ra_I → List ra_I
  | [] => []
  | e :: l => match Nat.beq e.1 t with
    | true => e :: l
    | false => ra_to t l
section
variable {α : Type}
def ra_nxt (K : Nat → List (Option Value) → List Value → ra_H → Option α) (ih : List ra_I → List (Option Value) → List Value → ra_H → Option α) (pc : Nat) (is : List ra_I) (L : List (Option Value)) (S : List Value) (h : ra_H) : Option α := match is with
  | [] => K pc L S h
  | e :: l => match Nat.beq e.1 pc with
    | true => ih (e :: l) L S h
    | false => K pc L S h
def ra_jmp (K : Nat → List (Option Value) → List Value → ra_H → Option α) (ih : List ra_I → List (Option Value) → List Value → ra_H → Option α) (t : Nat) (is : List ra_I) (L : List (Option Value)) (S : List Value) (h : ra_H) : Option α := match ra_to t is with
  | [] => K t L S h
  | e :: l => ih (e :: l) L S h
def ra_body (rt : List Value → ra_H → Option α) (K : Nat → List (Option Value) → List Value → ra_H → Option α) (Cv : Nat → List Value → ra_H → Option ra_H) (Ci : Nat → List Value → ra_H → Option (Int32 × ra_H)) (Cj : Nat → List Value → ra_H → Option (Int64 × ra_H)) (Cr : Nat → List Value → ra_H → Option (Nat × ra_H)) (Cn : Nat → List Value → ra_H → Option (Option Nat × ra_H)) (Cf : Nat → List Value → ra_H → Option (UInt32 × ra_H))
    (ih : List ra_I → List (Option Value) → List Value → ra_H → Option α) (is : List ra_I) (L : List (Option Value)) (S : List Value) (h : ra_H) : Option α := match is with
  | [] => none
  | (pc, i, len, n1, n2, n3, v, w, sw) :: is => match i with
    | .goto _ => ra_jmp K ih n1 is L S h
    | .ifCond c _ => (match S with
      | .int x :: S => ra_if1 c x (ra_jmp K ih n1 is L S h) (ra_nxt K ih (pc + len) is L S h)
      | _ => none)
    | .if_icmp c _ => (match S with
      | .int y :: .int x :: S => ra_if2 c x y (ra_jmp K ih n1 is L S h) (ra_nxt K ih (pc + len) is L S h)
      | _ => none)
    | .ifnull _ => (match S with
      | .null :: S => ra_jmp K ih n1 is L S h
      | .ref _ :: S => ra_nxt K ih (pc + len) is L S h
      | .float _ :: S => ra_nxt K ih (pc + len) is L S h
      | _ => none)
    | .ifnonnull _ => (match S with
      | .null :: S => ra_nxt K ih (pc + len) is L S h
      | .ref _ :: S => ra_jmp K ih n1 is L S h
      | .float _ :: S => ra_jmp K ih n1 is L S h
      | _ => none)
    | .tableswitch _ _ _ _ => (match S with
      | .int x :: S => ra_sw x sw (fun t => ra_jmp K ih t is L S h) n1
      | _ => none)
    | .ireturn => (match S with
      | [.int x] => rt [.int x] h
      | _ => none)
    | .lreturn => (match S with
      | [.long x] => rt [.long x] h
      | _ => none)
    | .areturn => (match S with
      | [.ref x] => rt [.ref x] h
      | [.null] => rt [.null] h
      | [.float x] => rt [.float x] h
      | _ => none)
    | .return_ => (match S with
      | [] => rt [] h
      | _ => none)
    | .getfield idx => (match n3 with
      | 3 => (match S with
        | .ref k :: S => (ra_fN h n1 k n2).bind (fun x => match x with
          | none => ra_nxt K ih (pc + len) is L (.null :: S) h
          | some a => ra_nxt K ih (pc + len) is L (.ref a :: S) h)
        | _ => none)
      | _ => ra_xk (.getfield idx) n1 n2 n3 v w L S h (fun L S h => ra_nxt K ih (pc + len) is L S h))
    | .aaload => (match S with
      | .int j :: .ref a :: S => (ra_aN h a j).bind (fun x => match x with
        | none => ra_nxt K ih (pc + len) is L (.null :: S) h
        | some a => ra_nxt K ih (pc + len) is L (.ref a :: S) h)
      | _ => none)
    | .invokestatic idx => (match Nat.blt n3 20 with
      | true => ra_doc Cv Ci Cj Cr Cn Cf n1 n2 n3 S h (fun S h => ra_nxt K ih (pc + len) is L S h)
      | false => ra_xk (.invokestatic idx) n1 n2 n3 v w L S h (fun L S h => ra_nxt K ih (pc + len) is L S h))
    | .invokespecial idx => (match Nat.blt n3 20 with
      | true => ra_doc Cv Ci Cj Cr Cn Cf n1 n2 n3 S h (fun S h => ra_nxt K ih (pc + len) is L S h)
      | false => ra_xk (.invokespecial idx) n1 n2 n3 v w L S h (fun L S h => ra_nxt K ih (pc + len) is L S h))
    | .invokevirtual _ => ra_doc Cv Ci Cj Cr Cn Cf n1 n2 n3 S h (fun S h => ra_nxt K ih (pc + len) is L S h)
    | i => ra_xk i n1 n2 n3 v w L S h (fun L S h => ra_nxt K ih (pc + len) is L S h)
noncomputable def ra_run (rt : List Value → ra_H → Option α) (K : Nat → List (Option Value) → List Value → ra_H → Option α) (Cv : Nat → List Value → ra_H → Option ra_H) (Ci : Nat → List Value → ra_H → Option (Int32 × ra_H)) (Cj : Nat → List Value → ra_H → Option (Int64 × ra_H)) (Cr : Nat → List Value → ra_H → Option (Nat × ra_H)) (Cn : Nat → List Value → ra_H → Option (Option Nat × ra_H)) (Cf : Nat → List Value → ra_H → Option (UInt32 × ra_H)) (n : Nat) : List ra_I → List (Option Value) → List Value → ra_H → Option α :=
  Nat.rec (fun _ _ _ _ => none) (fun _ ih => ra_body rt K Cv Ci Cj Cr Cn Cf ih) n
end
def ra_ck (M : ra_M) (oc : Nat) (e : ra_I) : Bool := match e with
  | (pc, i, len, n1, n2, n3, v, w, sw) => decide (decode M.2.1 pc = .ok (i, len)) && (match i with
    | .goto off => len == 3 && decide ((pc : Int) + off = (n1 : Int))
    | .ifCond _ off => len == 3 && decide ((pc : Int) + off = (n1 : Int))
    | .if_icmp _ off => len == 3 && decide ((pc : Int) + off = (n1 : Int))
    | .ifnull off => len == 3 && decide ((pc : Int) + off = (n1 : Int))
    | .ifnonnull off => len == 3 && decide ((pc : Int) + off = (n1 : Int))
    | .tableswitch dflt lo hi offs => ra_cksw pc dflt lo hi offs n1 sw
    | .invokestatic idx => (match Nat.blt n3 20 with
      | true => ra_chkC M oc (.invokestatic idx) len n1 n2 n3
      | false => ra_cx M oc (.invokestatic idx) len n1 n2 n3 v w)
    | .invokespecial idx => (match Nat.blt n3 20 with
      | true => ra_chkC M oc (.invokespecial idx) len n1 n2 n3
      | false => ra_cx M oc (.invokespecial idx) len n1 n2 n3 v w)
    | .invokevirtual idx => ra_chkC M oc (.invokevirtual idx) len n1 n2 n3
    | i => ra_cx M oc i len n1 n2 n3 v w)
