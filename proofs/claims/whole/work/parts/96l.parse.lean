/-! the reader, pure: B the bytes, n how many; j where a token begins, k parts so far -/
abbrev pRT : Type := Sum Nat (Nat × Nat × valT)
section
variable (B : Nat → Nat) (n : Nat)
abbrev sg (c j : Nat) : Prop := tkK B n j = 3 ∧ tkV B n j = c
def facA (j : Nat) : Nat := low (fun g => isW B n (5 + g) j) 12
def heaA (j : Nat) : Nat := low (fun g => isW B n g j) 5
abbrev numA (j : Nat) : Prop := tkK B n j = 2 ∧ tkV B n j ≤ 1000
def leaV (j : Nat) : valT := if numA B n j then (fun _ => some ((tkV B n j : Nat) : Int)) else (fun X => limV (X (facA B n j)).toInt)
def pPart (rs : Nat → Nat → pRT) (b j k : Nat) : pRT :=
  if sg B n 91 j then
    (if b < 8 then (match rs (nxt B n j) k with
      | .inl f => .inl f
      | .inr (j1, k1, v) => if sg B n 93 j1 then .inr (nxt B n j1, k1, v) else .inl j1) else .inl j)
  else if (numA B n j ∨ facA B n j < 12) ∧ k < 50 then .inr (nxt B n j, k + 1, leaV B n j) else .inl j
def pTermL (rs : Nat → Nat → pRT) (b : Nat) : Nat → Nat → Nat → valT → pRT
  | 0, j, k, v => .inr (j, k, v)
  | m + 1, j, k, v => if sg B n 42 j ∨ sg B n 47 j then (match pPart B n rs b (nxt B n j) k with
    | .inl f => .inl f
    | .inr (j1, k1, w) => pTermL rs b m j1 k1 (vBin (if sg B n 42 j then 2 else 3) v w)) else .inr (j, k, v)
def pTerm (rs : Nat → Nat → pRT) (b j k : Nat) : pRT := match pPart B n rs b j k with
  | .inl f => .inl f
  | .inr (j1, k1, v) => pTermL B n rs b 400 j1 k1 v
def pSumL (rs : Nat → Nat → pRT) (b : Nat) : Nat → Nat → Nat → valT → pRT
  | 0, j, k, v => .inr (j, k, v)
  | m + 1, j, k, v => if sg B n 43 j ∨ sg B n 45 j then (match pTerm B n rs b (nxt B n j) k with
    | .inl f => .inl f
    | .inr (j1, k1, w) => pSumL rs b m j1 k1 (vBin (if sg B n 43 j then 0 else 1) v w)) else .inr (j, k, v)
def pSumO (rs : Nat → Nat → pRT) (b j k : Nat) : pRT := match pTerm B n rs b j k with
  | .inl f => .inl f
  | .inr (j1, k1, v) => pSumL B n rs b 400 j1 k1 v
/-- a sum within b brackets, d levels -/
def pSum : Nat → Nat → Nat → Nat → pRT
  | 0, _, j, _ => .inl j
  | d + 1, b, j, k => pSumO B n (pSum d (b + 1)) b j k
def pNots : Nat → Nat → Bool → Nat × Bool
  | 0, j, t => (j, t)
  | m + 1, j, t => if isW B n 18 j then pNots m (nxt B n j) (!t) else (j, t)
def cmpA (j : Nat) : Option Nat := if sg B n 60 j then some 4 else if sg B n 62 j then some 5 else if sg B n 61 j then some 6 else none
def pTurn (t : Bool) (r : pRT) : pRT := match r with
  | .inl f => .inl f
  | .inr (j, k, v) => .inr (j, k, if t = true then vNot v else v)
def pComp (b j k : Nat) : pRT := match pSum B n 9 b j k with
  | .inl f => .inl f
  | .inr (j1, k1, v) => match cmpA B n j1 with
    | none => .inl j1
    | some o => match pSum B n 9 b (nxt B n j1) k1 with
      | .inl f => .inl f
      | .inr (j2, k2, w) => .inr (j2, k2, vBin o v w)
def pPlain (rt : Nat → Nat → pRT) (b j k : Nat) : pRT := pTurn (pNots B n 400 j false).2
  (if sg B n 40 (pNots B n 400 j false).1 then
    (if b < 8 then (match rt (nxt B n (pNots B n 400 j false).1) k with
      | .inl f => .inl f
      | .inr (j1, k1, v) => if sg B n 41 j1 then .inr (nxt B n j1, k1, v) else .inl j1) else .inl (pNots B n 400 j false).1)
  else pComp B n b (pNots B n 400 j false).1 k)
def pBothL (rt : Nat → Nat → pRT) (b : Nat) : Nat → Nat → Nat → valT → pRT
  | 0, j, k, v => .inr (j, k, v)
  | m + 1, j, k, v => if isW B n 19 j then (match pPlain B n rt b (nxt B n j) k with
    | .inl f => .inl f
    | .inr (j1, k1, w) => pBothL rt b m j1 k1 (vAO 0 v w)) else .inr (j, k, v)
def pBoth (rt : Nat → Nat → pRT) (b j k : Nat) : pRT := match pPlain B n rt b j k with
  | .inl f => .inl f
  | .inr (j1, k1, v) => pBothL B n rt b 400 j1 k1 v
def pTestL (rt : Nat → Nat → pRT) (b : Nat) : Nat → Nat → Nat → valT → pRT
  | 0, j, k, v => .inr (j, k, v)
  | m + 1, j, k, v => if isW B n 20 j then (match pBoth B n rt b (nxt B n j) k with
    | .inl f => .inl f
    | .inr (j1, k1, w) => pTestL rt b m j1 k1 (vAO 1 v w)) else .inr (j, k, v)
def pTestO (rt : Nat → Nat → pRT) (b j k : Nat) : pRT := match pBoth B n rt b j k with
  | .inl f => .inl f
  | .inr (j1, k1, v) => pTestL B n rt b 400 j1 k1 v
def pTest : Nat → Nat → Nat → Nat → pRT
  | 0, _, j, _ => .inl j
  | d + 1, b, j, k => pTestO B n (pTest d (b + 1)) b j k
/-- a clause: head, sum, test -/
def pClause (j k : Nat) : Sum Nat (Nat × Nat × Nat × valT × valT) :=
  if heaA B n j < 5 then
    (match (if heaA B n j = 4 then (.inr (nxt B n j, k, vOne) : pRT) else pSum B n 9 0 (nxt B n j) k) with
    | .inl f => .inl f
    | .inr (j1, k1, v) => if isW B n 17 j1 then (match pTest B n 9 0 (nxt B n j1) k1 with
      | .inl f => .inl f
      | .inr (j2, k2, w) => .inr (j2, k2, heaA B n j, v, w)) else .inr (j1, k1, heaA B n j, v, vOne))
  else .inl j
/-- all clauses: i how many so far -/
def pScheme : Nat → Nat → Nat → Nat → (Nat → Nat × valT × valT) → Sum Nat (Nat × (Nat → Nat × valT × valT))
  | 0, _, j, _, _ => .inl j
  | m + 1, i, j, k, c => match pClause B n j k with
    | .inl f => .inl f
    | .inr (j1, k1, q) => if tkK B n j1 = 0 then .inr (i + 1, fun x => if x = i then q else c x) else if sg B n 59 j1 then pScheme m (i + 1) (nxt B n j1) k1 (fun x => if x = i then q else c x) else .inl j1
end
