/-! how many bits -/
def bcF (a0 : Int32) : Int32 :=
  let y1 := a0 - (((Int32.toUInt32 a0 >>> (Int32.toUInt32 ((1 : Int32)) &&& Int32.toUInt32 31)).toInt32) &&& ((1431655765 : Int32)))
  let y2 := (y1 &&& ((858993459 : Int32))) + (((Int32.toUInt32 y1 >>> (Int32.toUInt32 ((2 : Int32)) &&& Int32.toUInt32 31)).toInt32) &&& ((858993459 : Int32)))
  let y3 := (y2 + ((Int32.toUInt32 y2 >>> (Int32.toUInt32 ((4 : Int32)) &&& Int32.toUInt32 31)).toInt32)) &&& ((252645135 : Int32))
  let y4 := y3 + ((Int32.toUInt32 y3 >>> (Int32.toUInt32 ((8 : Int32)) &&& Int32.toUInt32 31)).toInt32)
  let y5 := y4 + ((Int32.toUInt32 y4 >>> (Int32.toUInt32 ((16 : Int32)) &&& Int32.toUInt32 31)).toInt32)
  y5 &&& ((63 : Int32))
theorem bc_ab : ∀ a, a < 64 → ∀ b, b < 128 → bcF (n3 (128 * a + b)) = n3 (pcw 13 (128 * a + b)) := by decide +kernel
theorem f_bitCount (N : Nat) (h : ra_H) {x : Nat} (hx : x < 8192) : fJ6_bitCount_0f7a4 N (n3 x) h = some (n3 (pcw 13 x), h) := by
  have := bc_ab (x / 128) (by omega) (x % 128) (by omega)
  rw [show 128 * (x / 128) + x % 128 = x by omega] at this
  rw [← this]
  rfl
theorem pcw_zero : ∀ w, pcw w 0 = 0 := by
  intro w
  induction w with
  | zero => rfl
  | succ w ih => rw [pcw]; exact ih
theorem pcw_more : ∀ w d O, O < 2 ^ w → pcw (w + d) O = pcw w O := by
  intro w
  induction w with
  | zero => intro d O h; have : O = 0 := by omega
            rw [this, pcw_zero, pcw_zero]
  | succ w ih =>
    intro d O h
    have e2 : 2 ^ (w + 1) = 2 * 2 ^ w := by rw [Nat.pow_succ, Nat.mul_comm]
    rw [show w + 1 + d = (w + d) + 1 by omega, pcw, pcw, ih d (O / 2) (by omega)]
theorem pcw_le : ∀ w O, pcw w O ≤ w := by
  intro w
  induction w with
  | zero => intro O; exact Nat.le_refl _
  | succ w ih => intro O; rw [pcw]; have := ih (O / 2); omega
/-- the next part, as the class finds it -/
theorem n3_part {O j : Nat} (hO : O < 4096) (hj : j + 1 < 2 ^ pcw 13 O) : (n3 (dep 32 O j) - n3 O) &&& n3 O = n3 (dep 32 O (j + 1)) := by
  have h32 : O < 2 ^ 32 := by omega
  have e1 : pcw 32 O = pcw 13 O := pcw_more 13 19 O (by omega)
  have hn := dep_next 32 O j h32 (by rw [e1]; exact hj)
  have hl := dep_le 32 O j h32
  rw [← hn, ← n3_and]
  congr 1
  rw [i_eq]
  have e2 : n3 (2 ^ 32 + dep 32 O j - O) = n3 (dep 32 O j) - n3 O := by
    have : n3 (2 ^ 32 + dep 32 O j - O) + n3 O = n3 (dep 32 O j) := by
      rw [n3_add, show 2 ^ 32 + dep 32 O j - O + O = 2 ^ 32 + dep 32 O j by omega, ← n3_add]
      have z : n3 (2 ^ 32) = n3 0 := by decide
      rw [z, n3_add, Nat.zero_add]
    rw [← this, Int32.add_sub_cancel]
  rw [e2]
