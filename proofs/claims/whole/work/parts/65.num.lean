/-! numbers from 0 on -/
def n3 (n : Nat) : Int32 := Int32.ofNat n
theorem n3_toInt {n : Nat} (h : n < 2147483648) : (n3 n).toInt = n := Int32.toInt_ofNat_of_lt h
theorem n3_cl {n : Nat} (h : n < 2147483648) : (n3 n).toNatClampNeg = n := by rw [i_cl, n3_toInt h]; rfl
theorem n3_add (a b : Nat) : n3 a + n3 b = n3 (a + b) := (Int32.ofNat_add a b).symm
theorem n3_mul (a b : Nat) : n3 a * n3 b = n3 (a * b) := (Int32.ofNat_mul a b).symm
theorem n3_sub {a b : Nat} (h : b ≤ a) : n3 a - n3 b = n3 (a - b) := (Int32.ofNat_sub a b h).symm
theorem n3_subn {a b : Nat} (h : b ≤ a) : n3 a + -n3 b = n3 (a - b) := by rw [← n3_sub h, Int32.sub_eq_add_neg]
theorem n3_lt {a b : Nat} (ha : a < 2147483648) (hb : b < 2147483648) : n3 a < n3 b ↔ a < b := Int32.ofNat_lt_iff_lt ha hb
theorem n3_le {a b : Nat} (ha : a < 2147483648) (hb : b < 2147483648) : n3 a ≤ n3 b ↔ a ≤ b := Int32.ofNat_le_iff_le ha hb
theorem n3_eq {a b : Nat} (ha : a < 2147483648) (hb : b < 2147483648) : n3 a = n3 b ↔ a = b := by
  rw [i_eq, n3_toInt ha, n3_toInt hb]; omega
theorem n3_ntoInt {n : Nat} (h : n < 2147483648) : (-n3 n).toInt = -n := by
  rw [Int32.toInt_neg, n3_toInt h, Int.bmod_eq_of_le (by omega) (by omega)]
theorem n3_eqn {a b : Nat} (ha : a < 2147483648) (hb : b < 2147483648) (h : 0 < b) : n3 a = -n3 b ↔ False := by
  rw [i_eq, n3_toInt ha, n3_ntoInt hb, iff_false]; omega
theorem n3_neq {a b : Nat} (ha : a < 2147483648) (hb : b < 2147483648) (h : 0 < b) : -n3 b = n3 a ↔ False := by
  rw [i_eq, n3_toInt ha, n3_ntoInt hb, iff_false]; omega
theorem n3_div {a b : Nat} (ha : a < 2147483648) (hb : b < 2147483648) : n3 a / n3 b = n3 (a / b) := (Int32.ofNat_div ha hb).symm
theorem n3_rem {a b : Nat} (ha : a < 2147483648) (hb : b < 2147483648) : n3 a - n3 a / n3 b * n3 b = n3 (a % b) := by
  have h2 : a / b * b ≤ a := Nat.div_mul_le_self a b
  rw [n3_div ha hb, n3_mul, n3_sub h2]
  congr 1
  have := Nat.mod_add_div a b
  rw [Nat.mul_comm] at this
  omega
theorem n3_and (a b : Nat) : n3 a &&& n3 b = n3 (a &&& b) := by
  apply Int32.toBitVec_inj.mp
  show BitVec.ofNat 32 a &&& BitVec.ofNat 32 b = BitVec.ofNat 32 (a &&& b)
  exact BitVec.ofNat_and.symm
theorem n3_or (a b : Nat) : n3 a ||| n3 b = n3 (a ||| b) := by
  apply Int32.toBitVec_inj.mp
  show BitVec.ofNat 32 a ||| BitVec.ofNat 32 b = BitVec.ofNat 32 (a ||| b)
  exact BitVec.ofNat_or.symm
theorem n3_shl31 : ∀ k : Nat, k < 31 → n3 1 <<< n3 (k &&& 31) = n3 (2 ^ k) := by decide
theorem n3_shl {k : Nat} (h : k < 31) : n3 1 <<< n3 (k &&& 31) = n3 (2 ^ k) := n3_shl31 k h
theorem n3_of {x : Int32} (h : 0 ≤ x.toInt) : x = n3 x.toInt.toNat := by
  have := i_rg x
  rw [i_eq, n3_toInt (by omega)]
  omega
theorem n3_ex {x : Int32} {n : Nat} (h : 0 ≤ x.toInt) (h1 : x.toInt < n) : ∃ k, k < n ∧ x = n3 k := ⟨x.toInt.toNat, by omega, n3_of h⟩
theorem n3_i (n : Nat) : Int32.ofNat n = n3 n := rfl
theorem rz_0 (h : ra_H) : ra_rz (n3 0) h = some (n3 0, h) := rfl
theorem rz_1 (h : ra_H) : ra_rz (n3 1) h = some (n3 1, h) := rfl
theorem rz_i (p : Prop) [Decidable p] (h : ra_H) : ra_rz (if p then n3 1 else n3 0) h = some (if p then n3 1 else n3 0, h) := by split <;> rfl
theorem nar_b0 : vp_nar .boolean (n3 0) = n3 0 := rfl
theorem nar_b1 : vp_nar .boolean (n3 1) = n3 1 := rfl
theorem ite01 (p : Prop) [Decidable p] : (if p then n3 1 else n3 0) = n3 0 ↔ ¬ p := by
  by_cases h : p
  · simp only [h, if_true, not_true, iff_false]; decide
  · simp only [h, if_false, not_false_iff]
theorem n3_l : ((0 : Int32) = n3 0) ∧ ((1 : Int32) = n3 1) ∧ ((2 : Int32) = n3 2) ∧ ((3 : Int32) = n3 3) ∧ ((4 : Int32) = n3 4) ∧ ((5 : Int32) = n3 5) ∧ ((6 : Int32) = n3 6) ∧ ((7 : Int32) = n3 7) ∧ ((8 : Int32) = n3 8) ∧ ((9 : Int32) = n3 9) ∧ ((10 : Int32) = n3 10) ∧ ((11 : Int32) = n3 11) ∧ ((12 : Int32) = n3 12) ∧ ((13 : Int32) = n3 13) ∧ ((14 : Int32) = n3 14) ∧ ((15 : Int32) = n3 15) ∧ ((16 : Int32) = n3 16) ∧ ((17 : Int32) = n3 17) ∧ ((18 : Int32) = n3 18) ∧ ((19 : Int32) = n3 19) ∧ ((20 : Int32) = n3 20) ∧ ((21 : Int32) = n3 21) ∧ ((22 : Int32) = n3 22) ∧ ((23 : Int32) = n3 23) ∧ ((24 : Int32) = n3 24) ∧ ((25 : Int32) = n3 25) ∧ ((26 : Int32) = n3 26) ∧ ((27 : Int32) = n3 27) ∧ ((28 : Int32) = n3 28) ∧ ((29 : Int32) = n3 29) ∧ ((30 : Int32) = n3 30) ∧ ((31 : Int32) = n3 31) ∧ ((32 : Int32) = n3 32) ∧ ((33 : Int32) = n3 33) ∧ ((34 : Int32) = n3 34) ∧ ((35 : Int32) = n3 35) ∧ ((36 : Int32) = n3 36) ∧ ((37 : Int32) = n3 37) ∧ ((38 : Int32) = n3 38) ∧ ((39 : Int32) = n3 39) ∧ ((40 : Int32) = n3 40) ∧ ((41 : Int32) = n3 41) ∧ ((42 : Int32) = n3 42) ∧ ((43 : Int32) = n3 43) ∧ ((44 : Int32) = n3 44) ∧ ((45 : Int32) = n3 45) ∧ ((46 : Int32) = n3 46) ∧ ((47 : Int32) = n3 47) ∧ ((48 : Int32) = n3 48) ∧ ((49 : Int32) = n3 49) ∧ ((50 : Int32) = n3 50) ∧ ((54 : Int32) = n3 54) ∧ ((57 : Int32) = n3 57) ∧ ((59 : Int32) = n3 59) ∧ ((60 : Int32) = n3 60) ∧ ((61 : Int32) = n3 61) ∧ ((62 : Int32) = n3 62) ∧ ((63 : Int32) = n3 63) ∧ ((64 : Int32) = n3 64) ∧ ((81 : Int32) = n3 81) ∧ ((91 : Int32) = n3 91) ∧ ((93 : Int32) = n3 93) ∧ ((96 : Int32) = n3 96) ∧ ((97 : Int32) = n3 97) ∧ ((98 : Int32) = n3 98) ∧ ((99 : Int32) = n3 99) ∧ ((100 : Int32) = n3 100) ∧ ((122 : Int32) = n3 122) ∧ ((144 : Int32) = n3 144) ∧ ((199 : Int32) = n3 199) ∧ ((200 : Int32) = n3 200) ∧ ((201 : Int32) = n3 201) ∧ ((255 : Int32) = n3 255) ∧ ((320 : Int32) = n3 320) ∧ ((360 : Int32) = n3 360) ∧ ((361 : Int32) = n3 361) ∧ ((400 : Int32) = n3 400) ∧ ((480 : Int32) = n3 480) ∧ ((481 : Int32) = n3 481) ∧ ((482 : Int32) = n3 482) ∧ ((483 : Int32) = n3 483) ∧ ((484 : Int32) = n3 484) ∧ ((485 : Int32) = n3 485) ∧ ((486 : Int32) = n3 486) ∧ ((490 : Int32) = n3 490) ∧ ((500 : Int32) = n3 500) ∧ ((600 : Int32) = n3 600) ∧ ((610 : Int32) = n3 610) ∧ ((650 : Int32) = n3 650) ∧ ((702 : Int32) = n3 702) ∧ ((725 : Int32) = n3 725) ∧ ((735 : Int32) = n3 735) ∧ ((760 : Int32) = n3 760) ∧ ((900 : Int32) = n3 900) ∧ ((1000 : Int32) = n3 1000) ∧ ((1001 : Int32) = n3 1001) ∧ ((1103 : Int32) = n3 1103) ∧ ((4096 : Int32) = n3 4096) ∧ ((4608 : Int32) = n3 4608) ∧ ((5000 : Int32) = n3 5000) ∧ ((5346 : Int32) = n3 5346) ∧ ((5400 : Int32) = n3 5400) ∧ ((7960 : Int32) = n3 7960) ∧ ((12345 : Int32) = n3 12345) ∧ ((15920 : Int32) = n3 15920) ∧ ((167936 : Int32) = n3 167936) ∧ ((1000000 : Int32) = n3 1000000) ∧ ((1000003 : Int32) = n3 1000003) ∧ ((1000000000 : Int32) = n3 1000000000) ∧ ((2000000000 : Int32) = n3 2000000000) := ⟨rfl, rfl, rfl, rfl, rfl, rfl, rfl, rfl, rfl, rfl, rfl, rfl, rfl, rfl, rfl, rfl, rfl, rfl, rfl, rfl, rfl, rfl, rfl, rfl, rfl, rfl, rfl, rfl, rfl, rfl, rfl, rfl, rfl, rfl, rfl, rfl, rfl, rfl, rfl, rfl, rfl, rfl, rfl, rfl, rfl, rfl, rfl, rfl, rfl, rfl, rfl, rfl, rfl, rfl, rfl, rfl, rfl, rfl, rfl, rfl, rfl, rfl, rfl, rfl, rfl, rfl, rfl, rfl, rfl, rfl, rfl, rfl, rfl, rfl, rfl, rfl, rfl, rfl, rfl, rfl, rfl, rfl, rfl, rfl, rfl, rfl, rfl, rfl, rfl, rfl, rfl, rfl, rfl, rfl, rfl, rfl, rfl, rfl, rfl, rfl, rfl, rfl, rfl, rfl, rfl, rfl, rfl, rfl, rfl, rfl⟩
theorem ix3 {i n : Nat} (h : i < n) (hn : n ≤ 2147483648) : ¬ (n3 i < 0 ∨ n ≤ (n3 i).toNatClampNeg) := by
  refine ix ?_ ?_
  · rw [n3_toInt (by omega)]; omega
  · rw [n3_toInt (by omega)]; omega
theorem ix3f {α : Type} {i n : Nat} {a : Option α} {b : Nat → Option α} (hn : n ≤ 2147483648) (h : i < n) : (if n3 i < 0 ∨ n ≤ (n3 i).toNatClampNeg then a else b (n3 i).toNatClampNeg) = b i := by
  rw [if_neg (ix3 h hn), n3_cl (by omega)]
theorem h3r_0 : ∀ (κ : hk_T) (i : Nat), (i < 480 → ra_aI (hp κ) 0 2 (n3 i) = some (hk_A κ 2 i)) ∧
  (i < 9 → ra_aI (hp κ) 0 3 (n3 i) = some (hk_A κ 3 i)) ∧
  (i < 54 → ra_aI (hp κ) 0 4 (n3 i) = some (hk_A κ 4 i)) ∧
  (i < 54 → ra_aI (hp κ) 0 5 (n3 i) = some (hk_A κ 5 i)) ∧
  (i < 8 → ra_aN (hp κ) 6 (n3 i) = some (hk_Q κ 6 i)) ∧
  (i < 144 → ra_aI (hp κ) 0 7 (n3 i) = some (hk_A κ 7 i)) ∧
  (i < 12 → ra_aI (hp κ) 0 8 (n3 i) = some (hk_A κ 8 i)) ∧
  (i < 10 → ra_aI (hp κ) 0 9 (n3 i) = some (hk_A κ 9 i)) ∧
  (i < 10 → ra_aI (hp κ) 0 10 (n3 i) = some (hk_A κ 10 i)) ∧
  (i < 9 → ra_aI (hp κ) 0 11 (n3 i) = some (hk_A κ 11 i)) ∧
  (i < 12 → ra_aI (hp κ) 0 12 (n3 i) = some (hk_A κ 12 i)) ∧
  (i < 12 → ra_aI (hp κ) 0 13 (n3 i) = some (hk_A κ 13 i)) ∧
  (i < 12 → ra_aI (hp κ) 0 14 (n3 i) = some (hk_A κ 14 i)) ∧
  (i < 2 → ra_aN (hp κ) 15 (n3 i) = some (hk_Q κ 15 i)) ∧
  (i < 400 → ra_aI (hp κ) 0 17 (n3 i) = some (hk_A κ 17 i)) ∧
  (i < 400 → ra_aI (hp κ) 0 18 (n3 i) = some (hk_A κ 18 i)) ∧
  (i < 12 → ra_aI (hp κ) 0 19 (n3 i) = some (hk_A κ 19 i)) ∧
  (i < 25 → ra_aI (hp κ) 0 20 (n3 i) = some (hk_A κ 20 i)) ∧
  (i < 64 → ra_aI (hp κ) 0 22 (n3 i) = some (hk_A κ 22 i)) ∧
  (i < 320 → ra_aI (hp κ) 0 24 (n3 i) = some (hk_A κ 24 i)) ∧
  (i < 320 → ra_aI (hp κ) 2 25 (n3 i) = some (hk_A κ 25 i)) ∧
  (i < 320 → ra_aI (hp κ) 0 26 (n3 i) = some (hk_A κ 26 i)) ∧
  (i < 5346 → ra_aI (hp κ) 0 27 (n3 i) = some (hk_A κ 27 i)) ∧
  (i < 40 → ra_aI (hp κ) 0 28 (n3 i) = some (hk_A κ 28 i)) ∧
  (i < 5 → ra_aI (hp κ) 0 29 (n3 i) = some (hk_A κ 29 i)) ∧
  (i < 40 → ra_aI (hp κ) 0 31 (n3 i) = some (hk_A κ 31 i)) ∧
  (i < 40 → ra_aI (hp κ) 0 32 (n3 i) = some (hk_A κ 32 i)) ∧
  (i < 54 → ra_aI (hp κ) 0 33 (n3 i) = some (hk_A κ 33 i)) ∧
  (i < 40 → ra_aI (hp κ) 0 35 (n3 i) = some (hk_A κ 35 i)) ∧
  (i < 40 → ra_aI (hp κ) 0 36 (n3 i) = some (hk_A κ 36 i)) ∧
  (i < 54 → ra_aI (hp κ) 0 37 (n3 i) = some (hk_A κ 37 i)) ∧
  (i < 40 → ra_aI (hp κ) 0 39 (n3 i) = some (hk_A κ 39 i)) ∧
  (i < 13 → ra_aI (hp κ) 0 42 (n3 i) = some (hk_A κ 42 i)) ∧
  (i < 54 → ra_aI (hp κ) 0 43 (n3 i) = some (hk_A κ 43 i)) ∧
  (i < 54 → ra_aI (hp κ) 0 44 (n3 i) = some (hk_A κ 44 i)) ∧
  (i < 54 → ra_aI (hp κ) 0 45 (n3 i) = some (hk_A κ 45 i)) ∧
  (i < 54 → ra_aI (hp κ) 0 46 (n3 i) = some (hk_A κ 46 i)) ∧
  (i < 54 → ra_aI (hp κ) 2 47 (n3 i) = some (hk_A κ 47 i)) ∧
  (i < 702 → ra_aI (hp κ) 0 48 (n3 i) = some (hk_A κ 48 i)) ∧
  (i < 40 → ra_aI (hp κ) 0 49 (n3 i) = some (hk_A κ 49 i)) ∧
  (i < 41 → ra_aI (hp κ) 0 50 (n3 i) = some (hk_A κ 50 i)) ∧
  (i < 41 → ra_aI (hp κ) 0 51 (n3 i) = some (hk_A κ 51 i)) ∧
  (i < 12 → ra_aI (hp κ) 0 52 (n3 i) = some (hk_A κ 52 i)) ∧
  (i < 12 → ra_aI (hp κ) 0 53 (n3 i) = some (hk_A κ 53 i)) ∧
  (i < 361 → ra_aI (hp κ) 0 54 (n3 i) = some (hk_A κ 54 i)) ∧
  (i < 40 → ra_aI (hp κ) 0 59 (n3 i) = some (hk_A κ 59 i)) ∧
  (i < 40 → ra_aI (hp κ) 2 60 (n3 i) = some (hk_A κ 60 i)) ∧
  (i < 9 → ra_aI (hp κ) 0 62 (n3 i) = some (hk_A κ 62 i)) ∧
  (i < 81 → ra_aI (hp κ) 0 63 (n3 i) = some (hk_A κ 63 i)) ∧
  (i < 4608 → ra_aI (hp κ) 0 64 (n3 i) = some (hk_A κ 64 i)) := fun κ i => ⟨ix3f (b := fun q => some (hk_A κ 2 q)) (by decide), ix3f (b := fun q => some (hk_A κ 3 q)) (by decide), ix3f (b := fun q => some (hk_A κ 4 q)) (by decide), ix3f (b := fun q => some (hk_A κ 5 q)) (by decide), ix3f (b := fun q => some (hk_Q κ 6 q)) (by decide), ix3f (b := fun q => some (hk_A κ 7 q)) (by decide), ix3f (b := fun q => some (hk_A κ 8 q)) (by decide), ix3f (b := fun q => some (hk_A κ 9 q)) (by decide), ix3f (b := fun q => some (hk_A κ 10 q)) (by decide), ix3f (b := fun q => some (hk_A κ 11 q)) (by decide), ix3f (b := fun q => some (hk_A κ 12 q)) (by decide), ix3f (b := fun q => some (hk_A κ 13 q)) (by decide), ix3f (b := fun q => some (hk_A κ 14 q)) (by decide), ix3f (b := fun q => some (hk_Q κ 15 q)) (by decide), ix3f (b := fun q => some (hk_A κ 17 q)) (by decide), ix3f (b := fun q => some (hk_A κ 18 q)) (by decide), ix3f (b := fun q => some (hk_A κ 19 q)) (by decide), ix3f (b := fun q => some (hk_A κ 20 q)) (by decide), ix3f (b := fun q => some (hk_A κ 22 q)) (by decide), ix3f (b := fun q => some (hk_A κ 24 q)) (by decide), ix3f (b := fun q => some (hk_A κ 25 q)) (by decide), ix3f (b := fun q => some (hk_A κ 26 q)) (by decide), ix3f (b := fun q => some (hk_A κ 27 q)) (by decide), ix3f (b := fun q => some (hk_A κ 28 q)) (by decide), ix3f (b := fun q => some (hk_A κ 29 q)) (by decide), ix3f (b := fun q => some (hk_A κ 31 q)) (by decide), ix3f (b := fun q => some (hk_A κ 32 q)) (by decide), ix3f (b := fun q => some (hk_A κ 33 q)) (by decide), ix3f (b := fun q => some (hk_A κ 35 q)) (by decide), ix3f (b := fun q => some (hk_A κ 36 q)) (by decide), ix3f (b := fun q => some (hk_A κ 37 q)) (by decide), ix3f (b := fun q => some (hk_A κ 39 q)) (by decide), ix3f (b := fun q => some (hk_A κ 42 q)) (by decide), ix3f (b := fun q => some (hk_A κ 43 q)) (by decide), ix3f (b := fun q => some (hk_A κ 44 q)) (by decide), ix3f (b := fun q => some (hk_A κ 45 q)) (by decide), ix3f (b := fun q => some (hk_A κ 46 q)) (by decide), ix3f (b := fun q => some (hk_A κ 47 q)) (by decide), ix3f (b := fun q => some (hk_A κ 48 q)) (by decide), ix3f (b := fun q => some (hk_A κ 49 q)) (by decide), ix3f (b := fun q => some (hk_A κ 50 q)) (by decide), ix3f (b := fun q => some (hk_A κ 51 q)) (by decide), ix3f (b := fun q => some (hk_A κ 52 q)) (by decide), ix3f (b := fun q => some (hk_A κ 53 q)) (by decide), ix3f (b := fun q => some (hk_A κ 54 q)) (by decide), ix3f (b := fun q => some (hk_A κ 59 q)) (by decide), ix3f (b := fun q => some (hk_A κ 60 q)) (by decide), ix3f (b := fun q => some (hk_A κ 62 q)) (by decide), ix3f (b := fun q => some (hk_A κ 63 q)) (by decide), ix3f (b := fun q => some (hk_A κ 64 q)) (by decide)⟩
theorem h3r_1 : ∀ (κ : hk_T) (i : Nat), (i < 9 → ra_aI (hp κ) 0 65 (n3 i) = some (hk_A κ 65 i)) ∧
  (i < 40 → ra_aI (hp κ) 0 67 (n3 i) = some (hk_A κ 67 i)) ∧
  (i < 7 → ra_aI (hp κ) 0 68 (n3 i) = some (hk_A κ 68 i)) ∧
  (i < 7 → ra_aI (hp κ) 0 70 (n3 i) = some (hk_A κ 70 i)) ∧
  (i < 7960 → ra_aI (hp κ) 0 71 (n3 i) = some (hk_A κ 71 i)) ∧
  (i < 15920 → ra_aI (hp κ) 0 72 (n3 i) = some (hk_A κ 72 i)) ∧
  (i < 2 → ra_aI (hp κ) 2 73 (n3 i) = some (hk_A κ 73 i)) ∧
  (i < 400 → ra_aI (hp κ) 0 74 (n3 i) = some (hk_A κ 74 i)) ∧
  (i < 96 → ra_aI (hp κ) 0 75 (n3 i) = some (hk_A κ 75 i)) ∧
  (i < 400 → ra_aI (hp κ) 0 76 (n3 i) = some (hk_A κ 76 i)) ∧
  (i < 400 → ra_aI (hp κ) 0 77 (n3 i) = some (hk_A κ 77 i)) ∧
  (i < 400 → ra_aI (hp κ) 0 78 (n3 i) = some (hk_A κ 78 i)) ∧
  (i < 400 → ra_aI (hp κ) 0 79 (n3 i) = some (hk_A κ 79 i)) ∧
  (i < 12 → ra_aJ (hp κ) 80 (n3 i) = some (hk_B κ 80 i)) ∧
  (i < 5 → ra_aJ (hp κ) 81 (n3 i) = some (hk_B κ 81 i)) ∧
  (i < 13 → ra_aJ (hp κ) 82 (n3 i) = some (hk_B κ 82 i)) ∧
  (i < 400 → ra_aJ (hp κ) 83 (n3 i) = some (hk_B κ 83 i)) ∧
  (i < 320 → ra_aI (hp κ) 0 84 (n3 i) = some (hk_A κ 84 i)) ∧
  (i < 320 → ra_aI (hp κ) 2 85 (n3 i) = some (hk_A κ 85 i)) ∧
  (i < 5400 → ra_aI (hp κ) 0 86 (n3 i) = some (hk_A κ 86 i)) ∧
  (i < 40 → ra_aI (hp κ) 0 87 (n3 i) = some (hk_A κ 87 i)) ∧
  (i < 40 → ra_aI (hp κ) 0 88 (n3 i) = some (hk_A κ 88 i)) ∧
  (i < 100 → ra_aI (hp κ) 0 89 (n3 i) = some (hk_A κ 89 i)) ∧
  (i < 167936 → ra_aI (hp κ) 0 90 (n3 i) = some (hk_A κ 90 i)) ∧
  (i < 4096 → ra_aJ (hp κ) 91 (n3 i) = some (hk_B κ 91 i)) ∧
  (i < 4096 → ra_aJ (hp κ) 92 (n3 i) = some (hk_B κ 92 i)) ∧
  (i < 4096 → ra_aI (hp κ) 2 93 (n3 i) = some (hk_A κ 93 i)) ∧
  (i < 4096 → ra_aI (hp κ) 2 94 (n3 i) = some (hk_A κ 94 i)) ∧
  (i < 40 → ra_aI (hp κ) 0 95 (n3 i) = some (hk_A κ 95 i)) ∧
  (i < 40 → ra_aI (hp κ) 2 96 (n3 i) = some (hk_A κ 96 i)) ∧
  (i < 361 → ra_aI (hp κ) 0 97 (n3 i) = some (hk_A κ 97 i)) ∧
  (i < 4608 → ra_aI (hp κ) 0 98 (n3 i) = some (hk_A κ 98 i)) ∧
  (i < 9 → ra_aI (hp κ) 0 99 (n3 i) = some (hk_A κ 99 i)) ∧
  (i < 40 → ra_aI (hp κ) 0 100 (n3 i) = some (hk_A κ 100 i)) := fun κ i => ⟨ix3f (b := fun q => some (hk_A κ 65 q)) (by decide), ix3f (b := fun q => some (hk_A κ 67 q)) (by decide), ix3f (b := fun q => some (hk_A κ 68 q)) (by decide), ix3f (b := fun q => some (hk_A κ 70 q)) (by decide), ix3f (b := fun q => some (hk_A κ 71 q)) (by decide), ix3f (b := fun q => some (hk_A κ 72 q)) (by decide), ix3f (b := fun q => some (hk_A κ 73 q)) (by decide), ix3f (b := fun q => some (hk_A κ 74 q)) (by decide), ix3f (b := fun q => some (hk_A κ 75 q)) (by decide), ix3f (b := fun q => some (hk_A κ 76 q)) (by decide), ix3f (b := fun q => some (hk_A κ 77 q)) (by decide), ix3f (b := fun q => some (hk_A κ 78 q)) (by decide), ix3f (b := fun q => some (hk_A κ 79 q)) (by decide), ix3f (b := fun q => some (hk_B κ 80 q)) (by decide), ix3f (b := fun q => some (hk_B κ 81 q)) (by decide), ix3f (b := fun q => some (hk_B κ 82 q)) (by decide), ix3f (b := fun q => some (hk_B κ 83 q)) (by decide), ix3f (b := fun q => some (hk_A κ 84 q)) (by decide), ix3f (b := fun q => some (hk_A κ 85 q)) (by decide), ix3f (b := fun q => some (hk_A κ 86 q)) (by decide), ix3f (b := fun q => some (hk_A κ 87 q)) (by decide), ix3f (b := fun q => some (hk_A κ 88 q)) (by decide), ix3f (b := fun q => some (hk_A κ 89 q)) (by decide), ix3f (b := fun q => some (hk_A κ 90 q)) (by decide), ix3f (b := fun q => some (hk_B κ 91 q)) (by decide), ix3f (b := fun q => some (hk_B κ 92 q)) (by decide), ix3f (b := fun q => some (hk_A κ 93 q)) (by decide), ix3f (b := fun q => some (hk_A κ 94 q)) (by decide), ix3f (b := fun q => some (hk_A κ 95 q)) (by decide), ix3f (b := fun q => some (hk_A κ 96 q)) (by decide), ix3f (b := fun q => some (hk_A κ 97 q)) (by decide), ix3f (b := fun q => some (hk_A κ 98 q)) (by decide), ix3f (b := fun q => some (hk_A κ 99 q)) (by decide), ix3f (b := fun q => some (hk_A κ 100 q)) (by decide)⟩
theorem h3w_0 : ∀ (κ : hk_T) (i : Nat) (v : Int32), (i < 480 → ra_aW (hp κ) 0 2 (n3 i) v = some (hp (hk_wA κ 2 i v))) ∧
  (i < 9 → ra_aW (hp κ) 0 3 (n3 i) v = some (hp (hk_wA κ 3 i v))) ∧
  (i < 54 → ra_aW (hp κ) 0 4 (n3 i) v = some (hp (hk_wA κ 4 i v))) ∧
  (i < 54 → ra_aW (hp κ) 0 5 (n3 i) v = some (hp (hk_wA κ 5 i v))) ∧
  (i < 144 → ra_aW (hp κ) 0 7 (n3 i) v = some (hp (hk_wA κ 7 i v))) ∧
  (i < 12 → ra_aW (hp κ) 0 8 (n3 i) v = some (hp (hk_wA κ 8 i v))) ∧
  (i < 10 → ra_aW (hp κ) 0 9 (n3 i) v = some (hp (hk_wA κ 9 i v))) ∧
  (i < 10 → ra_aW (hp κ) 0 10 (n3 i) v = some (hp (hk_wA κ 10 i v))) ∧
  (i < 9 → ra_aW (hp κ) 0 11 (n3 i) v = some (hp (hk_wA κ 11 i v))) ∧
  (i < 12 → ra_aW (hp κ) 0 12 (n3 i) v = some (hp (hk_wA κ 12 i v))) ∧
  (i < 12 → ra_aW (hp κ) 0 13 (n3 i) v = some (hp (hk_wA κ 13 i v))) ∧
  (i < 12 → ra_aW (hp κ) 0 14 (n3 i) v = some (hp (hk_wA κ 14 i v))) ∧
  (i < 400 → ra_aW (hp κ) 0 17 (n3 i) v = some (hp (hk_wA κ 17 i v))) ∧
  (i < 400 → ra_aW (hp κ) 0 18 (n3 i) v = some (hp (hk_wA κ 18 i v))) ∧
  (i < 12 → ra_aW (hp κ) 0 19 (n3 i) v = some (hp (hk_wA κ 19 i v))) ∧
  (i < 25 → ra_aW (hp κ) 0 20 (n3 i) v = some (hp (hk_wA κ 20 i v))) ∧
  (i < 64 → ra_aW (hp κ) 0 22 (n3 i) v = some (hp (hk_wA κ 22 i v))) ∧
  (i < 320 → ra_aW (hp κ) 0 24 (n3 i) v = some (hp (hk_wA κ 24 i v))) ∧
  (i < 320 → ra_aW (hp κ) 2 25 (n3 i) v = some (hp (hk_wA κ 25 i v))) ∧
  (i < 320 → ra_aW (hp κ) 0 26 (n3 i) v = some (hp (hk_wA κ 26 i v))) ∧
  (i < 5346 → ra_aW (hp κ) 0 27 (n3 i) v = some (hp (hk_wA κ 27 i v))) ∧
  (i < 40 → ra_aW (hp κ) 0 28 (n3 i) v = some (hp (hk_wA κ 28 i v))) ∧
  (i < 5 → ra_aW (hp κ) 0 29 (n3 i) v = some (hp (hk_wA κ 29 i v))) ∧
  (i < 40 → ra_aW (hp κ) 0 31 (n3 i) v = some (hp (hk_wA κ 31 i v))) ∧
  (i < 40 → ra_aW (hp κ) 0 32 (n3 i) v = some (hp (hk_wA κ 32 i v))) ∧
  (i < 54 → ra_aW (hp κ) 0 33 (n3 i) v = some (hp (hk_wA κ 33 i v))) ∧
  (i < 40 → ra_aW (hp κ) 0 35 (n3 i) v = some (hp (hk_wA κ 35 i v))) ∧
  (i < 40 → ra_aW (hp κ) 0 36 (n3 i) v = some (hp (hk_wA κ 36 i v))) ∧
  (i < 54 → ra_aW (hp κ) 0 37 (n3 i) v = some (hp (hk_wA κ 37 i v))) ∧
  (i < 40 → ra_aW (hp κ) 0 39 (n3 i) v = some (hp (hk_wA κ 39 i v))) ∧
  (i < 13 → ra_aW (hp κ) 0 42 (n3 i) v = some (hp (hk_wA κ 42 i v))) ∧
  (i < 54 → ra_aW (hp κ) 0 43 (n3 i) v = some (hp (hk_wA κ 43 i v))) ∧
  (i < 54 → ra_aW (hp κ) 0 44 (n3 i) v = some (hp (hk_wA κ 44 i v))) ∧
  (i < 54 → ra_aW (hp κ) 0 45 (n3 i) v = some (hp (hk_wA κ 45 i v))) ∧
  (i < 54 → ra_aW (hp κ) 0 46 (n3 i) v = some (hp (hk_wA κ 46 i v))) ∧
  (i < 54 → ra_aW (hp κ) 2 47 (n3 i) v = some (hp (hk_wA κ 47 i v))) ∧
  (i < 702 → ra_aW (hp κ) 0 48 (n3 i) v = some (hp (hk_wA κ 48 i v))) ∧
  (i < 40 → ra_aW (hp κ) 0 49 (n3 i) v = some (hp (hk_wA κ 49 i v))) ∧
  (i < 41 → ra_aW (hp κ) 0 50 (n3 i) v = some (hp (hk_wA κ 50 i v))) ∧
  (i < 41 → ra_aW (hp κ) 0 51 (n3 i) v = some (hp (hk_wA κ 51 i v))) ∧
  (i < 12 → ra_aW (hp κ) 0 52 (n3 i) v = some (hp (hk_wA κ 52 i v))) ∧
  (i < 12 → ra_aW (hp κ) 0 53 (n3 i) v = some (hp (hk_wA κ 53 i v))) ∧
  (i < 361 → ra_aW (hp κ) 0 54 (n3 i) v = some (hp (hk_wA κ 54 i v))) ∧
  (i < 40 → ra_aW (hp κ) 0 59 (n3 i) v = some (hp (hk_wA κ 59 i v))) ∧
  (i < 40 → ra_aW (hp κ) 2 60 (n3 i) v = some (hp (hk_wA κ 60 i v))) ∧
  (i < 9 → ra_aW (hp κ) 0 62 (n3 i) v = some (hp (hk_wA κ 62 i v))) ∧
  (i < 81 → ra_aW (hp κ) 0 63 (n3 i) v = some (hp (hk_wA κ 63 i v))) ∧
  (i < 4608 → ra_aW (hp κ) 0 64 (n3 i) v = some (hp (hk_wA κ 64 i v))) ∧
  (i < 9 → ra_aW (hp κ) 0 65 (n3 i) v = some (hp (hk_wA κ 65 i v))) ∧
  (i < 40 → ra_aW (hp κ) 0 67 (n3 i) v = some (hp (hk_wA κ 67 i v))) := fun κ i v => ⟨fun hi => (hk_aW_A (t := 0) (n := 480) rfl (by decide)).trans (ix3f (b := fun q => some (hp (hk_wA κ 2 q v))) (by decide) hi), fun hi => (hk_aW_A (t := 0) (n := 9) rfl (by decide)).trans (ix3f (b := fun q => some (hp (hk_wA κ 3 q v))) (by decide) hi), fun hi => (hk_aW_A (t := 0) (n := 54) rfl (by decide)).trans (ix3f (b := fun q => some (hp (hk_wA κ 4 q v))) (by decide) hi), fun hi => (hk_aW_A (t := 0) (n := 54) rfl (by decide)).trans (ix3f (b := fun q => some (hp (hk_wA κ 5 q v))) (by decide) hi), fun hi => (hk_aW_A (t := 0) (n := 144) rfl (by decide)).trans (ix3f (b := fun q => some (hp (hk_wA κ 7 q v))) (by decide) hi), fun hi => (hk_aW_A (t := 0) (n := 12) rfl (by decide)).trans (ix3f (b := fun q => some (hp (hk_wA κ 8 q v))) (by decide) hi), fun hi => (hk_aW_A (t := 0) (n := 10) rfl (by decide)).trans (ix3f (b := fun q => some (hp (hk_wA κ 9 q v))) (by decide) hi), fun hi => (hk_aW_A (t := 0) (n := 10) rfl (by decide)).trans (ix3f (b := fun q => some (hp (hk_wA κ 10 q v))) (by decide) hi), fun hi => (hk_aW_A (t := 0) (n := 9) rfl (by decide)).trans (ix3f (b := fun q => some (hp (hk_wA κ 11 q v))) (by decide) hi), fun hi => (hk_aW_A (t := 0) (n := 12) rfl (by decide)).trans (ix3f (b := fun q => some (hp (hk_wA κ 12 q v))) (by decide) hi), fun hi => (hk_aW_A (t := 0) (n := 12) rfl (by decide)).trans (ix3f (b := fun q => some (hp (hk_wA κ 13 q v))) (by decide) hi), fun hi => (hk_aW_A (t := 0) (n := 12) rfl (by decide)).trans (ix3f (b := fun q => some (hp (hk_wA κ 14 q v))) (by decide) hi), fun hi => (hk_aW_A (t := 0) (n := 400) rfl (by decide)).trans (ix3f (b := fun q => some (hp (hk_wA κ 17 q v))) (by decide) hi), fun hi => (hk_aW_A (t := 0) (n := 400) rfl (by decide)).trans (ix3f (b := fun q => some (hp (hk_wA κ 18 q v))) (by decide) hi), fun hi => (hk_aW_A (t := 0) (n := 12) rfl (by decide)).trans (ix3f (b := fun q => some (hp (hk_wA κ 19 q v))) (by decide) hi), fun hi => (hk_aW_A (t := 0) (n := 25) rfl (by decide)).trans (ix3f (b := fun q => some (hp (hk_wA κ 20 q v))) (by decide) hi), fun hi => (hk_aW_A (t := 0) (n := 64) rfl (by decide)).trans (ix3f (b := fun q => some (hp (hk_wA κ 22 q v))) (by decide) hi), fun hi => (hk_aW_A (t := 0) (n := 320) rfl (by decide)).trans (ix3f (b := fun q => some (hp (hk_wA κ 24 q v))) (by decide) hi), fun hi => (hk_aW_A (t := 2) (n := 320) rfl (by decide)).trans (ix3f (b := fun q => some (hp (hk_wA κ 25 q v))) (by decide) hi), fun hi => (hk_aW_A (t := 0) (n := 320) rfl (by decide)).trans (ix3f (b := fun q => some (hp (hk_wA κ 26 q v))) (by decide) hi), fun hi => (hk_aW_A (t := 0) (n := 5346) rfl (by decide)).trans (ix3f (b := fun q => some (hp (hk_wA κ 27 q v))) (by decide) hi), fun hi => (hk_aW_A (t := 0) (n := 40) rfl (by decide)).trans (ix3f (b := fun q => some (hp (hk_wA κ 28 q v))) (by decide) hi), fun hi => (hk_aW_A (t := 0) (n := 5) rfl (by decide)).trans (ix3f (b := fun q => some (hp (hk_wA κ 29 q v))) (by decide) hi), fun hi => (hk_aW_A (t := 0) (n := 40) rfl (by decide)).trans (ix3f (b := fun q => some (hp (hk_wA κ 31 q v))) (by decide) hi), fun hi => (hk_aW_A (t := 0) (n := 40) rfl (by decide)).trans (ix3f (b := fun q => some (hp (hk_wA κ 32 q v))) (by decide) hi), fun hi => (hk_aW_A (t := 0) (n := 54) rfl (by decide)).trans (ix3f (b := fun q => some (hp (hk_wA κ 33 q v))) (by decide) hi), fun hi => (hk_aW_A (t := 0) (n := 40) rfl (by decide)).trans (ix3f (b := fun q => some (hp (hk_wA κ 35 q v))) (by decide) hi), fun hi => (hk_aW_A (t := 0) (n := 40) rfl (by decide)).trans (ix3f (b := fun q => some (hp (hk_wA κ 36 q v))) (by decide) hi), fun hi => (hk_aW_A (t := 0) (n := 54) rfl (by decide)).trans (ix3f (b := fun q => some (hp (hk_wA κ 37 q v))) (by decide) hi), fun hi => (hk_aW_A (t := 0) (n := 40) rfl (by decide)).trans (ix3f (b := fun q => some (hp (hk_wA κ 39 q v))) (by decide) hi), fun hi => (hk_aW_A (t := 0) (n := 13) rfl (by decide)).trans (ix3f (b := fun q => some (hp (hk_wA κ 42 q v))) (by decide) hi), fun hi => (hk_aW_A (t := 0) (n := 54) rfl (by decide)).trans (ix3f (b := fun q => some (hp (hk_wA κ 43 q v))) (by decide) hi), fun hi => (hk_aW_A (t := 0) (n := 54) rfl (by decide)).trans (ix3f (b := fun q => some (hp (hk_wA κ 44 q v))) (by decide) hi), fun hi => (hk_aW_A (t := 0) (n := 54) rfl (by decide)).trans (ix3f (b := fun q => some (hp (hk_wA κ 45 q v))) (by decide) hi), fun hi => (hk_aW_A (t := 0) (n := 54) rfl (by decide)).trans (ix3f (b := fun q => some (hp (hk_wA κ 46 q v))) (by decide) hi), fun hi => (hk_aW_A (t := 2) (n := 54) rfl (by decide)).trans (ix3f (b := fun q => some (hp (hk_wA κ 47 q v))) (by decide) hi), fun hi => (hk_aW_A (t := 0) (n := 702) rfl (by decide)).trans (ix3f (b := fun q => some (hp (hk_wA κ 48 q v))) (by decide) hi), fun hi => (hk_aW_A (t := 0) (n := 40) rfl (by decide)).trans (ix3f (b := fun q => some (hp (hk_wA κ 49 q v))) (by decide) hi), fun hi => (hk_aW_A (t := 0) (n := 41) rfl (by decide)).trans (ix3f (b := fun q => some (hp (hk_wA κ 50 q v))) (by decide) hi), fun hi => (hk_aW_A (t := 0) (n := 41) rfl (by decide)).trans (ix3f (b := fun q => some (hp (hk_wA κ 51 q v))) (by decide) hi), fun hi => (hk_aW_A (t := 0) (n := 12) rfl (by decide)).trans (ix3f (b := fun q => some (hp (hk_wA κ 52 q v))) (by decide) hi), fun hi => (hk_aW_A (t := 0) (n := 12) rfl (by decide)).trans (ix3f (b := fun q => some (hp (hk_wA κ 53 q v))) (by decide) hi), fun hi => (hk_aW_A (t := 0) (n := 361) rfl (by decide)).trans (ix3f (b := fun q => some (hp (hk_wA κ 54 q v))) (by decide) hi), fun hi => (hk_aW_A (t := 0) (n := 40) rfl (by decide)).trans (ix3f (b := fun q => some (hp (hk_wA κ 59 q v))) (by decide) hi), fun hi => (hk_aW_A (t := 2) (n := 40) rfl (by decide)).trans (ix3f (b := fun q => some (hp (hk_wA κ 60 q v))) (by decide) hi), fun hi => (hk_aW_A (t := 0) (n := 9) rfl (by decide)).trans (ix3f (b := fun q => some (hp (hk_wA κ 62 q v))) (by decide) hi), fun hi => (hk_aW_A (t := 0) (n := 81) rfl (by decide)).trans (ix3f (b := fun q => some (hp (hk_wA κ 63 q v))) (by decide) hi), fun hi => (hk_aW_A (t := 0) (n := 4608) rfl (by decide)).trans (ix3f (b := fun q => some (hp (hk_wA κ 64 q v))) (by decide) hi), fun hi => (hk_aW_A (t := 0) (n := 9) rfl (by decide)).trans (ix3f (b := fun q => some (hp (hk_wA κ 65 q v))) (by decide) hi), fun hi => (hk_aW_A (t := 0) (n := 40) rfl (by decide)).trans (ix3f (b := fun q => some (hp (hk_wA κ 67 q v))) (by decide) hi)⟩
theorem h3w_1 : ∀ (κ : hk_T) (i : Nat) (v : Int32), (i < 7 → ra_aW (hp κ) 0 68 (n3 i) v = some (hp (hk_wA κ 68 i v))) ∧
  (i < 7 → ra_aW (hp κ) 0 70 (n3 i) v = some (hp (hk_wA κ 70 i v))) ∧
  (i < 7960 → ra_aW (hp κ) 0 71 (n3 i) v = some (hp (hk_wA κ 71 i v))) ∧
  (i < 15920 → ra_aW (hp κ) 0 72 (n3 i) v = some (hp (hk_wA κ 72 i v))) ∧
  (i < 2 → ra_aW (hp κ) 2 73 (n3 i) v = some (hp (hk_wA κ 73 i v))) ∧
  (i < 400 → ra_aW (hp κ) 0 74 (n3 i) v = some (hp (hk_wA κ 74 i v))) ∧
  (i < 96 → ra_aW (hp κ) 0 75 (n3 i) v = some (hp (hk_wA κ 75 i v))) ∧
  (i < 400 → ra_aW (hp κ) 0 76 (n3 i) v = some (hp (hk_wA κ 76 i v))) ∧
  (i < 400 → ra_aW (hp κ) 0 77 (n3 i) v = some (hp (hk_wA κ 77 i v))) ∧
  (i < 400 → ra_aW (hp κ) 0 78 (n3 i) v = some (hp (hk_wA κ 78 i v))) ∧
  (i < 400 → ra_aW (hp κ) 0 79 (n3 i) v = some (hp (hk_wA κ 79 i v))) ∧
  (i < 320 → ra_aW (hp κ) 0 84 (n3 i) v = some (hp (hk_wA κ 84 i v))) ∧
  (i < 320 → ra_aW (hp κ) 2 85 (n3 i) v = some (hp (hk_wA κ 85 i v))) ∧
  (i < 5400 → ra_aW (hp κ) 0 86 (n3 i) v = some (hp (hk_wA κ 86 i v))) ∧
  (i < 40 → ra_aW (hp κ) 0 87 (n3 i) v = some (hp (hk_wA κ 87 i v))) ∧
  (i < 40 → ra_aW (hp κ) 0 88 (n3 i) v = some (hp (hk_wA κ 88 i v))) ∧
  (i < 100 → ra_aW (hp κ) 0 89 (n3 i) v = some (hp (hk_wA κ 89 i v))) ∧
  (i < 167936 → ra_aW (hp κ) 0 90 (n3 i) v = some (hp (hk_wA κ 90 i v))) ∧
  (i < 4096 → ra_aW (hp κ) 2 93 (n3 i) v = some (hp (hk_wA κ 93 i v))) ∧
  (i < 4096 → ra_aW (hp κ) 2 94 (n3 i) v = some (hp (hk_wA κ 94 i v))) ∧
  (i < 40 → ra_aW (hp κ) 0 95 (n3 i) v = some (hp (hk_wA κ 95 i v))) ∧
  (i < 40 → ra_aW (hp κ) 2 96 (n3 i) v = some (hp (hk_wA κ 96 i v))) ∧
  (i < 361 → ra_aW (hp κ) 0 97 (n3 i) v = some (hp (hk_wA κ 97 i v))) ∧
  (i < 4608 → ra_aW (hp κ) 0 98 (n3 i) v = some (hp (hk_wA κ 98 i v))) ∧
  (i < 9 → ra_aW (hp κ) 0 99 (n3 i) v = some (hp (hk_wA κ 99 i v))) ∧
  (i < 40 → ra_aW (hp κ) 0 100 (n3 i) v = some (hp (hk_wA κ 100 i v))) := fun κ i v => ⟨fun hi => (hk_aW_A (t := 0) (n := 7) rfl (by decide)).trans (ix3f (b := fun q => some (hp (hk_wA κ 68 q v))) (by decide) hi), fun hi => (hk_aW_A (t := 0) (n := 7) rfl (by decide)).trans (ix3f (b := fun q => some (hp (hk_wA κ 70 q v))) (by decide) hi), fun hi => (hk_aW_A (t := 0) (n := 7960) rfl (by decide)).trans (ix3f (b := fun q => some (hp (hk_wA κ 71 q v))) (by decide) hi), fun hi => (hk_aW_A (t := 0) (n := 15920) rfl (by decide)).trans (ix3f (b := fun q => some (hp (hk_wA κ 72 q v))) (by decide) hi), fun hi => (hk_aW_A (t := 2) (n := 2) rfl (by decide)).trans (ix3f (b := fun q => some (hp (hk_wA κ 73 q v))) (by decide) hi), fun hi => (hk_aW_A (t := 0) (n := 400) rfl (by decide)).trans (ix3f (b := fun q => some (hp (hk_wA κ 74 q v))) (by decide) hi), fun hi => (hk_aW_A (t := 0) (n := 96) rfl (by decide)).trans (ix3f (b := fun q => some (hp (hk_wA κ 75 q v))) (by decide) hi), fun hi => (hk_aW_A (t := 0) (n := 400) rfl (by decide)).trans (ix3f (b := fun q => some (hp (hk_wA κ 76 q v))) (by decide) hi), fun hi => (hk_aW_A (t := 0) (n := 400) rfl (by decide)).trans (ix3f (b := fun q => some (hp (hk_wA κ 77 q v))) (by decide) hi), fun hi => (hk_aW_A (t := 0) (n := 400) rfl (by decide)).trans (ix3f (b := fun q => some (hp (hk_wA κ 78 q v))) (by decide) hi), fun hi => (hk_aW_A (t := 0) (n := 400) rfl (by decide)).trans (ix3f (b := fun q => some (hp (hk_wA κ 79 q v))) (by decide) hi), fun hi => (hk_aW_A (t := 0) (n := 320) rfl (by decide)).trans (ix3f (b := fun q => some (hp (hk_wA κ 84 q v))) (by decide) hi), fun hi => (hk_aW_A (t := 2) (n := 320) rfl (by decide)).trans (ix3f (b := fun q => some (hp (hk_wA κ 85 q v))) (by decide) hi), fun hi => (hk_aW_A (t := 0) (n := 5400) rfl (by decide)).trans (ix3f (b := fun q => some (hp (hk_wA κ 86 q v))) (by decide) hi), fun hi => (hk_aW_A (t := 0) (n := 40) rfl (by decide)).trans (ix3f (b := fun q => some (hp (hk_wA κ 87 q v))) (by decide) hi), fun hi => (hk_aW_A (t := 0) (n := 40) rfl (by decide)).trans (ix3f (b := fun q => some (hp (hk_wA κ 88 q v))) (by decide) hi), fun hi => (hk_aW_A (t := 0) (n := 100) rfl (by decide)).trans (ix3f (b := fun q => some (hp (hk_wA κ 89 q v))) (by decide) hi), fun hi => (hk_aW_A (t := 0) (n := 167936) rfl (by decide)).trans (ix3f (b := fun q => some (hp (hk_wA κ 90 q v))) (by decide) hi), fun hi => (hk_aW_A (t := 2) (n := 4096) rfl (by decide)).trans (ix3f (b := fun q => some (hp (hk_wA κ 93 q v))) (by decide) hi), fun hi => (hk_aW_A (t := 2) (n := 4096) rfl (by decide)).trans (ix3f (b := fun q => some (hp (hk_wA κ 94 q v))) (by decide) hi), fun hi => (hk_aW_A (t := 0) (n := 40) rfl (by decide)).trans (ix3f (b := fun q => some (hp (hk_wA κ 95 q v))) (by decide) hi), fun hi => (hk_aW_A (t := 2) (n := 40) rfl (by decide)).trans (ix3f (b := fun q => some (hp (hk_wA κ 96 q v))) (by decide) hi), fun hi => (hk_aW_A (t := 0) (n := 361) rfl (by decide)).trans (ix3f (b := fun q => some (hp (hk_wA κ 97 q v))) (by decide) hi), fun hi => (hk_aW_A (t := 0) (n := 4608) rfl (by decide)).trans (ix3f (b := fun q => some (hp (hk_wA κ 98 q v))) (by decide) hi), fun hi => (hk_aW_A (t := 0) (n := 9) rfl (by decide)).trans (ix3f (b := fun q => some (hp (hk_wA κ 99 q v))) (by decide) hi), fun hi => (hk_aW_A (t := 0) (n := 40) rfl (by decide)).trans (ix3f (b := fun q => some (hp (hk_wA κ 100 q v))) (by decide) hi)⟩
theorem h3v_0 : ∀ (κ : hk_T) (i : Nat) (v : Int64), (i < 12 → ra_aWJ (hp κ) 80 (n3 i) v = some (hp (hk_wB κ 80 i v))) ∧
  (i < 5 → ra_aWJ (hp κ) 81 (n3 i) v = some (hp (hk_wB κ 81 i v))) ∧
  (i < 13 → ra_aWJ (hp κ) 82 (n3 i) v = some (hp (hk_wB κ 82 i v))) ∧
  (i < 400 → ra_aWJ (hp κ) 83 (n3 i) v = some (hp (hk_wB κ 83 i v))) ∧
  (i < 4096 → ra_aWJ (hp κ) 91 (n3 i) v = some (hp (hk_wB κ 91 i v))) ∧
  (i < 4096 → ra_aWJ (hp κ) 92 (n3 i) v = some (hp (hk_wB κ 92 i v))) := fun κ i v => ⟨fun hi => (hk_aW_B (n := 12) rfl).trans (ix3f (b := fun q => some (hp (hk_wB κ 80 q v))) (by decide) hi), fun hi => (hk_aW_B (n := 5) rfl).trans (ix3f (b := fun q => some (hp (hk_wB κ 81 q v))) (by decide) hi), fun hi => (hk_aW_B (n := 13) rfl).trans (ix3f (b := fun q => some (hp (hk_wB κ 82 q v))) (by decide) hi), fun hi => (hk_aW_B (n := 400) rfl).trans (ix3f (b := fun q => some (hp (hk_wB κ 83 q v))) (by decide) hi), fun hi => (hk_aW_B (n := 4096) rfl).trans (ix3f (b := fun q => some (hp (hk_wB κ 91 q v))) (by decide) hi), fun hi => (hk_aW_B (n := 4096) rfl).trans (ix3f (b := fun q => some (hp (hk_wB κ 92 q v))) (by decide) hi)⟩
/-! what is read behind a write -/
theorem A_ne {κ : hk_T} {k i k' i' : Nat} {v : Int32} (h : k' ≠ k ∨ i' ≠ i) : hk_A (hk_wA κ k i v) k' i' = hk_A κ k' i' := by
  rw [hk_A_wA, if_neg (by omega)]
theorem A_eq {κ : hk_T} {k i i' : Nat} {v : Int32} (h : i' = i) : hk_A (hk_wA κ k i v) k i' = v := by
  rw [hk_A_wA, if_pos ⟨rfl, h⟩]
theorem A_row {κ : hk_T} {k i k' : Nat} {v : Int32} (h : k' ≠ k) : hk_A (hk_wA κ k i v) k' = hk_A κ k' := by
  funext j; exact A_ne (Or.inl h)
theorem B_ne {κ : hk_T} {k i k' i' : Nat} {v : Int64} (h : k' ≠ k ∨ i' ≠ i) : hk_B (hk_wB κ k i v) k' i' = hk_B κ k' i' := by
  rw [hk_B_wB, if_neg (by omega)]
theorem B_eq {κ : hk_T} {k i i' : Nat} {v : Int64} (h : i' = i) : hk_B (hk_wB κ k i v) k i' = v := by
  rw [hk_B_wB, if_pos ⟨rfl, h⟩]
theorem B_row {κ : hk_T} {k i k' : Nat} {v : Int64} (h : k' ≠ k) : hk_B (hk_wB κ k i v) k' = hk_B κ k' := by
  funext j; exact B_ne (Or.inl h)
theorem I_ne {κ : hk_T} {k i k' i' : Nat} {v : Int32} (h : k' ≠ k ∨ i' ≠ i) : hk_I (hk_wI κ k i v) k' i' = hk_I κ k' i' := by
  rw [hk_I_wI, if_neg (by omega)]
theorem I_eq {κ : hk_T} {k i : Nat} {v : Int32} : hk_I (hk_wI κ k i v) k i = v := by
  rw [hk_I_wI, if_pos ⟨rfl, rfl⟩]
theorem J_ne {κ : hk_T} {i i' : Nat} {v : Int64} (h : i' ≠ i) : hk_J (hk_wJ κ i v) i' = hk_J κ i' := by
  rw [hk_J_wJ, if_neg h]
theorem J_eq {κ : hk_T} {i : Nat} {v : Int64} : hk_J (hk_wJ κ i v) i = v := by
  rw [hk_J_wJ, if_pos rfl]
/-! all but some rows and fields (long fields aside) is the same -/
def same (ks : List Nat) (fs : List (Nat × Nat)) (κ κ' : hk_T) : Prop := (∀ k, k ∉ ks → hk_A κ' k = hk_A κ k) ∧ (∀ k, k ∉ ks → hk_B κ' k = hk_B κ k) ∧ (∀ k j, (k, j) ∉ fs → hk_I κ' k j = hk_I κ k j) ∧ hk_Q κ' = hk_Q κ ∧ hk_P κ' = hk_P κ ∧ hk_D κ' = hk_D κ ∧ hk_n κ' = hk_n κ ∧ hk_s κ' = hk_s κ ∧ hk_x κ' = hk_x κ
theorem same.refl (ks : List Nat) (fs : List (Nat × Nat)) (κ : hk_T) : same ks fs κ κ := ⟨fun _ _ => rfl, fun _ _ => rfl, fun _ _ _ => rfl, rfl, rfl, rfl, rfl, rfl, rfl⟩
theorem same.trans {ks : List Nat} {fs : List (Nat × Nat)} {κ κ' κ'' : hk_T} (h : same ks fs κ κ') (g : same ks fs κ' κ'') : same ks fs κ κ'' := by
  obtain ⟨a1, a2, a3, a4, a5, a6, a7, a8, a9⟩ := h
  obtain ⟨b1, b2, b3, b4, b5, b6, b7, b8, b9⟩ := g
  exact ⟨fun k hk => (b1 k hk).trans (a1 k hk), fun k hk => (b2 k hk).trans (a2 k hk), fun k j hk => (b3 k j hk).trans (a3 k j hk), b4.trans a4, b5.trans a5, b6.trans a6, b7.trans a7, b8.trans a8, b9.trans a9⟩
theorem same.weak {ks ks' : List Nat} {fs fs' : List (Nat × Nat)} {κ κ' : hk_T} (h : same ks fs κ κ') (hk : ∀ k ∈ ks, k ∈ ks') (hf : ∀ q ∈ fs, q ∈ fs') : same ks' fs' κ κ' := by
  obtain ⟨a1, a2, a3, a4⟩ := h
  exact ⟨fun k g => a1 k (fun z => g (hk k z)), fun k g => a2 k (fun z => g (hk k z)), fun k j g => a3 k j (fun z => g (hf _ z)), a4⟩
theorem same.wA {ks : List Nat} {fs : List (Nat × Nat)} {κ κ' : hk_T} (h : same ks fs κ κ') {k i : Nat} {v : Int32} (hk : k ∈ ks) : same ks fs κ (hk_wA κ' k i v) := by
  obtain ⟨a1, a2, a3, a4⟩ := h
  refine ⟨fun q g => ?_, a2, a3, a4⟩
  rw [A_row (fun z => g (by rw [z]; exact hk))]
  exact a1 q g
theorem same.wB {ks : List Nat} {fs : List (Nat × Nat)} {κ κ' : hk_T} (h : same ks fs κ κ') {k i : Nat} {v : Int64} (hk : k ∈ ks) : same ks fs κ (hk_wB κ' k i v) := by
  obtain ⟨a1, a2, a3, a4⟩ := h
  refine ⟨a1, fun q g => ?_, a3, a4⟩
  rw [B_row (fun z => g (by rw [z]; exact hk))]
  exact a2 q g
theorem same.wI {ks : List Nat} {fs : List (Nat × Nat)} {κ κ' : hk_T} (h : same ks fs κ κ') {k i : Nat} {v : Int32} (hk : (k, i) ∈ fs) : same ks fs κ (hk_wI κ' k i v) := by
  obtain ⟨a1, a2, a3, a4⟩ := h
  refine ⟨a1, a2, fun q j g => ?_, a4⟩
  have : q ≠ k ∨ j ≠ i := by
    by_cases h1 : q = k
    · by_cases h2 : j = i
      · subst h1; subst h2; exact absurd hk g
      · exact Or.inr h2
    · exact Or.inl h1
  rw [I_ne this]
  exact a3 q j g
theorem same.wJ {ks : List Nat} {fs : List (Nat × Nat)} {κ κ' : hk_T} (h : same ks fs κ κ') {i : Nat} {v : Int64} : same ks fs κ (hk_wJ κ' i v) := h
/-! loops -/
def fo {σ : Type} (st : Nat → σ → σ) : Nat → Nat → σ → σ
  | _, 0, s => s
  | i, n + 1, s => fo st (i + 1) n (st i s)
theorem fo_last {σ : Type} (st : Nat → σ → σ) : ∀ (n i : Nat) (s : σ), fo st i (n + 1) s = st (i + n) (fo st i n s) := by
  intro n
  induction n with
  | zero => intro i s; rfl
  | succ n ih =>
    intro i s
    show fo st (i + 1) (n + 1) (st i s) = _
    rw [ih]
    show st (i + 1 + n) (fo st (i + 1) n (st i s)) = st (i + (n + 1)) (fo st (i + 1) n (st i s))
    congr 1
    omega
theorem fo_congr {σ : Type} {st st' : Nat → σ → σ} : ∀ (n i : Nat) (s : σ), (∀ j s, i ≤ j → j < i + n → st j s = st' j s) → fo st i n s = fo st' i n s := by
  intro n
  induction n with
  | zero => intro i s _; rfl
  | succ n ih =>
    intro i s h
    show fo st (i + 1) n (st i s) = fo st' (i + 1) n (st' i s)
    rw [h i s (Nat.le_refl _) (by omega)]
    exact ih _ _ (fun j s h1 h2 => h j s (by omega) (by omega))
/-- a loop over i that makes no choice of its own -/
theorem lp {σ β : Type} (F : Nat → Nat → σ → Option β) (n : Nat) (st : Nat → σ → σ) (out : σ → Option β) (I : Nat → σ → Prop)
    (h1 : ∀ m i s, i < n → I i s → F (m + 1) i s = F m (i + 1) (st i s) ∧ I (i + 1) (st i s)) (h2 : ∀ m s, I n s → F (m + 1) n s = out s) :
    ∀ d i m s, i + d = n → d < m → I i s → F m i s = out (fo st i d s) ∧ I n (fo st i d s) := by
  intro d
  induction d with
  | zero =>
    intro i m s hi hm hI
    obtain ⟨m, rfl⟩ : ∃ k, m = k + 1 := ⟨m - 1, by omega⟩
    have : i = n := by omega
    subst this
    exact ⟨h2 m s hI, hI⟩
  | succ d ih =>
    intro i m s hi hm hI
    obtain ⟨m, rfl⟩ : ∃ k, m = k + 1 := ⟨m - 1, by omega⟩
    obtain ⟨e, hI'⟩ := h1 m i s (by omega) hI
    rw [e]
    exact ih (i + 1) m (st i s) (by omega) (by omega) hI'
/-- without anything to keep -/
theorem lp0 {σ β : Type} (F : Nat → Nat → σ → Option β) (n : Nat) (st : Nat → σ → σ) (out : σ → Option β)
    (h1 : ∀ m i s, i < n → F (m + 1) i s = F m (i + 1) (st i s)) (h2 : ∀ m s, F (m + 1) n s = out s) {m : Nat} (hm : n < m) (s : σ) : F m 0 s = out (fo st 0 n s) :=
  (lp F n st out (fun _ _ => True) (fun m i s h _ => ⟨h1 m i s h, trivial⟩) (fun m s _ => h2 m s) n 0 m s (by omega) hm trivial).1
/-- a loop that keeps I; what it comes to is chosen on the way -/
theorem lpx {σ β : Type} (F : Nat → Nat → σ → Option β) (n : Nat) (I : Nat → σ → Prop)
    (h1 : ∀ m i s, i < n → I i s → ∃ s', F (m + 1) i s = F m (i + 1) s' ∧ I (i + 1) s') :
    ∀ d i m s, i + d = n → d < m → I i s → ∃ m' s', F m i s = F (m' + 1) n s' ∧ I n s' := by
  intro d
  induction d with
  | zero =>
    intro i m s hi hm hI
    have : i = n := by omega
    subst this
    exact ⟨m - 1, s, by rw [show m - 1 + 1 = m by omega], hI⟩
  | succ d ih =>
    intro i m s hi hm hI
    obtain ⟨m, rfl⟩ : ∃ k, m = k + 1 := ⟨m - 1, by omega⟩
    obtain ⟨s', e, hI'⟩ := h1 m i s (by omega) hI
    rw [e]
    exact ih (i + 1) m s' (by omega) (by omega) hI'
