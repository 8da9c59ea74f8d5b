/-! numbers: an Int32 as I z of an Int z; operations; comparisons inside the range -/
def I (z : Int) : Int32 := Int32.ofInt z
def J (z : Int) : Int64 := Int64.ofInt z
theorem Ib {z : Int} (h1 : -2147483648 ≤ z) (h2 : z < 2147483648) : z.bmod (2 ^ 32) = z := by
  rw [Int.bmod_def]; split <;> omega
theorem Jb {z : Int} (h1 : -9223372036854775808 ≤ z) (h2 : z < 9223372036854775808) : z.bmod (2 ^ 64) = z := by
  rw [Int.bmod_def]; split <;> omega
theorem IT {z : Int} (h1 : -2147483648 ≤ z) (h2 : z < 2147483648) : (I z).toInt = z := by
  unfold I
  rw [Int32.toInt_ofInt]
  exact Ib h1 h2
theorem JT {z : Int} (h1 : -9223372036854775808 ≤ z) (h2 : z < 9223372036854775808) : (J z).toInt = z := by
  unfold J
  rw [Int64.toInt_ofInt]
  exact Jb h1 h2
theorem Iof (x : Int32) : I x.toInt = x := by
  unfold I
  exact Int32.ofInt_toInt x
theorem Jof (x : Int64) : J x.toInt = x := by
  unfold J
  exact Int64.ofInt_toInt x
theorem Irg (x : Int32) : -2147483648 ≤ x.toInt ∧ x.toInt < 2147483648 := ⟨Int32.le_toInt x, Int32.toInt_lt x⟩
theorem Jrg (x : Int64) : -9223372036854775808 ≤ x.toInt ∧ x.toInt < 9223372036854775808 := ⟨Int64.le_toInt x, Int64.toInt_lt x⟩
theorem I_ex (x : Int32) : ∃ z : Int, x = I z ∧ -2147483648 ≤ z ∧ z < 2147483648 := ⟨x.toInt, (Iof x).symm, (Irg x).1, (Irg x).2⟩
theorem I_add (a b : Int) : I a + I b = I (a + b) := (Int32.ofInt_add a b).symm
theorem I_sub (a b : Int) : I a - I b = I (a - b) := (Int32.ofInt_sub a b).symm
theorem I_mul (a b : Int) : I a * I b = I (a * b) := (Int32.ofInt_mul a b).symm
theorem I_neg (a : Int) : -I a = I (-a) := (Int32.ofInt_neg a).symm
theorem J_add (a b : Int) : J a + J b = J (a + b) := (Int64.ofInt_add a b).symm
theorem J_sub (a b : Int) : J a - J b = J (a - b) := (Int64.ofInt_sub a b).symm
theorem J_mul (a b : Int) : J a * J b = J (a * b) := (Int64.ofInt_mul a b).symm
theorem J_neg (a : Int) : -J a = J (-a) := (Int64.ofInt_neg a).symm
theorem I_nat (n : Nat) : nI n = I n := by
  unfold I
  exact (Int32.ofInt_eq_ofNat).symm
theorem I_lt {a b : Int} (ha : -2147483648 ≤ a) (ha' : a < 2147483648) (hb : -2147483648 ≤ b) (hb' : b < 2147483648) : I a < I b ↔ a < b := by
  rw [Int32.lt_iff_toInt_lt, IT ha ha', IT hb hb']
theorem I_le {a b : Int} (ha : -2147483648 ≤ a) (ha' : a < 2147483648) (hb : -2147483648 ≤ b) (hb' : b < 2147483648) : I a ≤ I b ↔ a ≤ b := by
  rw [Int32.le_iff_toInt_le, IT ha ha', IT hb hb']
theorem I_eq {a b : Int} (ha : -2147483648 ≤ a) (ha' : a < 2147483648) (hb : -2147483648 ≤ b) (hb' : b < 2147483648) : I a = I b ↔ a = b := by
  rw [← Int32.toInt_inj, IT ha ha', IT hb hb']
theorem J_lt {a b : Int} (ha : -9223372036854775808 ≤ a) (ha' : a < 9223372036854775808) (hb : -9223372036854775808 ≤ b) (hb' : b < 9223372036854775808) : J a < J b ↔ a < b := by
  rw [Int64.lt_iff_toInt_lt, JT ha ha', JT hb hb']
theorem J_le {a b : Int} (ha : -9223372036854775808 ≤ a) (ha' : a < 9223372036854775808) (hb : -9223372036854775808 ≤ b) (hb' : b < 9223372036854775808) : J a ≤ J b ↔ a ≤ b := by
  rw [Int64.le_iff_toInt_le, JT ha ha', JT hb hb']
theorem J_eq {a b : Int} (ha : -9223372036854775808 ≤ a) (ha' : a < 9223372036854775808) (hb : -9223372036854775808 ≤ b) (hb' : b < 9223372036854775808) : J a = J b ↔ a = b := by
  rw [← Int64.toInt_inj, JT ha ha', JT hb hb']
theorem I_cl {z : Int} (h1 : -2147483648 ≤ z) (h2 : z < 2147483648) : (I z).toNatClampNeg = z.toNat := by
  show (I z).toInt.toNat = _
  rw [IT h1 h2]
theorem IJ {z : Int} (h1 : -2147483648 ≤ z) (h2 : z < 2147483648) : (I z).toInt64 = J z := by
  apply Int64.toInt_inj.mp
  rw [Int32.toInt_toInt64, IT h1 h2, JT (by omega) (by omega)]
theorem JI (z : Int) : (J z).toInt32 = I z := by
  unfold J I
  exact Int64.toInt32_ofInt
/-- the literals -/
theorem L0 : (0 : Int32) = I 0 := by decide +kernel
theorem L1 : (1 : Int32) = I 1 := by decide +kernel
theorem L2 : (2 : Int32) = I 2 := by decide +kernel
theorem L3 : (3 : Int32) = I 3 := by decide +kernel
theorem L4 : (4 : Int32) = I 4 := by decide +kernel
theorem L5 : (5 : Int32) = I 5 := by decide +kernel
theorem L6 : (6 : Int32) = I 6 := by decide +kernel
theorem L7 : (7 : Int32) = I 7 := by decide +kernel
theorem L10 : (10 : Int32) = I 10 := by decide +kernel
theorem L11 : (11 : Int32) = I 11 := by decide +kernel
theorem L12 : (12 : Int32) = I 12 := by decide +kernel
theorem L13 : (13 : Int32) = I 13 := by decide +kernel
theorem L20 : (20 : Int32) = I 20 := by decide +kernel
theorem L24 : (24 : Int32) = I 24 := by decide +kernel
theorem L40 : (40 : Int32) = I 40 := by decide +kernel
theorem L80 : (80 : Int32) = I 80 := by decide +kernel
theorem L99 : (99 : Int32) = I 99 := by decide +kernel
theorem L100 : (100 : Int32) = I 100 := by decide +kernel
theorem L200 : (200 : Int32) = I 200 := by decide +kernel
theorem L1005 : (1005 : Int32) = I 1005 := by decide +kernel
theorem L1024 : (1024 : Int32) = I 1024 := by decide +kernel
theorem M0 : (0 : Int64) = J 0 := by decide +kernel
theorem M1 : (1 : Int64) = J 1 := by decide +kernel
theorem M2 : (2 : Int64) = J 2 := by decide +kernel
theorem M3 : (3 : Int64) = J 3 := by decide +kernel
theorem M4 : (4 : Int64) = J 4 := by decide +kernel
theorem M5 : (5 : Int64) = J 5 := by decide +kernel
theorem M6 : (6 : Int64) = J 6 := by decide +kernel
theorem M7 : (7 : Int64) = J 7 := by decide +kernel
theorem M20 : (20 : Int64) = J 20 := by decide +kernel
theorem M99 : (99 : Int64) = J 99 := by decide +kernel
/-- a condition as a number -/
def bI (c : Prop) [Decidable c] : Int32 := if c then I 1 else I 0
theorem b0 {c : Prop} [Decidable c] : (if c then I 1 else I 0) = I 0 ↔ ¬ c := by
  by_cases h : c
  · rw [if_pos h]; exact ⟨fun q => absurd q (by decide +kernel), fun q => absurd h q⟩
  · rw [if_neg h]; exact ⟨fun _ => h, fun _ => rfl⟩
theorem b1 {c : Prop} [Decidable c] : (if c then I 1 else I 0) = I 1 ↔ c := by
  by_cases h : c
  · rw [if_pos h]; exact ⟨fun _ => h, fun _ => rfl⟩
  · rw [if_neg h]; exact ⟨fun q => absurd q (by decide +kernel), fun q => absurd q h⟩
theorem b01 {c : Prop} [Decidable c] : ((if c then I 1 else I 0) = I 0 ∨ (if c then I 1 else I 0) = I 1) := by
  by_cases h : c
  · rw [if_pos h]; exact Or.inr rfl
  · rw [if_neg h]; exact Or.inl rfl
theorem inI (a b c : Int64) : fX9_in a b c = some (if b ≤ a ∧ a ≤ c then I 1 else I 0) := by
  rw [← L0, ← L1]
  unfold fX9_in lg_cmp
  grind
/-- shifts -/
theorem shk : ∀ k : Nat, k < 32 → ((I k &&& 31).toBitVec.smod 32).toNat = k := by decide +kernel
theorem I_shr (z : Int) (k : Nat) (hk : k < 32) (h1 : -2147483648 ≤ z) (h2 : z < 2147483648) : I z >>> (I k &&& 31) = I (z / (2 ^ k : Nat)) := by
  have e := pk_shr (I z) (I k &&& 31) k (shk k hk)
  rw [IT h1 h2, Int.shiftRight_eq_div_pow] at e
  rw [← Iof (I z >>> (I k &&& 31)), e]
theorem I_shl (z : Int) (k : Nat) (hk : k < 32) : I z <<< (I k &&& 31) = I (z * (2 ^ k : Nat)) := by
  rw [← I_mul]
  apply Int32.toBitVec_inj.mp
  apply BitVec.eq_of_toNat_eq
  rw [pk_shl (I z) (I k &&& 31) k (shk k hk), Int32.toBitVec_mul, BitVec.toNat_mul]
  congr 1
  congr 1
  unfold I
  rw [Int32.toBitVec_ofInt, BitVec.ofInt_natCast, BitVec.toNat_ofNat]
  exact (Nat.mod_eq_of_lt (Nat.pow_lt_pow_right (by decide) hk)).symm
/-- 2 to the s, for the s there are -/
def pw (s : Int) : Int := ((2 ^ s.toNat : Nat) : Int)
theorem pw_cs {s : Int} (h0 : 0 ≤ s) (h6 : s ≤ 6) : (s = 0 ∧ pw s = 1) ∨ (s = 1 ∧ pw s = 2) ∨ (s = 2 ∧ pw s = 4) ∨ (s = 3 ∧ pw s = 8) ∨ (s = 4 ∧ pw s = 16) ∨ (s = 5 ∧ pw s = 32) ∨ (s = 6 ∧ pw s = 64) := by
  have h : s = 0 ∨ s = 1 ∨ s = 2 ∨ s = 3 ∨ s = 4 ∨ s = 5 ∨ s = 6 := by omega
  rcases h with h | h | h | h | h | h | h <;> subst h <;> decide
theorem pw_shl (z s : Int) (h0 : 0 ≤ s) (h6 : s < 32) : I z <<< (I s &&& 31) = I (z * pw s) := by
  have h := I_shl z s.toNat (by omega)
  rwa [Int.toNat_of_nonneg h0] at h
theorem pw_shr (z s : Int) (h0 : 0 ≤ s) (h6 : s < 32) (h1 : -2147483648 ≤ z) (h2 : z < 2147483648) : I z >>> (I s &&& 31) = I (z / pw s) := by
  have h := I_shr z s.toNat (by omega) h1 h2
  rwa [Int.toNat_of_nonneg h0] at h
theorem I_div {a b : Int} (h1 : -2147483648 ≤ a) (h2 : a < 2147483648) (h3 : -2147483648 ≤ b) (h4 : b < 2147483648) (hn : b ≠ -1) : I a / I b = I (a.tdiv b) := by
  apply Int32.toInt_inj.mp
  rw [Int32.toInt_div, IT h1 h2, IT h3 h4]
  rw [I, Int32.toInt_ofInt]
theorem I_and1 (z : Int) : I z &&& I 1 = I (z % 2) := by
  have h := pk_and (I z) (m := I 1) 1 (by decide +kernel)
  rw [h, I_nat]
  congr 1
  unfold I
  rw [Int32.toBitVec_ofInt, BitVec.toNat_ofInt]
  omega
theorem I_andm (z : Int) (k : Nat) (hk : k < 31) : I z &&& I ((2 ^ k : Nat) - 1) = I (z % (2 ^ k : Nat)) := by
  have hp : 0 < 2 ^ k := Nat.pow_pos (by decide)
  have hq : 2 ^ k ≤ 2 ^ 30 := Nat.pow_le_pow_right (by decide) (by omega)
  have e : I (((2 ^ k : Nat) : Int) - 1) = nI (2 ^ k - 1) := by
    rw [I_nat]
    congr 1
    omega
  have h := pk_and (I z) (m := I ((2 ^ k : Nat) - 1)) k (by
    rw [e]
    show (2 ^ k - 1) % 2 ^ 32 = _
    omega)
  rw [h, I_nat]
  congr 1
  unfold I
  rw [Int32.toBitVec_ofInt, BitVec.toNat_ofInt]
  have hd : (2 ^ k : Nat) ∣ 2 ^ 32 := Nat.pow_dvd_pow 2 (by omega)
  have hd' : ((2 ^ k : Nat) : Int) ∣ ((2 ^ 32 : Nat) : Int) := Int.natCast_dvd_natCast.mpr hd
  rw [Int.natCast_emod, Int.toNat_of_nonneg (Int.emod_nonneg _ (by decide)), Int.emod_emod_of_dvd _ hd']
theorem I_xsg {a b : Int} (h1 : -2147483648 ≤ a) (h2 : a < 2147483648) (h3 : 0 ≤ b) (h4 : b < 2147483648) : I 0 ≤ I a ^^^ I b ↔ 0 ≤ a := by
  have ha : (I a).toBitVec.msb = decide (a < 0) := by
    rw [BitVec.msb_eq_toInt]
    show decide ((I a).toInt < 0) = _
    rw [IT h1 h2]
  have hb : (I b).toBitVec.msb = false := by
    rw [BitVec.msb_eq_toInt]
    show decide ((I b).toInt < 0) = _
    rw [IT (by omega) h4]
    simp only [decide_eq_false_iff_not]
    omega
  have hx : (I a ^^^ I b).toBitVec.msb = decide (a < 0) := by
    rw [Int32.toBitVec_xor, BitVec.msb_xor, ha, hb, Bool.xor_false]
  rw [BitVec.msb_eq_toInt] at hx
  have hy : decide ((I a ^^^ I b).toInt < 0) = decide (a < 0) := hx
  rw [decide_eq_decide] at hy
  rw [Int32.le_iff_toInt_le, IT (by decide) (by decide)]
  omega
theorem I_tdiv {a P : Int} (hP : 0 < P) : a.tdiv P = if 0 ≤ a ∨ a % P = 0 then a / P else a / P + 1 := by
  rw [Int.tdiv_eq_ediv]
  have hs : P.sign = 1 := Int.sign_eq_one_of_pos hP
  have hd : P ∣ a ↔ a % P = 0 := Int.dvd_iff_emod_eq_zero
  rw [hs]
  by_cases h : 0 ≤ a ∨ a % P = 0
  · rw [if_pos h, if_pos (h.imp id hd.mpr)]; omega
  · rw [if_neg h, if_neg (fun q => h (q.imp id hd.mp))]
