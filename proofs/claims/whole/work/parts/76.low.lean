/-! lowest terms: halving against the greatest common divisor -/
theorem lgc0 (a b : Int64) : lg_cmp a b = 0 ↔ a = b := by
  unfold lg_cmp
  grind
theorem lgcl (a b : Int64) : lg_cmp a b ≤ 0 ↔ a ≤ b := by
  unfold lg_cmp
  grind
theorem J_div {a b : Int} (h1 : -9223372036854775808 ≤ a) (h2 : a < 9223372036854775808) (h3 : -9223372036854775808 ≤ b) (h4 : b < 9223372036854775808) : J a / J b = J (a.tdiv b) := by
  apply Int64.toInt_inj.mp
  rw [Int64.toInt_div, JT h1 h2, JT h3 h4]
  rw [J, Int64.toInt_ofInt]
theorem J_and1 (z : Int) : J z &&& J 1 = J (z % 2) := by
  apply Int64.toBitVec_inj.mp
  apply BitVec.eq_of_toNat_eq
  unfold J
  rw [Int64.toBitVec_and, BitVec.toNat_and, Int64.toBitVec_ofInt, Int64.toBitVec_ofInt, Int64.toBitVec_ofInt, BitVec.toNat_ofInt, BitVec.toNat_ofInt, BitVec.toNat_ofInt]
  rw [show ((1 : Int) % ((2 ^ 64 : Nat) : Int)).toNat = 1 by decide, Nat.and_one_is_mod]
  omega
/-- halved as long as it goes -/
def lw (a : Int) : Nat → Int × Int
  | 0 => (a, 1)
  | m + 1 => if a % 2 = 0 then lw (a / 2) m else (a, ((2 ^ (m + 1) : Nat) : Int))
theorem lw_gcd : ∀ (m : Nat) (a : Int), ∃ g : Nat, 0 < g ∧ a = (lw a m).1 * g ∧ ((2 ^ m : Nat) : Int) = (lw a m).2 * g ∧ Nat.gcd a.natAbs (2 ^ m) = g
  | 0, a => ⟨1, by omega, by unfold lw; omega, by show (1 : Int) = 1 * 1; decide, by rw [Nat.pow_zero, Nat.gcd_one_right]⟩
  | m + 1, a => by
    unfold lw
    by_cases c : a % 2 = 0
    · rw [if_pos c]
      obtain ⟨g, h1, h2, h3, h4⟩ := lw_gcd m (a / 2)
      refine ⟨2 * g, by omega, ?_, ?_, ?_⟩
      · have e : a = 2 * (a / 2) := by omega
        have : (lw (a / 2) m).1 * ((2 * g : Nat) : Int) = 2 * ((lw (a / 2) m).1 * (g : Int)) := by
          rw [Int.natCast_mul]
          grind
        omega
      · have : (lw (a / 2) m).2 * ((2 * g : Nat) : Int) = 2 * ((lw (a / 2) m).2 * (g : Int)) := by
          rw [Int.natCast_mul]
          grind
        rw [this, ← h3, Nat.pow_succ, Int.natCast_mul]
        omega
      · have e : a.natAbs = 2 * (a / 2).natAbs := by omega
        rw [e, Nat.pow_succ, Nat.mul_comm (2 ^ m) 2, Nat.gcd_mul_left, h4]
    · rw [if_neg c]
      refine ⟨1, by omega, by omega, by omega, ?_⟩
      have hc : Nat.Coprime a.natAbs 2 := by
        show Nat.gcd a.natAbs 2 = 1
        rw [Nat.gcd_comm, Nat.gcd_rec, show a.natAbs % 2 = 1 by omega, Nat.gcd_one_left]
      exact Nat.Coprime.pow_right (m + 1) hc
theorem lw_b : ∀ (m : Nat) (a : Int) (K : Int), -K ≤ a → a ≤ K → 0 ≤ K → -K ≤ (lw a m).1 ∧ (lw a m).1 ≤ K
  | 0, a, K, h1, h2, h3 => ⟨h1, h2⟩
  | m + 1, a, K, h1, h2, h3 => by
    unfold lw
    by_cases c : a % 2 = 0
    · rw [if_pos c]
      exact lw_b m _ K (by omega) (by omega) h3
    · rw [if_neg c]
      exact ⟨h1, h2⟩
theorem low8L (x0 x1 : Int64) (x2 : Int32) : ∀ (m : Nat) (a : Int) (i f : Nat), -4611686018427387904 ≤ a → a ≤ 4611686018427387904 → m ≤ 30 → i + m ≤ 31 → fX8_inLowestTerms_L3 x0 x1 x2 (f + m + 1) (J a) (J (2 ^ m : Nat)) (I i) = some (J (lw a m).1, J (lw a m).2)
  | 0, a, i, f, h1, h2, h3, h4 => by
    rw [fX8_inLowestTerms_L3]
    by_cases c : (62 : Int32) ≤ I i
    · rw [if_pos c]; rfl
    · rw [if_neg c, if_pos ((lgcl _ _).mpr (by decide +kernel))]; rfl
  | m + 1, a, i, f, h1, h2, h3, h4 => by
    have hp : 2 ^ (m + 1) ≤ 2 ^ 30 := Nat.pow_le_pow_right (by decide) h3
    have hp1 : 2 ^ (m + 1) = 2 * 2 ^ m := by rw [Nat.pow_succ]; omega
    have hp0 : 0 < 2 ^ m := Nat.pow_pos (by decide)
    have e62 : (62 : Int32) = I 62 := by decide +kernel
    rw [show f + (m + 1) + 1 = (f + m + 1) + 1 by omega, fX8_inLowestTerms_L3, e62, if_neg (by rw [I_le (by omega) (by omega) (by omega) (by omega)]; omega), if_neg (by rw [lgcl, M1, J_le (by omega) (by omega) (by omega) (by omega)]; omega), M0, M1, M2, J_and1, if_neg (c := J 2 = J 0) (by decide +kernel), J_div (by omega) (by omega) (by omega) (by omega), J_div (by omega) (by omega) (by omega) (by omega), L1, I_add, if_neg (c := J 2 = J 0) (by decide +kernel)]
    unfold lw
    by_cases c : a % 2 = 0
    · rw [if_pos (by rw [lgc0, c]), if_pos c]
      have e1 : a.tdiv 2 = a / 2 := by rw [I_tdiv (by omega), if_pos (Or.inr c)]
      have e2 : ((2 ^ (m + 1) : Nat) : Int).tdiv 2 = ((2 ^ m : Nat) : Int) := by rw [I_tdiv (by omega), if_pos (by omega)]; omega
      rw [e1, e2]
      exact low8L x0 x1 x2 m (a / 2) (i + 1) f (by omega) (by omega) (by omega) (by omega)
    · rw [if_neg (by rw [lgc0, J_eq (by omega) (by omega) (by omega) (by omega)]; exact c), if_neg c]
theorem gcdL (x0 x1 : Int64) : ∀ (y x f : Nat), y < 9223372036854775808 → x < 9223372036854775808 → fX9_common_L12 x0 x1 (f + y + 1) (J x) (J y) = some (J (Nat.gcd x y)) := by
  intro y
  induction y using Nat.strongRecOn with
  | ind y ih =>
    intro x f hy hx
    rw [fX9_common_L12]
    by_cases c : y = 0
    · subst c
      rw [if_pos (c := lg_cmp (J ((0 : Nat) : Int)) 0 = 0) ((lgc0 _ _).mpr (by decide +kernel)), Nat.gcd_zero_right]
    · have hd := Nat.div_add_mod x y
      have hm := Nat.mod_lt x (show 0 < y by omega)
      have hdl := Nat.div_le_self x y
      rw [if_neg (by rw [lgc0, M0, J_eq (by omega) (by omega) (by omega) (by omega)]; omega), if_neg (by rw [M0, J_eq (by omega) (by omega) (by omega) (by omega)]; omega), J_div (by omega) (by omega) (by omega) (by omega), J_mul, J_sub]
      have e : (x : Int) - (x : Int).tdiv (y : Int) * (y : Int) = ((x % y : Nat) : Int) := by
        rw [I_tdiv (by omega), if_pos (Or.inl (by omega))]
        have e0 : (x : Int) / (y : Int) = ((x / y : Nat) : Int) := rfl
        have : ((x / y : Nat) : Int) * (y : Int) = ((y * (x / y) : Nat) : Int) := by rw [Int.natCast_mul, Int.mul_comm]
        rw [e0]
        omega
      rw [e, show f + y = (f + (y - x % y - 1)) + x % y + 1 by omega, ih (x % y) hm y _ (by omega) hy]
      congr 2
      rw [Nat.gcd_comm y, ← Nat.gcd_rec, Nat.gcd_comm]
theorem low {a : Int} {m : Nat} (h1 : -4611686018427387904 ≤ a) (h2 : a ≤ 4611686018427387904) (h3 : m ≤ 16) (part : Int32) : fX8_inLowestTerms (J a) (J (2 ^ m : Nat)) part = some (if part = 0 then J (lw a m).1 else J (lw a m).2) ∧ fX9_lowest (J a) (J (2 ^ m : Nat)) part = some (if part = 0 then J (lw a m).1 else J (lw a m).2) := by
  have hp : 2 ^ m ≤ 2 ^ 16 := Nat.pow_le_pow_right (by decide) h3
  have hp0 : 0 < 2 ^ m := Nat.pow_pos (by decide)
  constructor
  · unfold fX8_inLowestTerms
    have e : fX8_inLowestTerms_L3 (J a) (J (2 ^ m : Nat)) part FUEL (J a) (J (2 ^ m : Nat)) (0 : Int32) = some (J (lw a m).1, J (lw a m).2) := by
      have hl := low8L (J a) (J (2 ^ m : Nat)) part m a 0 (99999 - m) h1 h2 (by omega) (by omega)
      rw [show 99999 - m + m + 1 = FUEL by show _ = 100000; omega] at hl
      rw [L0]
      exact hl
    rw [e, bnd2_some]
    split <;> rfl
  · obtain ⟨g, g0, g1, g2, g3⟩ := lw_gcd m a
    have hc : fX9_common (J a) (J (2 ^ m : Nat)) = some (J g) := by
      unfold fX9_common
      have ea : (if (0 : Int64) < J a then J a else -J a) = J a.natAbs := by
        by_cases c : 0 < a
        · rw [M0, if_pos ((J_lt (by omega) (by omega) (by omega) (by omega)).mpr c)]
          congr 1; omega
        · rw [M0, if_neg (fun q => c ((J_lt (by omega) (by omega) (by omega) (by omega)).mp q)), J_neg]
          congr 1; omega
      have eb : (if (0 : Int64) < J (2 ^ m : Nat) then J (2 ^ m : Nat) else -J (2 ^ m : Nat)) = J (2 ^ m : Nat) := by
        rw [M0, if_pos ((J_lt (by omega) (by omega) (by omega) (by omega)).mpr (by omega))]
      have hl := gcdL (J a) (J (2 ^ m : Nat)) (2 ^ m) a.natAbs (99999 - 2 ^ m) (by omega) (by omega)
      rw [show 99999 - 2 ^ m + 2 ^ m + 1 = FUEL by show _ = 100000; omega] at hl
      rw [ea, eb, hl, bnd1_some, g3]
    have gb : g ≤ 2 ^ m := by
      rw [← g3]
      exact Nat.gcd_le_right _ hp0
    have lb := lw_b m a 4611686018427387904 h1 h2 (by omega)
    unfold fX9_lowest
    have gn : ¬ (J g = 0) := by rw [M0, J_eq (by omega) (by omega) (by omega) (by omega)]; omega
    rw [hc, bnd1_some, bnd1_some]
    simp only [if_neg gn]
    rw [J_div (by omega) (by omega) (by omega) (by omega), J_div (by omega) (by omega) (by omega) (by omega)]
    have e1 : a.tdiv g = (lw a m).1 := by
      conv => lhs; rw [g1]
      exact Int.mul_tdiv_cancel _ (by omega)
    have e2 : ((2 ^ m : Nat) : Int).tdiv g = (lw a m).2 := by
      rw [g2]
      exact Int.mul_tdiv_cancel _ (by omega)
    rw [e1, e2]
    split <;> rfl
