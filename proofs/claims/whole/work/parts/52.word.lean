theorem in3 {x : Int32} (h0 : 0 ≤ x.toInt) {n : Nat} (h : x.toInt < n) : ¬ (x < 0 ∨ n ≤ x.toNatClampNeg) := by
  intro q
  rcases q with q | q
  · have := (i_lt n32_0).mp q
    omega
  · have hq : n ≤ x.toInt.toNat := q
    omega
theorem clamp_lt {x : Int32} (h0 : 0 ≤ x.toInt) {n : Nat} (h : x.toInt < n) : x.toNatClampNeg < n := by
  show x.toInt.toNat < n
  omega
theorem p_cause (x hc1 hc2 : Int32) (c1 c2 : Nat → Int32) (he : hc2 = hc1) (h : hc1 ≠ 0 → ∀ j, j < 3 → c2 j = c1 j) : ∃ r, fX8_cause x hc1 c1 = some r ∧ fX9_cause x hc2 c2 = some r := by
  subst he
  unfold fX8_cause fX9_cause
  rw [in9, Int32.toInt_toInt64, l64_0, l64_2, bnd1_some]
  by_cases g1 : x < 0
  · have g1' := (i_lt n32_0).mp g1
    rw [if_pos g1, if_neg (c := _ ∧ _) (by omega), if_pos rfl]
    exact ⟨_, rfl, rfl⟩
  · have g1' : ¬ x.toInt < 0 := fun q => g1 ((i_lt n32_0).mpr q)
    rw [if_neg g1]
    by_cases g3 : x < (3:Int32)
    · have g3' := (i_lt n32_3).mp g3
      rw [if_pos g3, if_pos (c := _ ∧ _) (by omega), if_neg (c := (1 : Int32) = 0) (by decide)]
      by_cases e : hc2 = 0
      · rw [if_pos e, if_pos e]
        exact ⟨_, rfl, rfl⟩
      · rw [if_neg e, if_neg e, if_neg (in3 (by omega) (n := 3) (by omega)), if_neg (in3 (by omega) (n := 3) (by omega))]
        exact ⟨_, rfl, by rw [h e _ (clamp_lt (by omega) (by omega))]⟩
    · have g3' : ¬ x.toInt < 3 := fun q => g3 ((i_lt n32_3).mpr q)
      rw [if_neg g3, if_neg (c := _ ∧ _) (by omega), if_pos rfl]
      exact ⟨_, rfl, rfl⟩
/-- the filter of the one and of the other: the ten numbers, then the three words -/
def Sm (num words g : Nat → Int32) : Prop := (∀ j, j < 10 → g j = num j) ∧ ∀ j, j < 3 → g (10 + j) = words j
def Rg (num : Nat → Int32) : Prop := 1 ≤ (num 0).toInt ∧ (num 0).toInt ≤ 3
theorem n32_10 : (10 : Int32).toInt = 10 := by decide +kernel
theorem wordNo (x : Int32) (num : Nat → Int32) (hr : (num 0).toInt ≤ 3) : fX8_isWordNumber x num = some (if 1 ≤ x.toInt ∧ x.toInt ≤ (num 0).toInt then (1 : Int32) else 0) := by
  unfold fX8_isWordNumber
  by_cases g1 : x < 1
  · have g1' := (i_lt n32_1).mp g1
    rw [if_pos g1, if_neg (by omega)]
  · have g1' : ¬ x.toInt < 1 := fun q => g1 ((i_lt n32_1).mpr q)
    rw [if_neg g1]
    by_cases g3 : (3 : Int32) < x
    · have g3' := (i_gt n32_3).mp g3
      rw [if_pos g3, if_neg (by omega)]
    rw [if_neg g3]
    by_cases g2 : num 0 < x
    · have g2' := Int32.lt_iff_toInt_lt.mp g2
      rw [if_pos g2, if_neg (by omega)]
    · have g2' : ¬ (num 0).toInt < x.toInt := fun q => g2 (Int32.lt_iff_toInt_lt.mpr q)
      rw [if_neg g2, if_pos (by omega)]
theorem p_word (x : Int32) (num words g : Nat → Int32) (h : Sm num words g) (hr : Rg num) : ∃ r, fX8_word x num words = some r ∧ fX9_word x g = some r := by
  unfold fX8_word fX9_word
  rw [wordNo x num hr.2, in9, Int32.toInt_toInt64, Int32.toInt_toInt64, l64_1, h.1 0 (by omega), bnd1_some, bnd1_some]
  by_cases g1 : 1 ≤ x.toInt ∧ x.toInt ≤ (num 0).toInt
  · have hr2 := hr.2
    have ha : (x - 1).toInt = x.toInt - 1 := by rw [sub_toInt (by rw [n32_1]; omega), n32_1]
    have hb : ((10 : Int32) + x).toInt = 10 + x.toInt := by rw [add_toInt (by rw [n32_10]; omega), n32_10]
    have hc : ((10 : Int32) + x - 1).toInt = 10 + x.toInt - 1 := by rw [sub_toInt (by rw [hb, n32_1]; omega), hb, n32_1]
    have hd : ((10 : Int32) + x - 1).toNatClampNeg = 10 + (x - 1).toNatClampNeg := by
      show ((10 : Int32) + x - 1).toInt.toNat = 10 + (x - 1).toInt.toNat
      omega
    rw [if_pos g1, if_neg (c := (1 : Int32) = 0) (by decide), if_neg (c := (1 : Int32) = 0) (by decide), if_neg (in3 (by omega) (n := 3) (by omega)), if_neg (in3 (by omega) (n := 13) (by omega))]
    exact ⟨_, rfl, by rw [hd, h.2 _ (clamp_lt (by omega) (by omega))]⟩
  · rw [if_neg g1, if_pos rfl]
    exact ⟨_, rfl, rfl⟩
