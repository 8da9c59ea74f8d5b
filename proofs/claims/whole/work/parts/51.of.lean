def isN (x0 x1 : Int32) : Prop := 0 ≤ x0.toInt ∧ x0.toInt ≤ 7 ∧ (x0 = 2 → 1 ≤ x1.toInt ∧ x1.toInt ≤ 3)
theorem l64_1 : (1 : Int64).toInt = 1 := by decide +kernel
theorem l64_3 : (3 : Int64).toInt = 3 := by decide +kernel
theorem i_lt {x y : Int32} {k : Int} (hk : y.toInt = k) : (x < y ↔ x.toInt < k) := by rw [Int32.lt_iff_toInt_lt, hk]
theorem i_gt {x y : Int32} {k : Int} (hk : y.toInt = k) : (y < x ↔ k < x.toInt) := by rw [Int32.lt_iff_toInt_lt, hk]
theorem i_le {x y : Int32} {k : Int} (hk : y.toInt = k) : (x ≤ y ↔ x.toInt ≤ k) := by rw [Int32.le_iff_toInt_le, hk]
theorem i_ge {x y : Int32} {k : Int} (hk : y.toInt = k) : (y ≤ x ↔ k ≤ x.toInt) := by rw [Int32.le_iff_toInt_le, hk]
theorem n32_0 : (0 : Int32).toInt = 0 := by decide +kernel
theorem n32_1 : (1 : Int32).toInt = 1 := by decide +kernel
theorem n32_2 : (2 : Int32).toInt = 2 := by decide +kernel
theorem n32_3 : (3 : Int32).toInt = 3 := by decide +kernel
theorem n32_7 : (7 : Int32).toInt = 7 := by decide +kernel
theorem e_lit {x : Int32} {y : Int32} {k : Int} (hk : y.toInt = k) : (x = y ↔ x.toInt = k) := by rw [← Int32.toInt_inj, hk]
theorem add_toInt {a b : Int32} (h : -2147483648 ≤ a.toInt + b.toInt ∧ a.toInt + b.toInt < 2147483648) : (a + b).toInt = a.toInt + b.toInt := by
  rw [Int32.toInt_add, Int.bmod_def]
  split <;> omega
theorem sub_toInt {a b : Int32} (h : -2147483648 ≤ a.toInt - b.toInt ∧ a.toInt - b.toInt < 2147483648) : (a - b).toInt = a.toInt - b.toInt := by
  rw [Int32.toInt_sub, Int.bmod_def]
  split <;> omega
theorem place9 (x0 x1 : Int32) : ∃ p, fX9_placeOf x0 x1 = some p ∧ (isN x0 x1 → 0 ≤ p.toInt ∧ p.toInt < 10 ∧ fX8_slotOf x0 x1 = some p) := by
  unfold fX9_placeOf fX8_slotOf
  by_cases h2 : (2 : Int32) ≤ x0
  · rw [if_pos h2]
    have h2' := (i_ge n32_2).mp h2
    by_cases e2 : x0 = 2
    · rw [if_pos e2]
      refine ⟨_, rfl, fun hN => ?_⟩
      have hq := hN.2.2 e2
      have hx0 : x0.toInt = 2 := by rw [e2, n32_2]
      have ha : ((2 : Int32) + x1).toInt = 2 + x1.toInt := by rw [add_toInt (by rw [n32_2]; omega), n32_2]
      have hb : ((2 : Int32) + x1 - 1).toInt = 2 + x1.toInt - 1 := by rw [sub_toInt (by rw [ha, n32_1]; omega), ha, n32_1]
      refine ⟨by omega, by omega, ?_⟩
      rw [if_neg (fun q => by have := (i_lt n32_0).mp q; omega), if_pos ((i_le n32_7).mpr (by omega)), if_pos e2, if_neg (fun q => by have := (i_lt n32_1).mp q; omega), if_neg (fun q => by have := (i_gt n32_3).mp q; omega)]
    · rw [if_neg e2]
      refine ⟨_, rfl, fun hN => ?_⟩
      have hq := hN.2.1
      have ha : (x0 + (2 : Int32)).toInt = x0.toInt + 2 := by rw [add_toInt (by rw [n32_2]; omega), n32_2]
      refine ⟨by omega, by omega, ?_⟩
      rw [if_neg (fun q => by have := (i_lt n32_0).mp q; omega), if_pos ((i_le n32_7).mpr (by omega)), if_neg e2, if_pos h2]
  · rw [if_neg h2]
    have h2' : ¬ 2 ≤ x0.toInt := fun q => h2 ((i_ge n32_2).mpr q)
    refine ⟨_, rfl, fun hN => ?_⟩
    have hq := hN.1
    have e2 : x0 ≠ 2 := fun q => by rw [q, n32_2] at h2'; omega
    refine ⟨by omega, by omega, ?_⟩
    rw [if_neg (fun q => by have := (i_lt n32_0).mp q; omega), if_pos ((i_le n32_7).mpr (by omega)), if_neg e2, if_neg h2]
theorem isN9 (x0 x1 : Int32) : (isN x0 x1 ∧ fX9_isNumber x0 x1 = some 1) ∨ (¬ isN x0 x1 ∧ fX9_isNumber x0 x1 = some 0 ∧ fX8_slotOf x0 x1 = some (-1)) := by
  unfold fX9_isNumber fX8_slotOf
  rw [in9, Int32.toInt_toInt64, l64_0, l64_7, bnd1_some, in9, Int32.toInt_toInt64, l64_1, l64_3]
  by_cases h1 : 0 ≤ x0.toInt ∧ x0.toInt ≤ 7
  · rw [if_pos h1, if_neg (by decide), if_neg (c := x0 < 0) (fun q => by have := (i_lt n32_0).mp q; omega), if_pos (c := x0 ≤ 7) ((i_le n32_7).mpr (by omega))]
    by_cases e2 : x0 = 2
    · rw [if_pos e2, if_pos e2]
      by_cases h3 : 1 ≤ x1.toInt ∧ x1.toInt ≤ 3
      · rw [if_pos h3]
        exact Or.inl ⟨⟨h1.1, h1.2, fun _ => h3⟩, rfl⟩
      · refine Or.inr ⟨fun q => h3 (q.2.2 e2), by rw [if_neg h3]; rfl, ?_⟩
        by_cases h4 : x1 < 1
        · rw [if_pos h4]
        · have h4' : ¬ x1.toInt < 1 := fun q => h4 ((i_lt n32_1).mpr q)
          rw [if_neg h4, if_pos ((i_gt n32_3).mpr (by omega))]
    · rw [if_neg e2]
      exact Or.inl ⟨⟨h1.1, h1.2, fun q => absurd q e2⟩, rfl⟩
  · refine Or.inr ⟨fun q => h1 ⟨q.1, q.2.1⟩, by rw [if_neg h1]; rfl, ?_⟩
    by_cases g1 : x0 < 0
    · rw [if_pos g1]
    · have g1' : ¬ x0.toInt < 0 := fun q => g1 ((i_lt n32_0).mpr q)
      rw [if_neg g1, if_neg (fun q => by have := (i_le n32_7).mp q; omega)]
theorem p_of (x1 x2 : Int32) (num g : Nat → Int32) (h : ∀ j, j < 10 → g j = num j) : ∃ r, fX8_of x1 x2 num = some r ∧ fX9_of x1 x2 g = some r := by
  unfold fX8_of fX9_of
  obtain ⟨p, hp, hq⟩ := place9 x1 x2
  rcases isN9 x1 x2 with ⟨hN, e9⟩ | ⟨hN, e9, e8⟩
  · obtain ⟨p0, p1, e8⟩ := hq hN
    have hc : p.toNatClampNeg < 10 := by
      show p.toInt.toNat < 10
      omega
    rw [e8, e9, bnd1_some, bnd1_some, hp, bnd1_some, if_neg (fun q => by have := (i_lt n32_0).mp q; omega), if_pos ((i_lt (k := 10) (by decide +kernel)).mpr p1), if_neg (c := (1 : Int32) = 0) (by decide)]
    have hb : ∀ n, 10 ≤ n → ¬ (p < 0 ∨ n ≤ p.toNatClampNeg) := fun n hn q => by
      rcases q with q | q
      · have := (i_lt n32_0).mp q
        omega
      · omega
    rw [if_neg (hb 10 (by omega)), if_neg (hb 13 (by omega))]
    exact ⟨_, rfl, by rw [h _ hc]⟩
  · rw [e8, e9, bnd1_some, bnd1_some, if_pos (by decide), if_pos rfl]
    exact ⟨_, rfl, rfl⟩
