theorem upd_at (f : Nat → Int32) (i : Nat) (v : Int32) (j : Nat) : upd f i v j = if j = i then v else f j := rfl
theorem half_all : ∀ a ∈ ([1, 2, 3, 4, 5, 6, 7, 8, 9, 10] : List Int32), 1 ≤ ((1 : Int32) <<< ((a - 1) &&& 31)).toInt ∧ ((1 : Int32) <<< ((a - 1) &&& 31)).toInt ≤ 512 := by decide +kernel
theorem mem10 {x : Int32} (h : 1 ≤ x.toInt ∧ x.toInt ≤ 10) : x ∈ ([1, 2, 3, 4, 5, 6, 7, 8, 9, 10] : List Int32) := by
  have key : ∀ z : Int, 1 ≤ z → z ≤ 10 → Int32.ofInt z ∈ ([1, 2, 3, 4, 5, 6, 7, 8, 9, 10] : List Int32) := by
    intro z h1 h2
    have h9 : z = 1 ∨ z = 2 ∨ z = 3 ∨ z = 4 ∨ z = 5 ∨ z = 6 ∨ z = 7 ∨ z = 8 ∨ z = 9 ∨ z = 10 := by omega
    rcases h9 with h | h | h | h | h | h | h | h | h | h <;> subst h <;> decide +kernel
  have := key x.toInt h.1 h.2
  rwa [Int32.ofInt_toInt] at this
theorem half_ok {num g : Nat → Int32} (e : g 1 = num 1) (h : 1 ≤ (num 1).toInt ∧ (num 1).toInt ≤ 10) : ∃ H, fX3_half num = some H ∧ fX9_half g = some H ∧ 1 ≤ H.toInt ∧ H.toInt ≤ 512 := by
  obtain ⟨h1, h2⟩ := half_all _ (mem10 h)
  exact ⟨_, rfl, by unfold fX9_half; rw [e], h1, h2⟩
theorem neg_toInt {a : Int32} (h : -2147483648 < a.toInt) : (-a).toInt = -a.toInt := by
  have := Int32.toInt_lt a
  rw [Int32.toInt_neg, Int.bmod_def]
  split <;> omega
theorem holds_ok {num g : Nat → Int32} (e : g 1 = num 1) (h : 1 ≤ (num 1).toInt ∧ (num 1).toInt ≤ 10) (x : Int32) : ∃ b : Int32, fX3_holds x num = some b ∧ fX9_isWord x.toInt64 g = some b := by
  obtain ⟨H, e3, e9, h1, h2⟩ := half_ok e h
  unfold fX3_holds fX9_isWord
  have hn : (-H).toInt = -H.toInt := neg_toInt (by omega)
  have hm : (H - 1).toInt = H.toInt - 1 := by rw [sub_toInt (by rw [n32_1]; omega), n32_1]
  rw [e3, e9, bnd1_some, bnd1_some, bnd1_some, bnd1_some, in9, bnd1_some, Int32.toInt_toInt64, Int32.toInt_toInt64, Int32.toInt_toInt64, hn, hm]
  by_cases g1 : x < -H
  · have g1' := Int32.lt_iff_toInt_lt.mp g1
    rw [hn] at g1'
    rw [if_pos g1, if_neg (c := _ ∧ _) (by omega), if_neg (by decide)]
    exact ⟨_, rfl, rfl⟩
  · have g1' : ¬ x.toInt < (-H).toInt := fun q => g1 (Int32.lt_iff_toInt_lt.mpr q)
    rw [hn] at g1'
    rw [if_neg g1]
    by_cases g2 : H ≤ x
    · have g2' := Int32.le_iff_toInt_le.mp g2
      rw [if_pos g2, if_neg (c := _ ∧ _) (by omega), if_neg (by decide)]
      exact ⟨_, rfl, rfl⟩
    · have g2' : ¬ H.toInt ≤ x.toInt := fun q => g2 (Int32.le_iff_toInt_le.mpr q)
      rw [if_neg g2, if_pos (c := _ ∧ _) (by omega), if_neg (by decide)]
      exact ⟨_, rfl, rfl⟩
theorem p_past (x v : Int32) (num words g : Nat → Int32) (h : Sm num words g) (hr : Rg num) (h1 : 1 ≤ (num 1).toInt ∧ (num 1).toInt ≤ 10) : ∃ r w g', fX8_past x v num words = some (r, w) ∧ fX9_past x v g = some (r, g') ∧ Sm num w g' := by
  unfold fX8_past fX9_past
  obtain ⟨b, e3, e9⟩ := holds_ok (h.1 1 (by omega)) h1 v
  rw [wordNo x num hr.2, in9, Int32.toInt_toInt64, Int32.toInt_toInt64, l64_1, h.1 0 (by omega), bnd1_some, bnd1_some]
  by_cases g1 : 1 ≤ x.toInt ∧ x.toInt ≤ (num 0).toInt
  · have hr2 := hr.2
    have ha : (x - 1).toInt = x.toInt - 1 := by rw [sub_toInt (by rw [n32_1]; omega), n32_1]
    have hb : ((10 : Int32) + x).toInt = 10 + x.toInt := by rw [add_toInt (by rw [n32_10]; omega), n32_10]
    have hc : ((10 : Int32) + x - 1).toInt = 10 + x.toInt - 1 := by rw [sub_toInt (by rw [hb, n32_1]; omega), hb, n32_1]
    have hd : ((10 : Int32) + x - 1).toNatClampNeg = 10 + (x - 1).toNatClampNeg := by
      show ((10 : Int32) + x - 1).toInt.toNat = 10 + (x - 1).toInt.toNat
      omega
    rw [if_pos g1, if_neg (c := (1 : Int32) = 0) (by decide), if_neg (c := (1 : Int32) = 0) (by decide), e3, e9, bnd1_some, bnd1_some]
    by_cases eb : b = 0
    · rw [if_pos eb, if_pos eb]
      exact ⟨_, _, _, rfl, rfl, h⟩
    · have i3 := in3 (x := x - 1) (by omega) (n := 3) (by omega)
      have i13 := in3 (x := (10 : Int32) + x - 1) (by omega) (n := 13) (by omega)
      have hlt : (x - 1).toNatClampNeg < 3 := clamp_lt (by omega) (by omega)
      rw [if_neg eb, if_neg eb, if_neg i3, if_neg i3, if_neg i13, if_neg i13, hd]
      refine ⟨_, _, _, rfl, by rw [h.2 _ hlt], fun j hj => ?_, fun j hj => ?_⟩
      · rw [upd_at, if_neg (by omega)]
        exact h.1 j hj
      · rw [upd_at, upd_at]
        by_cases ej : j = (x - 1).toNatClampNeg
        · rw [if_pos ej, if_pos (by omega)]
        · rw [if_neg ej, if_neg (by omega)]
          exact h.2 j hj
  · rw [if_neg g1, if_pos rfl]
    exact ⟨_, _, _, rfl, rfl, h⟩
