def IR (so1 si1 : Nat → Int32) (pl1 : Nat → Nat → Int64) (so2 si2 : Nat → Int32) (pl2 : Nat → Nat → Int64) : Prop := ∀ k, k < 4 → so2 k = so1 k ∧ (0 ≤ (so1 k).toInt → si2 k = si1 k ∧ 0 ≤ (si1 k).toInt ∧ (si1 k).toInt ≤ 40 ∧ ∀ j : Nat, (j : Int) < (si1 k).toInt → pl2 k j = pl1 k j) ∧ ((so1 k).toInt < 0 → si2 k = 0)
theorem n32_4 : (4 : Int32).toInt = 4 := by decide +kernel
theorem n32_40 : (40 : Int32).toInt = 40 := by decide +kernel
theorem row8 (x : Int32) : fX8_isRow x = some (if 0 ≤ x.toInt ∧ x.toInt ≤ 3 then (1 : Int32) else 0) := by
  unfold fX8_isRow
  by_cases g1 : x < 0
  · have g1' := (i_lt n32_0).mp g1
    rw [if_pos g1, if_neg (by omega)]
  · have g1' : ¬ x.toInt < 0 := fun q => g1 ((i_lt n32_0).mpr q)
    rw [if_neg g1]
    by_cases g2 : (4 : Int32) ≤ x
    · have g2' := (i_ge n32_4).mp g2
      rw [if_pos g2, if_neg (by omega)]
    · have g2' : ¬ 4 ≤ x.toInt := fun q => g2 ((i_ge n32_4).mpr q)
      rw [if_neg g2, if_pos (by omega)]
theorem row9 (x : Int32) : fX9_isRow x = some (if 0 ≤ x.toInt ∧ x.toInt ≤ 3 then (1 : Int32) else 0) := by
  unfold fX9_isRow
  rw [in9, Int32.toInt_toInt64, l64_0, l64_3, bnd1_some, if_neg]
  intro q
  apply q
  split
  · exact Or.inr rfl
  · exact Or.inl rfl
theorem miss8 (x : Int32) (so : Nat → Int32) (h : 0 ≤ x.toInt ∧ x.toInt ≤ 3) : fX8_isMissing x so = some (if 0 ≤ (so x.toNatClampNeg).toInt then (0 : Int32) else 1) := by
  unfold fX8_isMissing
  rw [if_neg (fun q => by have := (i_lt n32_0).mp q; omega), if_neg (fun q => by have := (i_ge n32_4).mp q; omega), if_neg (in3 h.1 (n := 4) (by omega))]
  by_cases g : (0 : Int32) ≤ so x.toNatClampNeg
  · rw [if_pos g, if_pos ((i_ge n32_0).mp g)]
  · rw [if_neg g, if_neg (fun q => g ((i_ge n32_0).mpr q))]
theorem has8 (x si : Int32) (h : si.toInt ≤ 40) : fX4_has x si = some (if 0 ≤ x.toInt ∧ x.toInt < si.toInt then (1 : Int32) else 0) := by
  unfold fX4_has
  by_cases g1 : x < 0
  · have g1' := (i_lt n32_0).mp g1
    rw [if_pos g1, if_neg (by omega)]
  · have g1' : ¬ x.toInt < 0 := fun q => g1 ((i_lt n32_0).mpr q)
    rw [if_neg g1]
    by_cases g2 : si ≤ x
    · have g2' := Int32.le_iff_toInt_le.mp g2
      rw [if_pos g2, if_neg (by omega)]
    · have g2' : ¬ si.toInt ≤ x.toInt := fun q => g2 (Int32.le_iff_toInt_le.mpr q)
      rw [if_neg g2, if_neg (fun q => by have := (i_ge n32_40).mp q; omega), if_pos (by omega)]
theorem p_get (x1 x2 : Int32) (so1 si1 so2 si2 : Nat → Int32) (pl1 pl2 : Nat → Nat → Int64) (h : IR so1 si1 pl1 so2 si2 pl2) : ∃ r, fX8_get x1 x2 so1 si1 pl1 = some r ∧ fX9_get x1 x2 pl2 si2 = some r := by
  unfold fX8_get fX9_get
  rw [row8, row9, bnd1_some, bnd1_some]
  by_cases g : 0 ≤ x1.toInt ∧ x1.toInt ≤ 3
  · have i4 := in3 (x := x1) g.1 (n := 4) (by omega)
    obtain ⟨-, hp, hm⟩ := h x1.toNatClampNeg (clamp_lt g.1 (by omega))
    rw [if_pos g, if_neg (c := (1 : Int32) = 0) (by decide), if_neg (c := (1 : Int32) = 0) (by decide), miss8 x1 so1 g, bnd1_some, if_neg i4, in9, Int32.toInt_toInt64, Int32.toInt_toInt64, l64_0, bnd1_some]
    by_cases s0 : 0 ≤ (so1 x1.toNatClampNeg).toInt
    · obtain ⟨e, b0, b1, hj⟩ := hp s0
      rw [if_pos s0, if_pos (c := (0 : Int32) = 0) rfl, if_neg i4, has8 _ _ b1, bnd1_some, e, sub_toInt (by rw [n32_1]; omega), n32_1]
      by_cases g2 : 0 ≤ x2.toInt ∧ x2.toInt < (si1 x1.toNatClampNeg).toInt
      · have i40 := in3 (x := x2) g2.1 (n := 40) (by omega)
        rw [if_pos g2, if_pos (c := _ ∧ _) (by omega), if_neg (c := (1 : Int32) = 0) (by decide), if_neg (c := (1 : Int32) = 0) (by decide), if_neg i4, if_neg i4, if_neg i40, if_neg i40]
        refine ⟨_, rfl, by rw [hj _ (by show ((x2.toInt.toNat : Nat) : Int) < _; omega)]⟩
      · rw [if_neg g2, if_neg (c := _ ∧ _) (by omega), if_pos rfl, if_neg i4, if_pos rfl]
        exact ⟨_, rfl, rfl⟩
    · rw [if_neg s0, if_neg (c := (1 : Int32) = 0) (by decide), hm (by omega), sub_toInt (by rw [n32_1, n32_0]; omega), n32_1, n32_0, if_neg (c := _ ∧ _) (by omega), if_pos rfl, if_neg i4]
      exact ⟨_, rfl, rfl⟩
  · rw [if_neg g, if_pos rfl]
    exact ⟨_, rfl, rfl⟩
