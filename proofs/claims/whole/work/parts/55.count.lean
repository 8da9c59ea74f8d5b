def cn (so : Nat → Int32) (k : Nat) : Int32 := if 0 ≤ (so k).toInt then 1 else 0
theorem st8 (so : Nat → Int32) (n : Nat) (y : Int32) {k : Nat} (hk : k < 4) : fX8_rowsThere_L4 so (n + 1) y (nI k) = fX8_rowsThere_L4 so n (y + cn so k) (nI (k + 1)) := by
  have hi : (nI k).toInt = k := nI_toInt (by omega)
  have hc : (nI k).toNatClampNeg = k := nI_clamp (by omega)
  rw [fX8_rowsThere_L4, if_neg (fun q => by have := (i_ge n32_4).mp q; omega), miss8 _ _ (by omega), bnd1_some, hc, nI_1]
  unfold cn
  by_cases s0 : 0 ≤ (so k).toInt
  · rw [if_pos s0, if_pos rfl, if_pos s0]
  · rw [if_neg s0, if_neg (by decide), if_neg s0, Int32.add_zero]
theorem en8 (so : Nat → Int32) (n : Nat) (y : Int32) : fX8_rowsThere_L4 so (n + 1) y (nI 4) = some y := by
  rw [fX8_rowsThere_L4, if_pos (by decide +kernel)]
theorem st9 (x d u r t : Int32) (so : Nat → Int32) (n : Nat) (y : Int32) {k : Nat} (hk : k < 4) : fX9_count_L55 x d u r t so (n + 1) y (nI k) = fX9_count_L55 x d u r t so n (y + cn so k) (nI (k + 1)) := by
  have hi : (nI k).toInt = k := nI_toInt (by omega)
  have hc : (nI k).toNatClampNeg = k := nI_clamp (by omega)
  rw [fX9_count_L55, if_neg (fun q => by have := (i_ge n32_4).mp q; omega), if_neg (in3 (by omega) (n := 4) (by omega)), hc, nI_1]
  unfold cn
  by_cases s0 : 0 ≤ (so k).toInt
  · rw [if_pos s0, if_neg (fun q => by have := (i_lt n32_0).mp q; omega)]
  · rw [if_neg s0, if_pos ((i_lt n32_0).mpr (by omega))]
theorem en9 (x d u r t : Int32) (so : Nat → Int32) (n : Nat) (y : Int32) : fX9_count_L55 x d u r t so (n + 1) y (nI 4) = some y := by
  rw [fX9_count_L55, if_pos (by decide +kernel)]
theorem fuel5 : FUEL = 99995 + 1 + 1 + 1 + 1 + 1 := rfl
theorem p_count (x1 steps dn un sz done und red tap : Int32) (so1 si1 so2 si2 : Nat → Int32) (pl1 pl2 : Nat → Nat → Int64) (h : IR so1 si1 pl1 so2 si2 pl2) (h0 : und = dn) (h1 : red = un) (h2 : tap = sz) (h4 : done = steps) : ∃ r, fX8_count x1 steps so1 dn un sz = some r ∧ fX9_count x1 done und red tap so2 = some r := by
  subst h0 h1 h2 h4
  have hc : ∀ k, k < 4 → cn so2 k = cn so1 k := fun k hk => by unfold cn; rw [(h k hk).1]
  unfold fX8_count fX9_count fX8_rowsThere
  by_cases c0 : x1 = 0
  · rw [if_pos c0, if_pos c0]; exact ⟨_, rfl, rfl⟩
  rw [if_neg c0, if_neg c0]
  by_cases c1 : x1 = 1
  · rw [if_pos c1, if_pos c1]; exact ⟨_, rfl, rfl⟩
  rw [if_neg c1, if_neg c1]
  by_cases c2 : x1 = 2
  · rw [if_pos c2, if_pos c2]; exact ⟨_, rfl, rfl⟩
  rw [if_neg c2, if_neg c2]
  by_cases c3 : x1 = 3
  · rw [if_pos c3, if_pos c3, fuel5, ← nI_0, st8 _ _ _ (by omega), st8 _ _ _ (by omega), st8 _ _ _ (by omega), st8 _ _ _ (by omega), en8, st9 _ _ _ _ _ _ _ _ (by omega), st9 _ _ _ _ _ _ _ _ (by omega), st9 _ _ _ _ _ _ _ _ (by omega), st9 _ _ _ _ _ _ _ _ (by omega), en9, hc 0 (by omega), hc 1 (by omega), hc 2 (by omega), hc 3 (by omega)]
    exact ⟨_, rfl, rfl⟩
  rw [if_neg c3, if_neg c3]
  by_cases c4 : x1 = 4
  · rw [if_pos c4]; exact ⟨_, rfl, rfl⟩
  rw [if_neg c4]
  exact ⟨_, rfl, rfl⟩
