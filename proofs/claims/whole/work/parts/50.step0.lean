theorem in9 (a b c : Int64) : fX9_in a b c = some (if b.toInt ≤ a.toInt ∧ a.toInt ≤ c.toInt then (1 : Int32) else 0) := by
  have h1 : lg_cmp a b < 0 ↔ a.toInt < b.toInt := by
    have h := lg_cmp_ge a b
    rw [Int64.le_iff_toInt_le] at h
    rw [Int32.lt_iff_toInt_lt]
    rw [Int32.le_iff_toInt_le] at h
    omega
  have h2 : 0 < lg_cmp a c ↔ c.toInt < a.toInt := by
    unfold lg_cmp
    by_cases g : a > c
    · rw [if_pos g]
      have g' := Int64.lt_iff_toInt_lt.mp g
      exact ⟨fun _ => g', fun _ => by decide⟩
    · rw [if_neg g]
      have g' : ¬ c.toInt < a.toInt := fun q => g (Int64.lt_iff_toInt_lt.mpr q)
      constructor
      · intro q
        split at q <;> exact absurd q (by decide)
      · intro q
        exact absurd q g'
  unfold fX9_in
  by_cases g1 : a.toInt < b.toInt
  · rw [if_pos (h1.mpr g1), if_neg (by omega)]
  · rw [if_neg (fun q => g1 (h1.mp q))]
    by_cases g2 : c.toInt < a.toInt
    · rw [if_pos (h2.mpr g2), if_neg (by omega)]
    · rw [if_neg (fun q => g2 (h2.mp q)), if_pos (by omega)]
theorem l64_0 : (0 : Int64).toInt = 0 := by decide +kernel
theorem l64_2 : (2 : Int64).toInt = 2 := by decide +kernel
theorem l64_4 : (4 : Int64).toInt = 4 := by decide +kernel
theorem l64_7 : (7 : Int64).toInt = 7 := by decide +kernel
theorem some_1 : (1 : Int32) = 0 ↔ False := ⟨fun h => absurd h (by decide), fun h => h.elim⟩
/-- bodies: what act leaves for trace -/
def IB (ran : Int32) (tr : Nat → Int32) (ran2 : Int32) (tr2 : Nat → Int32) : Prop := ran2 = ran ∧ 0 ≤ ran.toInt ∧ ∀ j, j < 24 → tr2 j = tr j
theorem p_trace (x ran ran2 : Int32) (tr tr2 : Nat → Int32) (h : IB ran tr ran2 tr2) : ∃ r, fX8_trace x ran tr = some r ∧ fX9_trace x ran2 tr2 = some r := by
  obtain ⟨rfl, h0, ht⟩ := h
  have hm : (((if (24:Int32) < ran2 then (24:Int32) else ran2) - (1:Int32)).toInt64).toInt = (if 24 < ran2.toInt then 24 else ran2.toInt) - 1 := by
    rw [Int32.toInt_toInt64, Int32.toInt_sub]
    have r := Int32.toInt_lt ran2
    by_cases g : (24:Int32) < ran2
    · have g' : (24 : Int) < ran2.toInt := Int32.lt_iff_toInt_lt.mp g
      rw [if_pos g, if_pos g']
      decide +kernel
    · have g' : ¬ (24 : Int) < ran2.toInt := fun q => g (Int32.lt_iff_toInt_lt.mpr q)
      rw [if_neg g, if_neg g', show (1 : Int32).toInt = 1 from rfl, Int.bmod_def]
      split <;> omega
  unfold fX8_trace fX9_trace
  rw [in9, bnd1_some, hm, Int32.toInt_toInt64, l64_0]
  by_cases g1 : x < 0
  · have g1' := Int32.lt_iff_toInt_lt.mp g1
    rw [show (0 : Int32).toInt = 0 from rfl] at g1'
    rw [if_pos g1, if_neg (c := _ ∧ _) (by omega), if_pos rfl]
    exact ⟨_, rfl, rfl⟩
  · have g1' : ¬ x.toInt < 0 := fun q => g1 (Int32.lt_iff_toInt_lt.mpr q)
    rw [if_neg g1]
    by_cases g2 : ran2 ≤ x
    · have g2' := Int32.le_iff_toInt_le.mp g2
      rw [if_pos g2, if_neg (c := _ ∧ _) (by split <;> omega), if_pos rfl]
      exact ⟨_, rfl, rfl⟩
    · have g2' : ¬ ran2.toInt ≤ x.toInt := fun q => g2 (Int32.le_iff_toInt_le.mpr q)
      rw [if_neg g2]
      by_cases g3 : x < (24:Int32)
      · have g3' := Int32.lt_iff_toInt_lt.mp g3
        rw [show (24 : Int32).toInt = 24 from rfl] at g3'
        have hn : x.toNatClampNeg < 24 := by
          show x.toInt.toNat < 24
          omega
        have hi : ¬ (x < 0 ∨ 24 ≤ x.toNatClampNeg) := by
          intro q
          rcases q with q | q
          · exact g1 q
          · omega
        rw [if_pos g3, if_neg hi, if_pos (c := _ ∧ _) (by split <;> omega), if_neg (by decide), if_neg hi]
        exact ⟨_, rfl, by rw [ht _ hn]⟩
      · have g3' : ¬ x.toInt < 24 := fun q => g3 (Int32.lt_iff_toInt_lt.mpr q)
        rw [if_neg g3, if_neg (c := _ ∧ _) (by split <;> omega), if_pos rfl]
        exact ⟨_, rfl, rfl⟩
theorem kind8 (x : Int32) : fX8_isKind x = some (if 0 ≤ x.toInt ∧ x.toInt ≤ 4 then (1 : Int32) else 0) := by
  unfold fX8_isKind
  by_cases g1 : x < 0
  · have g1' : x.toInt < 0 := Int32.lt_iff_toInt_lt.mp g1
    rw [if_pos g1, if_neg (by omega)]
  · have g1' : ¬ x.toInt < 0 := fun q => g1 (Int32.lt_iff_toInt_lt.mpr q)
    rw [if_neg g1]
    by_cases g2 : (5 : Int32) ≤ x
    · have g2' : (5 : Int) ≤ x.toInt := Int32.le_iff_toInt_le.mp g2
      rw [if_pos g2, if_neg (by omega)]
    · have g2' : ¬ (5 : Int) ≤ x.toInt := fun q => g2 (Int32.le_iff_toInt_le.mpr q)
      rw [if_neg g2, if_pos (by omega)]
theorem lt5 {x : Int32} (h : 0 ≤ x.toInt ∧ x.toInt ≤ 4) : x ∈ ([0, 1, 2, 3, 4] : List Int32) := by
  have h9 : x.toInt = 0 ∨ x.toInt = 1 ∨ x.toInt = 2 ∨ x.toInt = 3 ∨ x.toInt = 4 := by omega
  rcases h9 with h | h | h | h | h
  · rw [Int32.toInt_inj.mp (h.trans (show (0 : Int) = (0 : Int32).toInt by decide +kernel))]; decide
  · rw [Int32.toInt_inj.mp (h.trans (show (1 : Int) = (1 : Int32).toInt by decide +kernel))]; decide
  · rw [Int32.toInt_inj.mp (h.trans (show (2 : Int) = (2 : Int32).toInt by decide +kernel))]; decide
  · rw [Int32.toInt_inj.mp (h.trans (show (3 : Int) = (3 : Int32).toInt by decide +kernel))]; decide
  · rw [Int32.toInt_inj.mp (h.trans (show (4 : Int) = (4 : Int32).toInt by decide +kernel))]; decide
theorem under_all : ∀ a ∈ ([0, 1, 2, 3, 4] : List Int32), ∀ b ∈ ([0, 1, 2, 3, 4] : List Int32), fX8_isUnder a b = fX9_isUnder a b ∧ (fX8_isUnder a b).isSome = true := by decide +kernel
theorem p_isUnder (x1 x2 : Int32) : ∃ r, fX8_isUnder x1 x2 = some r ∧ fX9_isUnder x1 x2 = some r := by
  by_cases h1 : 0 ≤ x1.toInt ∧ x1.toInt ≤ 4
  · by_cases h2 : 0 ≤ x2.toInt ∧ x2.toInt ≤ 4
    · obtain ⟨e, hs⟩ := under_all x1 (lt5 h1) x2 (lt5 h2)
      obtain ⟨r, hr⟩ := Option.isSome_iff_exists.mp hs
      exact ⟨r, hr, by rw [← e, hr]⟩
    · unfold fX8_isUnder fX9_isUnder
      rw [kind8, kind8, in9, in9, Int32.toInt_toInt64, Int32.toInt_toInt64, l64_0, l64_4, if_pos h1, if_neg h2]
      exact ⟨_, rfl, rfl⟩
  · unfold fX8_isUnder fX9_isUnder
    rw [kind8, in9, Int32.toInt_toInt64, l64_0, l64_4, if_neg h1]
    exact ⟨_, rfl, rfl⟩
