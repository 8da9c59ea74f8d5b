/-! acts of the roundings -/
theorem upd_c {f f2 : Nat → Int32} (i : Nat) (v : Int32) (h : ∀ j, j < 24 → f2 j = f j) : ∀ j, j < 24 → upd f2 i v j = upd f i v j := by
  intro j hj
  unfold upd
  by_cases q : j = i
  · rw [if_pos q, if_pos q]
  · rw [if_neg q, if_neg q]; exact h j hj
theorem act_00 (x ran ran2 : Int32) (tr tr2 : Nat → Int32) (h : ∀ j, j < 24 → tr2 j = tr j) : ∃ r n t t2, fX8_act (I 0) (I 0) x ran tr = some (r, n, t) ∧ fX9_act (I 0) (I 0) x ran2 tr2 = some (r, n, t2) ∧ IB n t n t2 := by
  refine ⟨_, _, _, _, rfl, rfl, rfl, by decide +kernel, ?_⟩
  repeat refine upd_c _ _ ?_
  exact h
theorem act_01 (x ran ran2 : Int32) (tr tr2 : Nat → Int32) (h : ∀ j, j < 24 → tr2 j = tr j) : ∃ r n t t2, fX8_act (I 0) (I 1) x ran tr = some (r, n, t) ∧ fX9_act (I 0) (I 1) x ran2 tr2 = some (r, n, t2) ∧ IB n t n t2 := by
  refine ⟨_, _, _, _, rfl, rfl, rfl, by decide +kernel, ?_⟩
  repeat refine upd_c _ _ ?_
  exact h
theorem act_02 (x ran ran2 : Int32) (tr tr2 : Nat → Int32) (h : ∀ j, j < 24 → tr2 j = tr j) : ∃ r n t t2, fX8_act (I 0) (I 2) x ran tr = some (r, n, t) ∧ fX9_act (I 0) (I 2) x ran2 tr2 = some (r, n, t2) ∧ IB n t n t2 := by
  refine ⟨_, _, _, _, rfl, rfl, rfl, by decide +kernel, ?_⟩
  repeat refine upd_c _ _ ?_
  exact h
theorem act_10 (x ran ran2 : Int32) (tr tr2 : Nat → Int32) (h : ∀ j, j < 24 → tr2 j = tr j) : ∃ r n t t2, fX8_act (I 1) (I 0) x ran tr = some (r, n, t) ∧ fX9_act (I 1) (I 0) x ran2 tr2 = some (r, n, t2) ∧ IB n t n t2 := by
  refine ⟨_, _, _, _, rfl, rfl, rfl, by decide +kernel, ?_⟩
  repeat refine upd_c _ _ ?_
  exact h
theorem act_11 (x ran ran2 : Int32) (tr tr2 : Nat → Int32) (h : ∀ j, j < 24 → tr2 j = tr j) : ∃ r n t t2, fX8_act (I 1) (I 1) x ran tr = some (r, n, t) ∧ fX9_act (I 1) (I 1) x ran2 tr2 = some (r, n, t2) ∧ IB n t n t2 := by
  refine ⟨_, _, _, _, rfl, rfl, rfl, by decide +kernel, ?_⟩
  repeat refine upd_c _ _ ?_
  exact h
theorem act_12 (x ran ran2 : Int32) (tr tr2 : Nat → Int32) (h : ∀ j, j < 24 → tr2 j = tr j) : ∃ r n t t2, fX8_act (I 1) (I 2) x ran tr = some (r, n, t) ∧ fX9_act (I 1) (I 2) x ran2 tr2 = some (r, n, t2) ∧ IB n t n t2 := by
  refine ⟨_, _, _, _, rfl, rfl, rfl, by decide +kernel, ?_⟩
  repeat refine upd_c _ _ ?_
  exact h
theorem act_20 (x ran ran2 : Int32) (tr tr2 : Nat → Int32) (h : ∀ j, j < 24 → tr2 j = tr j) : ∃ r n t t2, fX8_act (I 2) (I 0) x ran tr = some (r, n, t) ∧ fX9_act (I 2) (I 0) x ran2 tr2 = some (r, n, t2) ∧ IB n t n t2 := by
  refine ⟨_, _, _, _, rfl, rfl, rfl, by decide +kernel, ?_⟩
  repeat refine upd_c _ _ ?_
  exact h
theorem act_21 (x ran ran2 : Int32) (tr tr2 : Nat → Int32) (h : ∀ j, j < 24 → tr2 j = tr j) : ∃ r n t t2, fX8_act (I 2) (I 1) x ran tr = some (r, n, t) ∧ fX9_act (I 2) (I 1) x ran2 tr2 = some (r, n, t2) ∧ IB n t n t2 := by
  refine ⟨_, _, _, _, rfl, rfl, rfl, by decide +kernel, ?_⟩
  repeat refine upd_c _ _ ?_
  exact h
theorem act_22 (x ran ran2 : Int32) (tr tr2 : Nat → Int32) (h : ∀ j, j < 24 → tr2 j = tr j) : ∃ r n t t2, fX8_act (I 2) (I 2) x ran tr = some (r, n, t) ∧ fX9_act (I 2) (I 2) x ran2 tr2 = some (r, n, t2) ∧ IB n t n t2 := by
  refine ⟨_, _, _, _, rfl, rfl, rfl, by decide +kernel, ?_⟩
  repeat refine upd_c _ _ ?_
  exact h
theorem act_30 (x ran ran2 : Int32) (tr tr2 : Nat → Int32) (h : ∀ j, j < 24 → tr2 j = tr j) : ∃ r n t t2, fX8_act (I 3) (I 0) x ran tr = some (r, n, t) ∧ fX9_act (I 3) (I 0) x ran2 tr2 = some (r, n, t2) ∧ IB n t n t2 := by
  refine ⟨_, _, _, _, rfl, rfl, rfl, by decide +kernel, ?_⟩
  repeat refine upd_c _ _ ?_
  exact h
theorem act_31 (x ran ran2 : Int32) (tr tr2 : Nat → Int32) (h : ∀ j, j < 24 → tr2 j = tr j) : ∃ r n t t2, fX8_act (I 3) (I 1) x ran tr = some (r, n, t) ∧ fX9_act (I 3) (I 1) x ran2 tr2 = some (r, n, t2) ∧ IB n t n t2 := by
  refine ⟨_, _, _, _, rfl, rfl, rfl, by decide +kernel, ?_⟩
  repeat refine upd_c _ _ ?_
  exact h
theorem act_32 (x ran ran2 : Int32) (tr tr2 : Nat → Int32) (h : ∀ j, j < 24 → tr2 j = tr j) : ∃ r n t t2, fX8_act (I 3) (I 2) x ran tr = some (r, n, t) ∧ fX9_act (I 3) (I 2) x ran2 tr2 = some (r, n, t2) ∧ IB n t n t2 := by
  refine ⟨_, _, _, _, rfl, rfl, rfl, by decide +kernel, ?_⟩
  repeat refine upd_c _ _ ?_
  exact h
theorem act_40 (x ran ran2 : Int32) (tr tr2 : Nat → Int32) (h : ∀ j, j < 24 → tr2 j = tr j) : ∃ r n t t2, fX8_act (I 4) (I 0) x ran tr = some (r, n, t) ∧ fX9_act (I 4) (I 0) x ran2 tr2 = some (r, n, t2) ∧ IB n t n t2 := by
  refine ⟨_, _, _, _, rfl, rfl, rfl, by decide +kernel, ?_⟩
  repeat refine upd_c _ _ ?_
  exact h
theorem act_41 (x ran ran2 : Int32) (tr tr2 : Nat → Int32) (h : ∀ j, j < 24 → tr2 j = tr j) : ∃ r n t t2, fX8_act (I 4) (I 1) x ran tr = some (r, n, t) ∧ fX9_act (I 4) (I 1) x ran2 tr2 = some (r, n, t2) ∧ IB n t n t2 := by
  refine ⟨_, _, _, _, rfl, rfl, rfl, by decide +kernel, ?_⟩
  repeat refine upd_c _ _ ?_
  exact h
theorem act_42 (x ran ran2 : Int32) (tr tr2 : Nat → Int32) (h : ∀ j, j < 24 → tr2 j = tr j) : ∃ r n t t2, fX8_act (I 4) (I 2) x ran tr = some (r, n, t) ∧ fX9_act (I 4) (I 2) x ran2 tr2 = some (r, n, t2) ∧ IB n t n t2 := by
  refine ⟨_, _, _, _, rfl, rfl, rfl, by decide +kernel, ?_⟩
  repeat refine upd_c _ _ ?_
  exact h
theorem p_act (x y z ran ran2 : Int32) (tr tr2 : Nat → Int32) (h : IB ran tr ran2 tr2) : ∃ r n t n2 t2, fX8_act x y z ran tr = some (r, n, t) ∧ fX9_act x y z ran2 tr2 = some (r, n2, t2) ∧ IB n t n2 t2 := by
  have ht := h.2.2
  obtain ⟨x, rfl, x1, x2⟩ := I_ex x
  obtain ⟨y, rfl, y1, y2⟩ := I_ex y
  by_cases q : (0 ≤ x ∧ x ≤ 4) ∧ 0 ≤ y ∧ y ≤ 2
  · have hx : x = 0 ∨ x = 1 ∨ x = 2 ∨ x = 3 ∨ x = 4 := by omega
    have hy : y = 0 ∨ y = 1 ∨ y = 2 := by omega
    rcases hx with rfl | rfl | rfl | rfl | rfl <;> rcases hy with rfl | rfl | rfl
    · obtain ⟨r, n, t, t2, a1, a2, a3⟩ := act_00 z ran ran2 tr tr2 ht
      exact ⟨r, n, t, n, t2, a1, a2, a3⟩
    · obtain ⟨r, n, t, t2, a1, a2, a3⟩ := act_01 z ran ran2 tr tr2 ht
      exact ⟨r, n, t, n, t2, a1, a2, a3⟩
    · obtain ⟨r, n, t, t2, a1, a2, a3⟩ := act_02 z ran ran2 tr tr2 ht
      exact ⟨r, n, t, n, t2, a1, a2, a3⟩
    · obtain ⟨r, n, t, t2, a1, a2, a3⟩ := act_10 z ran ran2 tr tr2 ht
      exact ⟨r, n, t, n, t2, a1, a2, a3⟩
    · obtain ⟨r, n, t, t2, a1, a2, a3⟩ := act_11 z ran ran2 tr tr2 ht
      exact ⟨r, n, t, n, t2, a1, a2, a3⟩
    · obtain ⟨r, n, t, t2, a1, a2, a3⟩ := act_12 z ran ran2 tr tr2 ht
      exact ⟨r, n, t, n, t2, a1, a2, a3⟩
    · obtain ⟨r, n, t, t2, a1, a2, a3⟩ := act_20 z ran ran2 tr tr2 ht
      exact ⟨r, n, t, n, t2, a1, a2, a3⟩
    · obtain ⟨r, n, t, t2, a1, a2, a3⟩ := act_21 z ran ran2 tr tr2 ht
      exact ⟨r, n, t, n, t2, a1, a2, a3⟩
    · obtain ⟨r, n, t, t2, a1, a2, a3⟩ := act_22 z ran ran2 tr tr2 ht
      exact ⟨r, n, t, n, t2, a1, a2, a3⟩
    · obtain ⟨r, n, t, t2, a1, a2, a3⟩ := act_30 z ran ran2 tr tr2 ht
      exact ⟨r, n, t, n, t2, a1, a2, a3⟩
    · obtain ⟨r, n, t, t2, a1, a2, a3⟩ := act_31 z ran ran2 tr tr2 ht
      exact ⟨r, n, t, n, t2, a1, a2, a3⟩
    · obtain ⟨r, n, t, t2, a1, a2, a3⟩ := act_32 z ran ran2 tr tr2 ht
      exact ⟨r, n, t, n, t2, a1, a2, a3⟩
    · obtain ⟨r, n, t, t2, a1, a2, a3⟩ := act_40 z ran ran2 tr tr2 ht
      exact ⟨r, n, t, n, t2, a1, a2, a3⟩
    · obtain ⟨r, n, t, t2, a1, a2, a3⟩ := act_41 z ran ran2 tr tr2 ht
      exact ⟨r, n, t, n, t2, a1, a2, a3⟩
    · obtain ⟨r, n, t, t2, a1, a2, a3⟩ := act_42 z ran ran2 tr tr2 ht
      exact ⟨r, n, t, n, t2, a1, a2, a3⟩
  · unfold fX8_act fX9_act
    rw [knd8 x1 x2, bnd1_some, inI, IJ x1 x2, bnd1_some, inI, IJ y1 y2, bnd1_some]
    simp (disch := omega) only [L0, L2, M0, M2, M4, J_le, b0, I_lt, I_le]
    by_cases c : 0 ≤ x ∧ x ≤ 4
    · rw [if_neg (by omega), if_neg (c := ¬ (0 ≤ x ∧ x ≤ 4)) (by omega), if_pos (c := ¬ (0 ≤ y ∧ y ≤ 2)) (by omega)]
      by_cases d : y < 0
      · rw [if_pos d]
        exact ⟨_, _, _, _, _, rfl, rfl, h⟩
      · rw [if_neg d, if_neg (by omega)]
        exact ⟨_, _, _, _, _, rfl, rfl, h⟩
    · rw [if_pos c, if_pos c]
      exact ⟨_, _, _, _, _, rfl, rfl, h⟩
