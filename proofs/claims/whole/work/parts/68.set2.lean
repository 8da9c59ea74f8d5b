theorem slt9 (x y : Int32) (h : isN x y) : ∃ s : Nat, s < 10 ∧ fX8_slotOf x y = some (I s) ∧ fX9_placeOf x y = some (I s) ∧ fX9_leastOf x = some (I (LW s)) ∧ fX9_mostOf x = some (I (HW s)) ∧ (s ≤ 1 → x = I s) ∧ (2 ≤ s → ∃ z : Int, x = I z ∧ 2 ≤ z ∧ z ≤ 7) := by
  obtain ⟨x, rfl, x1, x2⟩ := I_ex x
  obtain ⟨y, rfl, y1, y2⟩ := I_ex y
  unfold isN at h
  rw [IT x1 x2, IT y1 y2] at h
  obtain ⟨h1, h2, h3⟩ := h
  have hx : x = 0 ∨ x = 1 ∨ x = 2 ∨ x = 3 ∨ x = 4 ∨ x = 5 ∨ x = 6 ∨ x = 7 := by omega
  rcases hx with rfl | rfl | rfl | rfl | rfl | rfl | rfl | rfl
  · exact ⟨0, by omega, rfl, rfl, rfl, rfl, fun _ => rfl, fun q => absurd q (by omega)⟩
  · exact ⟨1, by omega, rfl, rfl, rfl, rfl, fun _ => rfl, fun q => absurd q (by omega)⟩
  · have hy := h3 rfl
    have hy3 : y = 1 ∨ y = 2 ∨ y = 3 := by omega
    rcases hy3 with rfl | rfl | rfl
    · exact ⟨2, by omega, rfl, rfl, rfl, rfl, fun q => absurd q (by omega), fun _ => ⟨2, rfl, by omega, by omega⟩⟩
    · exact ⟨3, by omega, rfl, rfl, rfl, rfl, fun q => absurd q (by omega), fun _ => ⟨2, rfl, by omega, by omega⟩⟩
    · exact ⟨4, by omega, rfl, rfl, rfl, rfl, fun q => absurd q (by omega), fun _ => ⟨2, rfl, by omega, by omega⟩⟩
  · exact ⟨5, by omega, rfl, rfl, rfl, rfl, fun q => absurd q (by omega), fun _ => ⟨3, rfl, by omega, by omega⟩⟩
  · exact ⟨6, by omega, rfl, rfl, rfl, rfl, fun q => absurd q (by omega), fun _ => ⟨4, rfl, by omega, by omega⟩⟩
  · exact ⟨7, by omega, rfl, rfl, rfl, rfl, fun q => absurd q (by omega), fun _ => ⟨5, rfl, by omega, by omega⟩⟩
  · exact ⟨8, by omega, rfl, rfl, rfl, rfl, fun q => absurd q (by omega), fun _ => ⟨6, rfl, by omega, by omega⟩⟩
  · exact ⟨9, by omega, rfl, rfl, rfl, rfl, fun q => absurd q (by omega), fun _ => ⟨7, rfl, by omega, by omega⟩⟩
theorem setJ9 {N W : Nat → Int} {num words g : Nat → Int32} (hR : FR N W num words g) {done undone : Int32} {slots olds news : Nat → Int32} {und red : Int32} {ch : Nat → Nat → Int32} (hC : CH num done undone slots olds news und red ch) (x y : Int32) {s : Nat} (hs : s < 10) (e9 : fX9_placeOf x y = some (I s)) {v : Int} (v1 : -99 ≤ v) (v2 : v ≤ 99) (hV' : Vl (upI N s v)) :
    ∃ r n' w' d' u' sl' ol' ne' und' red' g' ch', (if num s = I v then some (num s, num, words, done, undone, slots, olds, news) else bnd5 (fX1_add (I s) (num s) (I v) done undone slots olds news) fun o3 o4 o5 o6 o7 => bnd2 (fX3_become (I s) (I v) num words) fun o8 o9 => some (num s, o8, o9, o3, o4, o5, o6, o7)) = some (r, n', w', d', u', sl', ol', ne') ∧ fX9_set_j54 x y (I v) und red g ch = some (r, und', red', g', ch') ∧ FI n' w' g' ∧ CH n' d' u' sl' ol' ne' und' red' ch' := by
  have hR0 := hR
  obtain ⟨hV, hW, hn, hw, hg, hp⟩ := hR
  have i2 : ((s : Int)).toNat = s := by omega
  have g1 : ¬ ((s : Int) < 0 ∨ 13 ≤ s) := by omega
  unfold fX9_set_j54
  rw [e9, bnd1_some]
  simp (disch := omega) only [L0, I_lt, I_cl, i2]
  simp only [if_neg g1]
  rw [hg s hs, hn s hs]
  by_cases e : I (N s) = I v
  · rw [if_pos e, if_pos e]
    exact ⟨_, _, _, _, _, _, _, _, _, _, _, _, rfl, rfl, ⟨N, W, hR0⟩, hC⟩
  · obtain ⟨n', w', g', f1, f2, f3⟩ := FR_up hR0 hs v1 v2 hV'
    obtain ⟨d', u', sl', ol', ne', und', red', ch', a1, a2, a3⟩ := CH_add hC hV hn hs hV' f3.2.2.1
    rw [if_neg e, if_neg e, a1, a2, bnd5_some, bnd3_some, f1, f2, bnd2_some, bnd1_some]
    exact ⟨_, _, _, _, _, _, _, _, _, _, _, _, rfl, rfl, ⟨_, _, f3⟩, a3⟩
theorem p_set (x y v : Int32) (num words g : Nat → Int32) (done undone : Int32) (slots olds news : Nat → Int32) (und red : Int32) (ch : Nat → Nat → Int32) (hF : FI num words g) (hC : CH num done undone slots olds news und red ch) :
    ∃ r n' w' d' u' sl' ol' ne' und' red' g' ch', fX8_set x y v num words done undone slots olds news = some (r, n', w', d', u', sl', ol', ne') ∧ fX9_set x y v und red g ch = some (r, und', red', g', ch') ∧ FI n' w' g' ∧ CH n' d' u' sl' ol' ne' und' red' ch' := by
  obtain ⟨N, W, hR⟩ := hF
  have hV := hR.1
  unfold fX8_set fX9_set
  rcases isN9 x y with ⟨hN, e9⟩ | ⟨hN, e9, e8⟩
  · obtain ⟨s, hs, s8, s9, sl, sm, sx, sy⟩ := slt9 x y hN
    obtain ⟨v, rfl, v1, v2⟩ := I_ex v
    have lb := LHb s hs
    have i2 : ((s : Int)).toNat = s := by omega
    have hb : LW s ≤ HW s := by
      have := ((Vl_iff N).mp hV).1 s hs
      omega
    rw [s8, e9, bnd1_some, bnd1_some, if_neg (c := (1 : Int32) = 0) (by decide), sl, sm, bnd1_some, bnd1_some, inI, bnd1_some, IJ v1 v2, IJ (by omega) (by omega), IJ (by omega) (by omega)]
    have g1 : ¬ (I s < 0 ∨ 10 ≤ (I s).toNatClampNeg) := by
      rw [L0, I_lt (by omega) (by omega) (by omega) (by omega), I_cl (by omega) (by omega)]; omega
    have g0 : ¬ (I s < 0) := fun q => g1 (Or.inl q)
    have g2 : ¬ (10 ≤ I s) := by
      rw [L10, I_le (by omega) (by omega) (by omega) (by omega)]; omega
    simp only [if_neg g1, if_neg g0, if_neg g2]
    rw [I_cl (by omega) (by omega), i2, tbL s hs, tbH s hs]
    by_cases c1 : LW s ≤ v ∧ v ≤ HW s
    · have n1 : ¬ (I v < I (LW s)) := by
        rw [I_lt (by omega) (by omega) (by omega) (by omega)]; omega
      have n2 : I v ≤ I (HW s) := by
        rw [I_le (by omega) (by omega) (by omega) (by omega)]; omega
      have n3 : J (LW s) ≤ J v ∧ J v ≤ J (HW s) := by
        rw [J_le (by omega) (by omega) (by omega) (by omega), J_le (by omega) (by omega) (by omega) (by omega)]; exact c1
      rw [if_neg n1, if_pos n2, if_pos n3, if_neg (show ¬ I 1 = 0 by decide +kernel), tlw8 hV hR.2.2.1 hs (by omega) (by omega), bnd1_some]
      have hup : ∀ j, j < 10 → LW j ≤ upI N s v j ∧ upI N s v j ≤ HW j := by
        intro j hj
        unfold upI
        by_cases q : j = s
        · rw [if_pos q, q]; exact c1
        · rw [if_neg q]; exact ((Vl_iff N).mp hV).1 j hj
      by_cases c2 : upI N s v 0 * upI N s v 1 ≤ 10
      · have hV' : Vl (upI N s v) := (Vl_iff _).mpr ⟨hup, c2⟩
        rw [if_pos c2, if_pos (show I 0 = 0 from rfl)]
        obtain ⟨r, n', w', d', u', sl', ol', ne', und', red', g', ch', a1, a2, a3, a4⟩ := setJ9 hR hC x y hs s9 (by omega) (by omega) hV'
        refine ⟨r, n', w', d', u', sl', ol', ne', und', red', g', ch', a1, ?_, a3, a4⟩
        by_cases c3 : 2 ≤ s
        · obtain ⟨z, rfl, z1, z2⟩ := sy c3
          rw [if_pos (by rw [L2, I_le (by omega) (by omega) (by omega) (by omega)]; omega)]
          exact a2
        · have ex := sx (by omega)
          subst ex
          have i3 : ((1 : Int) - (s : Int)).toNat = 1 - s := by omega
          have q0 := Vl_rng hV (s := 0) (by omega)
          have q1 := Vl_rng hV (s := 1) (by omega)
          have mm := mulb (A := 99) (B := 99) (a := v) (b := N (1 - s)) (by omega) (by omega) (Vl_rng hV (by omega)).1 (Vl_rng hV (by omega)).2
          have gg := hR.2.2.2.2.1 (1 - s) (by omega)
          rw [if_neg (by rw [L2, I_le (by omega) (by omega) (by omega) (by omega)]; omega), L1, I_sub, if_neg (by rw [L0, I_lt (by omega) (by omega) (by omega) (by omega), I_cl (by omega) (by omega)]; omega), I_cl (by omega) (by omega), i3, gg, I_mul, if_pos]
          · exact a2
          · rw [L10, I_le (by omega) (by omega) (by omega) (by omega)]
            have hs2 : s = 0 ∨ s = 1 := by omega
            rcases hs2 with rfl | rfl
            · exact c2
            · have : v * N 0 = N 0 * v := Int.mul_comm ..
              show v * N 0 ≤ 10
              rw [this]
              exact c2
      · have c3 : s ≤ 1 := by
          refine Classical.byContradiction fun q => c2 ?_
          have a0 : upI N s v 0 = N 0 := by unfold upI; rw [if_neg (by omega)]
          have a1 : upI N s v 1 = N 1 := by unfold upI; rw [if_neg (by omega)]
          rw [a0, a1]
          exact ((Vl_iff N).mp hV).2
        have ex := sx (by omega)
        subst ex
        have i3 : ((1 : Int) - (s : Int)).toNat = 1 - s := by omega
        have mm := mulb (A := 99) (B := 99) (a := v) (b := N (1 - s)) (by omega) (by omega) (Vl_rng hV (by omega)).1 (Vl_rng hV (by omega)).2
        have gg := hR.2.2.2.2.1 (1 - s) (by omega)
        rw [if_neg c2, if_neg (show ¬ I 1 = 0 by decide +kernel), if_neg (by rw [L2, I_le (by omega) (by omega) (by omega) (by omega)]; omega), L1, I_sub, if_neg (by rw [L0, I_lt (by omega) (by omega) (by omega) (by omega), I_cl (by omega) (by omega)]; omega), I_cl (by omega) (by omega), i3, gg, I_mul, if_neg]
        · exact ⟨_, _, _, _, _, _, _, _, _, _, _, _, rfl, rfl, ⟨N, W, hR⟩, hC⟩
        · rw [L10, I_le (by omega) (by omega) (by omega) (by omega)]
          have hs2 : s = 0 ∨ s = 1 := by omega
          rcases hs2 with rfl | rfl
          · exact c2
          · have : v * N 0 = N 0 * v := Int.mul_comm ..
            show ¬ (v * N 0 ≤ 10)
            rw [this]
            exact c2
    · have n3 : ¬ (J (LW s) ≤ J v ∧ J v ≤ J (HW s)) := by
        rw [J_le (by omega) (by omega) (by omega) (by omega), J_le (by omega) (by omega) (by omega) (by omega)]; exact c1
      rw [if_neg n3, if_pos (show I 0 = 0 from rfl)]
      by_cases c4 : I v < I (LW s)
      · rw [if_pos c4]
        exact ⟨_, _, _, _, _, _, _, _, _, _, _, _, rfl, rfl, ⟨N, W, hR⟩, hC⟩
      · have n2 : ¬ I v ≤ I (HW s) := by
          rw [I_lt (by omega) (by omega) (by omega) (by omega)] at c4
          rw [I_le (by omega) (by omega) (by omega) (by omega)]; omega
        rw [if_neg c4, if_neg n2]
        exact ⟨_, _, _, _, _, _, _, _, _, _, _, _, rfl, rfl, ⟨N, W, hR⟩, hC⟩
  · rw [e8, e9, bnd1_some, bnd1_some, if_pos (by decide), if_pos rfl]
    exact ⟨_, _, _, _, _, _, _, _, _, _, _, _, rfl, rfl, ⟨N, W, hR⟩, hC⟩
