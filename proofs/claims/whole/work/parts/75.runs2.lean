/-! calls that follow a row -/
theorem bothF {N W : Nat → Int} (hV : Vl N) (hW : Wd N W) {num w g : Nat → Int32} (hn : ∀ j, j < 10 → num j = I (N j)) (hg : ∀ j, j < 10 → g j = I (N j)) (hw : ∀ k, k < 3 → w k = I (W k)) (hp : ∀ k, k < 3 → g (10 + k) = I (W k)) {so1 si1 so2 si2 : Nat → Int32} {pl1 pl2 : Nat → Nat → Int64} (h : IR so1 si1 pl1 so2 si2 pl2) {r : Nat} (hr : r < 4) (hs : 0 ≤ (so1 r).toInt) (ln ov0 hl hb a v l rr o ha hrd a9 v9 l9 o9 om ov9 ih : Int32) (o1 l1 o2 l2 p : Nat → Int32) :
    ∃ (n len ov' : Nat) (h : Bool) (hb' a' v' l' r' o' ha' hr' a9' v9' l9' o9' : Int32) (o1' l1' o2' l2' w' p' : Nat → Int32) (W' : Nat → Int), fX2_follow ln ov0 hl hb o1 l1 a v l rr o ha hrd num w (si1 r) (pl1 r) = some (I len, I ov', bo h, hb', o1', l1', a', v', l', r', o', ha', hr', w') ∧
      fX9_runs (I r) a9 v9 l9 o9 om ov9 ih g p pl2 si2 o2 l2 = some (a9', v9', l9', o9', I len, I ov', bo h, p', o2', l2') ∧ n ≤ 40 ∧ si1 r = I n ∧ len ≤ n ∧ ov' ≤ n ∧ (h = true → v9' = hb') ∧ Wd N W' ∧ (∀ k, k < 3 → w' k = I (W' k)) ∧ (∀ k, k < 3 → p' k = I (W' k)) ∧ OK2 N len o1' l1' o2' l2' := by
  obtain ⟨e1, e2, -⟩ := h r hr
  obtain ⟨f1, f2, f3, f4⟩ := e2 hs
  obtain ⟨n, en⟩ := Int.eq_ofNat_of_zero_le f2
  have es : si1 r = I n := by rw [← en, Iof]
  have n40 : n ≤ 40 := by omega
  obtain ⟨p0, eb, hb0⟩ := beg9 g p
  obtain ⟨len, ov', hh, hb', a', v', l', r', o', ha', hr2, a9', v9', l9', o9', o1', l1', o2', l2', w', p', W', q1, q2, q3, q4, q5, q6, q7, q8, q9⟩ := simR hV hn hg n40 (pl1 := pl1 r) (pl2 := pl2) (r := r) hr (fun j hj => f4 j (by omega)) (si := si2) (by rw [f1, es]) n 0 (by omega) (99998 - n) (99998 - n) 0 (by omega) W hW w p0 hw (fun k hk => (hb0 k hk).trans (hp k hk)) o1 l1 o2 l2 (fun j hj => absurd hj (by omega)) hb a v l rr o ha hrd a9 v9 l9 o9
  have fe : FUEL = 99998 - n + n + 2 := by show 100000 = _; omega
  unfold fX2_follow fX9_runs
  rw [eb, bnd1_some, es, L0, fe, show I (0 : Int) = I ((0 : Nat) : Int) from rfl]
  rw [show I (0 : Int) = I ((0 : Nat) : Int) from rfl] at q1 q2
  rw [q1, q2, bnd14_some, bnd10_some]
  exact ⟨n, len, ov', hh, hb', _, _, _, _, _, _, _, _, _, _, _, _, _, _, _, _, _, W', rfl, rfl, n40, rfl, q3, q4, q5, q6, q7, q8, q9⟩
theorem bothT {num words g : Nat → Int32} (hF : FI num words g) {so1 si1 so2 si2 : Nat → Int32} {pl1 pl2 : Nat → Nat → Int64} (h : IR so1 si1 pl1 so2 si2 pl2) {r : Nat} (hr : r < 4) (hs : 0 ≤ (so1 r).toInt) (a v l rr o ha hrd : Int32) (tn tw : Nat → Int32) (ln ov0 hl hb : Int32) (o1 l1 : Nat → Int32) (a9 v9 l9 o9 om ov9 ih : Int32) (o2 l2 p : Nat → Int32) :
    ∃ (N : Nat → Int) (n len ov' : Nat) (h : Bool) (hb' a' v' l' r' o' ha' hr' a9' v9' l9' o9' : Int32) (o1' l1' o2' l2' n' w' p' : Nat → Int32), fX8_followInThought (I r) num words a v l rr o ha hrd tn tw ln ov0 hl hb o1 l1 si1 pl1 = some (a', v', l', r', o', ha', hr', n', w', I len, I ov', bo h, hb', o1', l1') ∧
      fX9_runs (I r) a9 v9 l9 o9 om ov9 ih g p pl2 si2 o2 l2 = some (a9', v9', l9', o9', I len, I ov', bo h, p', o2', l2') ∧ n ≤ 40 ∧ si1 r = I n ∧ len ≤ n ∧ ov' ≤ n ∧ (h = true → v9' = hb') ∧ OK2 N len o1' l1' o2' l2' ∧ Vl N ∧ (∀ j, j < 10 → num j = I (N j)) ∧ ∀ j, j < 10 → g j = I (N j) := by
  obtain ⟨N, W, hV, hW, hn, hw, hg, hp⟩ := hF
  obtain ⟨n', w', e1, b1, b2, -⟩ := tak8 tn tw num words
  obtain ⟨n, len, ov', hh, hb', a', v', l', r', o', ha', hr2, a9', v9', l9', o9', o1', l1', o2', l2', w2, p', W', q1, q2, q3, q4, q5, q6, q7, q8, q9, q10, q11⟩ := bothF hV hW (num := n') (w := w') (fun j hj => (b1 j hj).trans (hn j hj)) hg (fun j hj => (b2 j hj).trans (hw j hj)) hp h hr hs ln ov0 hl hb a v l rr o ha hrd a9 v9 l9 o9 om ov9 ih o1 l1 o2 l2 p
  unfold fX8_followInThought
  rw [e1, bnd2_some, clN (by omega)]
  simp only [if_neg (gR4' hr)]
  have g0 : ¬ (I r < 0) := fun q => gR4' hr (Or.inl q)
  have g4 : ¬ ((4 : Int32) ≤ I r) := by rw [L4, I_le (by omega) (by omega) (by omega) (by omega)]; omega
  rw [if_neg g0, if_neg g4, q1, bnd14_some]
  exact ⟨N, n, len, ov', hh, hb', _, _, _, _, _, _, _, _, _, _, _, _, _, _, _, _, _, _, rfl, q2, q3, q4, q5, q6, q7, q11, hV, hn, hg⟩
theorem is0 : (I 0 = 0) := rfl
theorem is1 : ¬ (I 1 = 0) := by decide +kernel
theorem p_output (x y : Int32) (num words g tn tw p : Nat → Int32) (so1 si1 so2 si2 : Nat → Int32) (pl1 pl2 : Nat → Nat → Int64) (a v l rr o ha hr ln ov0 hl hb : Int32) (o1 l1 : Nat → Int32) (a9 v9 l9 o9 om ov9 ih : Int32) (o2 l2 : Nat → Int32) (hF : FI num words g) (h : IR so1 si1 pl1 so2 si2 pl2) :
    ∃ r, (fX8_output x y num words a v l rr o ha hr tn tw ln ov0 hl hb o1 l1 so1 si1 pl1).map Prod.fst = some r ∧ (fX9_output x y a9 v9 l9 o9 om ov9 ih g p pl2 so2 si2 o2 l2).map Prod.fst = some r := by
  obtain ⟨z, rfl, z1, z2⟩ := I_ex x
  obtain ⟨y, rfl, y1, y2⟩ := I_ex y
  unfold fX8_output fX9_output
  rw [rw8 z1 z2, rw9 z1 z2, bnd1_some, bnd1_some]
  by_cases c : 0 ≤ z ∧ z ≤ 3
  · obtain ⟨r, rfl⟩ := Int.eq_ofNat_of_zero_le c.1
    have hr4 : r < 4 := by omega
    obtain ⟨e1, e2, e3⟩ := h r hr4
    simp only [if_pos c, if_neg is1, clN (show r < 100000 by omega), if_neg (gR4' hr4), ms8 hr4, bnd1_some]
    rw [e1]
    by_cases c2 : 0 ≤ (so1 r).toInt
    · obtain ⟨N, n, len, ov', hh, hb', a', v', l', r', o', ha', hr2, a9', v9', l9', o9', o1', l1', o2', l2', n', w2, p', q1, q2, q3, q4, q5, q6, q7, q8, -, -, -⟩ := bothT hF h hr4 c2 a v l rr o ha hr tn tw ln ov0 hl hb o1 l1 a9 v9 l9 o9 om ov9 ih o2 l2 p
      rw [if_pos c2, if_pos (c := (0 : Int32) = 0) rfl, if_pos ((I_sg _).mpr c2), q1, q2, bnd15_some, bnd10_some, L1, I_sub, inI, IJ y1 y2, IJ (by omega) (by omega), bnd1_some, M0, L0, L40]
      by_cases k1 : y < 0
      · rw [if_pos ((I_lt (by omega) (by omega) (by omega) (by omega)).mpr k1), if_neg (c := (_ ≤ _) ∧ _) (by rw [J_le (by omega) (by omega) (by omega) (by omega), J_le (by omega) (by omega) (by omega) (by omega)]; omega), if_pos (c := I 0 = I 0) rfl]
        exact ⟨_, rfl, rfl⟩
      · rw [if_neg (fun q => k1 ((I_lt (by omega) (by omega) (by omega) (by omega)).mp q))]
        obtain ⟨y, rfl⟩ := Int.eq_ofNat_of_zero_le (show 0 ≤ y by omega)
        by_cases k2 : len ≤ y
        · rw [if_pos ((I_le (by omega) (by omega) (by omega) (by omega)).mpr (by omega)), if_neg (c := (_ ≤ _) ∧ _) (by rw [J_le (by omega) (by omega) (by omega) (by omega), J_le (by omega) (by omega) (by omega) (by omega)]; omega), if_pos (c := I 0 = I 0) rfl]
          exact ⟨_, rfl, rfl⟩
        · have g2 : ¬ (I y < I 0 ∨ 40 ≤ y) := by
            rw [I_lt (by omega) (by omega) (by omega) (by omega)]; omega
          obtain ⟨zz, ll, f1, f2, -⟩ := q8 y (by omega)
          rw [if_neg (fun q => k2 (by have := (I_le (by omega) (by omega) (by omega) (by omega)).mp q; omega)), if_pos ((I_lt (by omega) (by omega) (by omega) (by omega)).mpr (by omega)), if_pos (c := (_ ≤ _) ∧ _) (by rw [J_le (by omega) (by omega) (by omega) (by omega), J_le (by omega) (by omega) (by omega) (by omega)]; omega), if_neg i01, clN (by omega), if_neg g2, if_neg g2, f1, f2]
          exact ⟨_, rfl, rfl⟩
    · rw [if_neg c2, if_neg (c := (1 : Int32) = 0) (by decide), if_neg (fun q => c2 ((I_sg _).mp q))]
      exact ⟨_, rfl, rfl⟩
  · simp only [if_neg c, if_pos is0]
    exact ⟨_, rfl, rfl⟩
theorem p_run (x y : Int32) (num words g tn tw p : Nat → Int32) (so1 si1 so2 si2 : Nat → Int32) (pl1 pl2 : Nat → Nat → Int64) (a v l rr o ha hr ln ov0 hl hb : Int32) (o1 l1 : Nat → Int32) (a9 v9 l9 o9 om ov9 ih : Int32) (o2 l2 : Nat → Int32) (hF : FI num words g) (h : IR so1 si1 pl1 so2 si2 pl2) :
    ∃ r, (fX8_run x y num words a v l rr o ha hr tn tw ln ov0 hl hb o1 l1 so1 si1 pl1).map Prod.fst = some r ∧ (fX9_run x y a9 v9 l9 o9 om ov9 ih g p pl2 so2 si2 o2 l2).map Prod.fst = some r := by
  obtain ⟨z, rfl, z1, z2⟩ := I_ex x
  obtain ⟨y, rfl, y1, y2⟩ := I_ex y
  unfold fX8_run fX9_run
  rw [rw8 z1 z2, rw9 z1 z2, bnd1_some, bnd1_some]
  by_cases c : 0 ≤ z ∧ z ≤ 3
  · obtain ⟨r, rfl⟩ := Int.eq_ofNat_of_zero_le c.1
    have hr4 : r < 4 := by omega
    obtain ⟨e1, e2, e3⟩ := h r hr4
    simp only [if_pos c, if_neg is1, clN (show r < 100000 by omega), if_neg (gR4' hr4), ms8 hr4, bnd1_some]
    rw [e1, inI, IJ y1 y2, bnd1_some, L2, L0, M0, M2]
    by_cases k1 : y < 0
    · rw [if_pos (c := I y < I 0) ((I_lt (by omega) (by omega) (by omega) (by omega)).mpr k1), if_neg (c := (J 0 ≤ _) ∧ _) (by rw [J_le (by omega) (by omega) (by omega) (by omega), J_le (by omega) (by omega) (by omega) (by omega)]; omega), if_pos (c := I 0 = I 0) rfl]
      exact ⟨_, rfl, rfl⟩
    rw [if_neg (c := I y < I 0) (fun q => k1 ((I_lt (by omega) (by omega) (by omega) (by omega)).mp q))]
    by_cases k2 : y ≤ 2
    · rw [if_pos (c := I y ≤ I 2) ((I_le (by omega) (by omega) (by omega) (by omega)).mpr k2), if_pos (c := (J 0 ≤ _) ∧ _) (by rw [J_le (by omega) (by omega) (by omega) (by omega), J_le (by omega) (by omega) (by omega) (by omega)]; omega), if_neg i01]
      by_cases c2 : 0 ≤ (so1 r).toInt
      · obtain ⟨N, n, len, ov', hh, hb', a', v', l', r', o', ha', hr2, a9', v9', l9', o9', o1', l1', o2', l2', n', w2, p', q1, q2, q3, q4, q5, q6, q7, q8, -, -, -⟩ := bothT hF h hr4 c2 a v l rr o ha hr tn tw ln ov0 hl hb o1 l1 a9 v9 l9 o9 om ov9 ih o2 l2 p
        rw [if_pos c2, if_pos (c := I 0 = I 0) rfl, if_pos (c := I 0 ≤ _) (by rw [← L0]; exact (I_sg _).mpr c2), q1, q2, bnd15_some, bnd10_some]
        by_cases m0 : I y = I 0
        · rw [if_pos m0, if_pos m0]
          exact ⟨_, rfl, rfl⟩
        rw [if_neg m0, if_neg m0]
        by_cases m0 : I y = 1
        · rw [if_pos m0, if_pos m0]
          exact ⟨_, rfl, rfl⟩
        rw [if_neg m0, if_neg m0]
        by_cases m0 : bo hh = I 0
        · rw [if_pos m0, if_pos m0]
          exact ⟨_, rfl, rfl⟩
        rw [if_neg m0, if_neg m0]
        exact ⟨_, rfl, rfl⟩
      · rw [if_neg c2, if_neg (c := (1 : Int32) = I 0) (by decide +kernel), if_neg (c := I 0 ≤ _) (fun q => c2 (by rw [← L0] at q; exact (I_sg _).mp q))]
        exact ⟨_, rfl, rfl⟩
    · rw [if_neg (c := I y ≤ I 2) (fun q => k2 ((I_le (by omega) (by omega) (by omega) (by omega)).mp q)), if_neg (c := (J 0 ≤ _) ∧ _) (by rw [J_le (by omega) (by omega) (by omega) (by omega), J_le (by omega) (by omega) (by omega) (by omega)]; omega), if_pos (c := I 0 = I 0) rfl]
      exact ⟨_, rfl, rfl⟩
  · simp only [if_neg c, if_pos is0]
    exact ⟨_, rfl, rfl⟩
theorem p_go (x : Int32) (num words g p : Nat → Int32) (so1 si1 so2 si2 : Nat → Int32) (pl1 pl2 : Nat → Nat → Int64) (hc1 hc2 d1 d2 : Int32) (c1 c2 : Nat → Int32) (a v l rr o ha hr ln ov0 hl hb : Int32) (o1 l1 : Nat → Int32) (a9 v9 l9 o9 om ov9 ih : Int32) (o2 l2 : Nat → Int32) (hF : FI num words g) (h : IR so1 si1 pl1 so2 si2 pl2) (hC : CI hc1 c1 hc2 c2) (hd : d2 = d1) :
    ∃ R hc' d' A V L RR O HA HR w' LN OV HL HB O1 L1 c' d9 A9 V9 L9 O9 hc9 OM OV9 IH g' p' c9 O2 L2, fX8_go x hc1 d1 a v l rr o ha hr num words ln ov0 hl hb o1 l1 so1 si1 pl1 c1 = some (R, hc', d', A, V, L, RR, O, HA, HR, w', LN, OV, HL, HB, O1, L1, c') ∧ fX9_go x d2 a9 v9 l9 o9 hc2 om ov9 ih g p c2 pl2 so2 si2 o2 l2 = some (R, d9, A9, V9, L9, O9, hc9, OM, OV9, IH, g', p', c9, O2, L2) ∧ FI num w' g' ∧ CI hc' c' hc9 c9 ∧ d9 = d' := by
  subst hd
  obtain ⟨z, rfl, z1, z2⟩ := I_ex x
  unfold fX8_go fX9_go
  rw [rw8 z1 z2, rw9 z1 z2, bnd1_some, bnd1_some]
  by_cases c : 0 ≤ z ∧ z ≤ 3
  · obtain ⟨r, rfl⟩ := Int.eq_ofNat_of_zero_le c.1
    have hr4 : r < 4 := by omega
    obtain ⟨e1, e2, e3⟩ := h r hr4
    simp only [if_pos c, if_neg is1, clN (show r < 100000 by omega), if_neg (gR4' hr4), ms8 hr4, bnd1_some]
    rw [e1]
    by_cases c2' : 0 ≤ (so1 r).toInt
    · obtain ⟨N, W, hV, hW, hn, hw, hg, hp⟩ := hF
      obtain ⟨n, len, ov', hh, hb', a', v', l', r', o', ha', hr2, a9', v9', l9', o9', o1', l1', o2', l2', w2, p', W', q1, q2, q3, q4, q5, q6, q7, q8, q9, q10, q11⟩ := bothF hV hW hn hg hw hp h hr4 c2' ln ov0 hl hb a v l rr o ha hr a9 v9 l9 o9 om ov9 ih o1 l1 o2 l2 p
      obtain ⟨g', e4, hg', hp'⟩ := lay9 g p'
      rw [if_pos c2', if_pos (c := (0 : Int32) = 0) rfl, if_pos ((I_sg _).mpr c2'), q1, q2, bnd14_some, bnd10_some, e4, bnd1_some]
      have hF' : FI num w2 g' := ⟨N, W', hV, q8, hn, q9, fun j hj => (hg' j hj).trans (hg j hj), fun k hk => (hp' k hk).trans (q10 k hk)⟩
      cases hh with
      | false =>
        rw [if_pos (show bo false = 0 from rfl), if_pos (show bo false = 0 from rfl)]
        exact ⟨_, _, _, _, _, _, _, _, _, _, _, _, _, _, _, _, _, _, _, _, _, _, _, _, _, _, _, _, _, _, _, _, rfl, rfl, hF', hC, rfl⟩
      | true =>
        rw [if_neg (show ¬ bo true = 0 by decide +kernel), if_neg (show ¬ bo true = 0 by decide +kernel), q7 rfl]
        exact ⟨_, _, _, _, _, _, _, _, _, _, _, _, _, _, _, _, _, _, _, _, _, _, _, _, _, _, _, _, _, _, _, _, rfl, rfl, hF', CI_tell .., rfl⟩
    · rw [if_neg c2', if_neg (c := (1 : Int32) = 0) (by decide), if_neg (fun q => c2' ((I_sg _).mp q))]
      exact ⟨_, _, _, _, _, _, _, _, _, _, _, _, _, _, _, _, _, _, _, _, _, _, _, _, _, _, _, _, _, _, _, _, rfl, rfl, hF, hC, rfl⟩
  · simp only [if_neg c, if_pos is0]
    exact ⟨_, _, _, _, _, _, _, _, _, _, _, _, _, _, _, _, _, _, _, _, _, _, _, _, _, _, _, _, _, _, _, _, rfl, rfl, hF, hC, rfl⟩
