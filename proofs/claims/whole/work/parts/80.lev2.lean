theorem fnd9 {N : Nat → Int} {len : Nat} (hl : len ≤ 40) {o1 l1 o2 l2 : Nat → Int32} (hO : OK2 N len o1 l1 o2 l2) {x1 : Int32} {a v l o om ov hh a' v' l' o' ov' hh' lm : Int32} {g p p' oo ll lof ofn : Nat → Int32} {pl : Nat → Nat → Int64} {si : Nat → Int32} (hr : fX9_runs x1 a v l o om ov hh g p pl si oo ll = some (a', v', l', o', I len, ov', hh', p', o2, l2)) : ∃ lof' ofn', fX9_findLevels x1 a v l o om ov hh lm g p pl si oo ll lof ofn = some (a', v', l', o', I len, ov', hh', I (fb_ct (fs l1) len), p', o2, l2, lof', ofn') ∧ LV l1 lof' ofn' len := by
  unfold fX9_findLevels
  obtain ⟨lof', ofn', e, hV⟩ := lev9L l1 l2 len hl (fun j hj => by obtain ⟨z, w, -, -, e3, e4, -⟩ := hO j hj; rw [e3, e4]) x1 g p' o2 pl si a' v' l' o' ov' hh' len 0 (by omega) (99999 - len) lof ofn (fun j hj => absurd hj (by omega))
  rw [show 99999 - len + len + 1 = FUEL by show _ = 100000; omega, show I ((0 : Nat) : Int) = 0 from rfl, show I (fb_ct (fs l1) 0 : Nat) = 0 from rfl] at e
  rw [hr, bnd10_some, e, bnd3_some]
  exact ⟨_, _, rfl, hV⟩
theorem hml8 (L : Nat → Int32) (len : Nat) (hl : len ≤ 40) : fX2_howManyLevels (I len) L = some (I (fb_ct (fs L) len)) := by
  unfold fX2_howManyLevels
  have h := hml8L L len hl len 0 (by omega) (99999 - len)
  rw [show 99999 - len + len + 1 = FUEL by show _ = 100000; omega, show I ((0 : Nat) : Int) = 0 from rfl, show I (fb_ct (fs L) 0 : Nat) = 0 from rfl] at h
  rw [h, bnd1_some]
theorem p_levels (x : Int32) (num words g tn tw p : Nat → Int32) (so1 si1 so2 si2 : Nat → Int32) (pl1 pl2 : Nat → Nat → Int64) (a v l rr o ha hr ln ov0 hl hb : Int32) (o1 l1 : Nat → Int32) (a9 v9 l9 o9 om ov9 ih lm : Int32) (o2 l2 lof ofn : Nat → Int32) (hF : FI num words g) (h : IR so1 si1 pl1 so2 si2 pl2) :
    ∃ r, (fX8_levels x num words a v l rr o ha hr tn tw ln ov0 hl hb o1 l1 so1 si1 pl1).map Prod.fst = some r ∧ (fX9_levels x a9 v9 l9 o9 om ov9 ih lm g p pl2 so2 si2 o2 l2 lof ofn).map Prod.fst = some r := by
  obtain ⟨z, rfl, z1, z2⟩ := I_ex x
  unfold fX8_levels fX9_levels
  rw [rw8 z1 z2, rw9 z1 z2, bnd1_some, bnd1_some]
  by_cases c : 0 ≤ z ∧ z ≤ 3
  · obtain ⟨r, rfl⟩ := Int.eq_ofNat_of_zero_le c.1
    have hr4 : r < 4 := by omega
    obtain ⟨e1, e2, e3⟩ := h r hr4
    simp only [if_pos c, if_neg is1, clN (show r < 100000 by omega), if_neg (gR4' hr4), ms8 hr4, bnd1_some]
    rw [e1]
    by_cases c2 : 0 ≤ (so1 r).toInt
    · obtain ⟨N, n, len, ov', hh, hb', a', v', l', r', o', ha', hr2, a9', v9', l9', o9', o1', l1', o2', l2', n', w2, p', q1, q2, q3, q4, q5, q6, q7, q8, -, -, -⟩ := bothT hF h hr4 c2 a v l rr o ha hr tn tw ln ov0 hl hb o1 l1 a9 v9 l9 o9 om ov9 ih o2 l2 p
      obtain ⟨lof', ofn', f1, f2⟩ := fnd9 (lm := lm) (lof := lof) (ofn := ofn) (by omega) q8 q2
      rw [if_pos c2, if_pos (c := (0 : Int32) = 0) rfl, if_pos ((I_sg _).mpr c2), q1, bnd15_some, hml8 _ _ (by omega), bnd1_some, f1, bnd13_some]
      exact ⟨_, rfl, rfl⟩
    · rw [if_neg c2, if_neg (c := (1 : Int32) = 0) (by decide), if_neg (fun q => c2 ((I_sg _).mp q))]
      exact ⟨_, rfl, rfl⟩
  · simp only [if_neg c, if_pos is0]
    exact ⟨_, rfl, rfl⟩
theorem what3 {α : Type} (w : Int) (w1 : -2147483648 ≤ w) (w2 : w < 2147483648) (A B : α) : (if I w < 0 then A else if (2 : Int32) < I w then A else B) = if 0 ≤ w ∧ w ≤ 2 then B else A := by
  rw [L0, L2]
  by_cases c : w < 0
  · rw [if_pos ((I_lt (by omega) (by omega) (by omega) (by omega)).mpr c), if_neg (by omega)]
  · rw [if_neg (fun q => c ((I_lt (by omega) (by omega) (by omega) (by omega)).mp q))]
    by_cases c2 : 2 < w
    · rw [if_pos ((I_lt (by omega) (by omega) (by omega) (by omega)).mpr c2), if_neg (by omega)]
    · rw [if_neg (fun q => c2 ((I_lt (by omega) (by omega) (by omega) (by omega)).mp q)), if_pos (by omega)]
theorem inR9 (w a b : Int) (w1 : -2147483648 ≤ w) (w2 : w < 2147483648) (a1 : -2147483648 ≤ a) (a2 : a < 2147483648) (b1 : -2147483648 ≤ b) (b2 : b < 2147483648) : fX9_in (I w).toInt64 (J a) (J b) = some (if a ≤ w ∧ w ≤ b then I 1 else I 0) := by
  rw [inI, IJ w1 w2]
  simp (disch := omega) only [J_le]
theorem p_level (x y w : Int32) (num words g tn tw p : Nat → Int32) (so1 si1 so2 si2 : Nat → Int32) (pl1 pl2 : Nat → Nat → Int64) (a v l rr o ha hr ln ov0 hl hb : Int32) (o1 l1 : Nat → Int32) (a9 v9 l9 o9 om ov9 ih lm : Int32) (o2 l2 lof ofn : Nat → Int32) (hF : FI num words g) (h : IR so1 si1 pl1 so2 si2 pl2) :
    ∃ r, (fX8_level x y w num words a v l rr o ha hr tn tw ln ov0 hl hb o1 l1 so1 si1 pl1).map Prod.fst = some r ∧ (fX9_level x y w a9 v9 l9 o9 om ov9 ih lm g p pl2 so2 si2 o2 l2 lof ofn).map Prod.fst = some r := by
  obtain ⟨z, rfl, z1, z2⟩ := I_ex x
  obtain ⟨y, rfl, y1, y2⟩ := I_ex y
  obtain ⟨w, rfl, w1, w2⟩ := I_ex w
  unfold fX8_level fX9_level
  rw [rw8 z1 z2, thr9 z1 z2, what3 w w1 w2, M0, M2, inR9 w 0 2 w1 w2 (by omega) (by omega) (by omega) (by omega)]
  simp only [bnd1_some]
  by_cases c : 0 ≤ z ∧ z ≤ 3
  · obtain ⟨r, rfl⟩ := Int.eq_ofNat_of_zero_le c.1
    have hr4 : r < 4 := by omega
    have i2 : ((r : Int)).toNat = r := by omega
    obtain ⟨e1, e2, e3⟩ := h r hr4
    rw [i2, e1, ms8 hr4]
    simp only [bnd1_some]
    by_cases cw : 0 ≤ w ∧ w ≤ 2
    · by_cases c2 : 0 ≤ (so1 r).toInt
      · obtain ⟨N, n, len, ov', hh, hb', a', v', l', r', o', ha', hr2, a9', v9', l9', o9', o1', l1', o2', l2', n', w2, p', q1, q2, q3, q4, q5, q6, q7, q8, hV, hn, hg⟩ := bothT hF h hr4 c2 a v l rr o ha hr tn tw ln ov0 hl hb o1 l1 a9 v9 l9 o9 om ov9 ih o2 l2 p
        obtain ⟨lof', ofn', f1, f2⟩ := fnd9 (lm := lm) (lof := lof) (ofn := ofn) (by omega) q8 q2
        have hct := fb_ct_le (fs l1') len
        rw [if_pos c, if_neg is1, if_pos cw, if_pos c2, if_pos (c := (0 : Int32) = 0) rfl, if_pos (c := _ ∧ _) ⟨c, c2⟩, if_neg (c := (1 : Int32) = 0) (by decide), if_pos cw, if_neg is1, q1, bnd15_some, f1, bnd13_some, L1, I_sub, IJ (z := (fb_ct (fs l1') len : Int) - 1) (by omega) (by omega), inR9 y 0 _ y1 y2 (by omega) (by omega) (by omega) (by omega), bnd1_some]
        rcases pol8 l1' len (by omega) y y1 y2 with ⟨j, j1, j2, j3, j4⟩ | ⟨j1, j2⟩
        · have hlt := ct_lt j1 j2
          have gj : ¬ (I j < 0 ∨ 40 ≤ j) := by rw [L0, I_lt (by omega) (by omega) (by omega) (by omega)]; omega
          have gj0 : ¬ (I j < 0) := fun q => gj (Or.inl q)
          have gj4 : I j < (40 : Int32) := by rw [L40, I_lt (by omega) (by omega) (by omega) (by omega)]; omega
          have ey : I y = I (fb_ct (fs l1') j : Nat) := by rw [← j3]
          have gy : ¬ (I (fb_ct (fs l1') j : Nat) < 0 ∨ 40 ≤ fb_ct (fs l1') j) := by rw [L0, I_lt (by omega) (by omega) (by omega) (by omega)]; omega
          obtain ⟨lv1, lv2⟩ := f2 j j1 j2
          rw [j4, bnd1_some, if_neg gj0, if_pos gj4, clN (by omega), if_neg gj, if_pos (c := _ ∧ _) (by omega), if_neg is1, ey, clN (by omega)]
          simp only [if_neg gy]
          by_cases k2 : I w = (2 : Int32)
          · rw [if_pos k2, if_pos k2, hof8 _ _ _ (by omega), bnd1_some, lv2]
            exact ⟨_, rfl, rfl⟩
          · obtain ⟨s, s6, es, u1, u2⟩ := uni8 hV hn
            obtain ⟨zz, lz, -, -, h3, -, -, b1, b2⟩ := q8 j j1
            obtain ⟨v1, v2⟩ := low (a := lz) (m := s) (by omega) (by omega) (by omega) (I w)
            rw [if_neg k2, if_neg k2, u1, bnd1_some, u2, uni9 hg s6 es, lv1, h3, IJ (by omega) (by omega), v1, v2, bnd1_some, bnd1_some]
            exact ⟨_, rfl, rfl⟩
        · have hno : ¬ (0 ≤ y ∧ y ≤ (fb_ct (fs l1') len : Int) - 1) := by
            rintro ⟨k1, k2⟩
            obtain ⟨y, rfl⟩ := Int.eq_ofNat_of_zero_le k1
            obtain ⟨i, i1, i2, i3⟩ := fb_ct_kth (p := fs l1') (k := y) (n := len) (by omega)
            exact j1 i i1 i2 (by rw [i3])
          rw [j2, bnd1_some, if_pos (c := (-1 : Int32) < 0) (by decide), if_neg hno, if_pos is0]
          exact ⟨_, rfl, rfl⟩
      · rw [if_pos c, if_neg is1, if_pos cw, if_neg c2, if_neg (c := (1 : Int32) = 0) (by decide), if_neg (c := _ ∧ _) (fun q => c2 q.2), if_pos (c := (0 : Int32) = 0) rfl]
        exact ⟨_, rfl, rfl⟩
    · rw [if_pos c, if_neg is1, if_neg cw, if_neg cw, if_pos is0]
      by_cases c2 : 0 ≤ (so1 r).toInt
      · rw [if_pos (c := _ ∧ _) ⟨c, c2⟩, if_neg (c := (1 : Int32) = 0) (by decide)]
        exact ⟨_, rfl, rfl⟩
      · rw [if_neg (c := _ ∧ _) (fun q => c2 q.2), if_pos (c := (0 : Int32) = 0) rfl]
        exact ⟨_, rfl, rfl⟩
  · rw [if_neg c, if_pos is0, if_neg (c := _ ∧ _) (fun q => c q.1), if_pos (c := (0 : Int32) = 0) rfl]
    exact ⟨_, rfl, rfl⟩
