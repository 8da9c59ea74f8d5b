/-! put, copy -/
def cuv (s : Int32) (v : Int64) : Int64 := if s = 0 then (v.toInt32.toInt8.toInt32).toInt64 else if s = 1 then v.toInt32.toInt64 else v
theorem sto8 (s n : Int32) (v : Int64) (pl : Nat → Int64) (i : Nat) (hi : (i : Int) < n.toInt) (hn : n.toInt ≤ 40) : fX4_store (I i) v s n pl = some (vp_updL pl i (cuv s v)) := by
  have i3 : ((i : Int)).toNat = i := by omega
  have g2 : ¬ (I i < 0 ∨ 40 ≤ (I i).toNatClampNeg) := by
    rw [L0, I_lt (by omega) (by omega) (by omega) (by omega), I_cl (by omega) (by omega)]; omega
  unfold fX4_store cuv
  rw [has8 _ _ hn, bnd1_some, IT (by omega) (by omega), if_pos (c := _ ∧ _) (by omega), if_neg (c := (1 : Int32) = 0) (by decide)]
  simp only [if_neg g2]
  rw [I_cl (by omega) (by omega), i3]
  by_cases c : s = 0
  · simp only [if_pos c]
  · simp only [if_neg c]
    by_cases c1 : s = 1
    · simp only [if_pos c1]
    · simp only [if_neg c1]
theorem cut9 (s : Int32) (v : Int64) : fX9_cutTo s v = some (cuv s v) := by
  unfold fX9_cutTo cuv
  by_cases c : s = 0
  · simp only [if_pos c]
  · simp only [if_neg c]
    by_cases c1 : s = 1
    · simp only [if_pos c1]
    · simp only [if_neg c1]
theorem gR4 {r : Nat} (hr : r < 4) : ¬ (I r < 0 ∨ 4 ≤ (I r).toNatClampNeg) := by
  rw [L0, I_lt (by omega) (by omega) (by omega) (by omega), I_cl (by omega) (by omega)]; omega
theorem gR4' {r : Nat} (hr : r < 4) : ¬ (I r < 0 ∨ 4 ≤ r) := by
  rw [L0, I_lt (by omega) (by omega) (by omega) (by omega)]; omega
theorem clN {r : Nat} (hr : r < 100000) : (I r).toNatClampNeg = r := by
  rw [I_cl (by omega) (by omega)]; omega
theorem ms8 {r : Nat} (hr : r < 4) (so : Nat → Int32) : fX8_isMissing (I r) so = some (if 0 ≤ (so r).toInt then (0 : Int32) else 1) := by
  have h := miss8 (I r) so (by rw [IT (by omega) (by omega)]; omega)
  rwa [clN (by omega)] at h
theorem I_sg (x : Int32) : 0 ≤ x ↔ 0 ≤ x.toInt := by rw [Int32.le_iff_toInt_le]; rfl
theorem I_ng (x : Int32) : x < 0 ↔ x.toInt < 0 := by rw [Int32.lt_iff_toInt_lt]; rfl
theorem p_put (x y : Int32) (v : Int64) (so1 si1 so2 si2 : Nat → Int32) (pl1 pl2 : Nat → Nat → Int64) (h : IR so1 si1 pl1 so2 si2 pl2) : ∃ R pl' pl2', fX8_put x y v so1 si1 pl1 = some (R, pl') ∧ fX9_put x y v pl2 so2 si2 = some (R, pl2') ∧ IR so1 si1 pl' so2 si2 pl2' := by
  obtain ⟨a, rfl, a1, a2⟩ := I_ex x
  obtain ⟨i, rfl, i1, i2⟩ := I_ex y
  unfold fX8_put fX9_put
  rw [rw8 a1 a2, rw9 a1 a2, bnd1_some, bnd1_some]
  by_cases c1 : 0 ≤ a ∧ a ≤ 3
  · obtain ⟨r, rfl⟩ := Int.eq_ofNat_of_zero_le c1.1
    have hr : r < 4 := by omega
    obtain ⟨e1, e2, e3⟩ := h r hr
    simp only [if_pos c1, if_neg (show ¬ I 1 = 0 by decide +kernel), ms8 hr, clN (show r < 100000 by omega), bnd1_some, if_neg (gR4' hr)]
    rw [e1]
    by_cases c2 : 0 ≤ (so1 r).toInt
    · obtain ⟨f1, f2, f3, f4⟩ := e2 c2
      obtain ⟨S, eS, S1, S2⟩ := I_ex (si1 r)
      have f3' := f3
      rw [eS, IT S1 S2] at f2 f3
      rw [if_pos c2, if_pos (c := (0 : Int32) = 0) rfl, if_pos ((I_sg _).mpr c2), has8 _ _ f3', bnd1_some, IT i1 i2, inI, IJ i1 i2, f1, eS, IT S1 S2, L1, I_sub, IJ (by omega) (by omega), bnd1_some]
      by_cases c3 : 0 ≤ i ∧ i < S
      · obtain ⟨i, rfl⟩ := Int.eq_ofNat_of_zero_le c3.1
        have i3 : ((i : Int)).toNat = i := by omega
        have g2 : ¬ (I i < 0 ∨ 40 ≤ (I i).toNatClampNeg) := by
          rw [L0, I_lt (by omega) (by omega) (by omega) (by omega), I_cl (by omega) (by omega)]; omega
        rw [if_pos c3, if_neg (c := I 1 = 0) (by decide +kernel), sto8 _ _ _ _ _ (by rw [IT S1 S2]; exact c3.2) (by rw [IT S1 S2]; exact f3), bnd1_some, if_pos (c := (_ ≤ _) ∧ _) ⟨by rw [M0, J_le (by omega) (by omega) (by omega) (by omega)]; omega, by rw [J_le (by omega) (by omega) (by omega) (by omega)]; omega⟩, if_neg (c := I 1 = 0) (by decide +kernel), cut9, bnd1_some, if_neg g2, clN (by omega)]
        refine ⟨_, _, _, rfl, rfl, fun k hk => ?_⟩
        by_cases q : k = r
        · subst q
          rw [vup_s, vup_s]
          refine ⟨e1, fun _ => ⟨f1, by rw [eS, IT S1 S2]; exact f2, f3', fun j hj => ?_⟩, e3⟩
          by_cases q2 : j = i
          · rw [q2, uL_s, uL_s]
          · rw [uL_o _ _ q2, uL_o _ _ q2]; exact f4 j hj
        · rw [vup_o _ _ q, vup_o _ _ q]
          exact h k hk
      · rw [if_neg c3, if_pos (c := (0 : Int32) = 0) rfl, if_neg (c := (_ ≤ _) ∧ _) (fun q => c3 ⟨by have := q.1; rw [M0, J_le (by omega) (by omega) (by omega) (by omega)] at this; omega, by have := q.2; rw [J_le (by omega) (by omega) (by omega) (by omega)] at this; omega⟩), if_pos (c := I 0 = 0) rfl]
        exact ⟨_, _, _, rfl, rfl, h⟩
    · rw [if_neg c2, if_neg (c := (1 : Int32) = 0) (by decide), if_neg (fun q => c2 ((I_sg _).mp q))]
      exact ⟨_, _, _, rfl, rfl, h⟩
  · rw [if_neg c1, if_pos (c := I 0 = 0) rfl, if_pos (c := I 0 = 0) rfl]
    exact ⟨_, _, _, rfl, rfl, h⟩
theorem cpA9 (r r2 n : Nat) (hr : r < 4) (hn : n ≤ 40) (i j : Nat) (hi : i + n ≤ 40) (so si : Nat → Int32) (pl : Nat → Nat → Int64) : ∀ d k : Nat, k + d = n → ∀ (m : Nat) (mv : Nat → Int64), ∃ mv', fX9_copy_L102 (I r) (I i) (I r2) (I j) (I n) so si (m + d + 1) (I k) pl mv = some mv' ∧ ∀ q, q < n → mv' q = if k ≤ q then pl r (i + q) else mv q
  | 0, k, h, m, mv => by
    have e : k = n := by omega
    subst e
    rw [fX9_copy_L102, if_pos (by rw [I_le (by omega) (by omega) (by omega) (by omega)]; omega)]
    refine ⟨_, rfl, fun q hq => ?_⟩
    rw [if_neg (by omega)]
  | d + 1, k, h, m, mv => by
    have i2 : ((k : Int)).toNat = k := by omega
    have i3 : ((r : Int)).toNat = r := by omega
    have i4 : ((i : Int) + (k : Int)).toNat = i + k := by omega
    have g1 : ¬ ((k : Int) < 0 ∨ 40 ≤ k) := by omega
    have g2 : ¬ ((r : Int) < 0 ∨ 4 ≤ r) := by omega
    have g3 : ¬ ((i : Int) + (k : Int) < 0 ∨ 40 ≤ i + k) := by omega
    rw [show m + (d + 1) + 1 = (m + d + 1) + 1 by omega, fX9_copy_L102]
    simp (disch := omega) only [L0, L1, L40, I_add, I_sub, I_mul, I_neg, I_lt, I_le, I_eq, I_cl, i2, i3, i4]
    simp only [if_neg g1, if_neg g2, if_neg g3]
    rw [if_neg (by omega)]
    obtain ⟨mv', e, hj⟩ := cpA9 r r2 n hr hn i j hi so si pl d (k + 1) (by omega) m (vp_updL mv k (pl r (i + k)))
    refine ⟨mv', e, fun q hq => ?_⟩
    rw [hj q hq]
    by_cases c1 : k + 1 ≤ q
    · rw [if_pos c1, if_pos (by omega)]
    · rw [if_neg c1]
      by_cases c2 : k ≤ q
      · have ej : q = k := by omega
        rw [if_pos c2, ej, uL_s]
      · rw [if_neg c2, uL_o _ _ (by omega)]
theorem cpB9 (r r2 n : Nat) (hr : r2 < 4) (hn : n ≤ 40) (i j : Nat) (hj0 : j + n ≤ 40) (so si : Nat → Int32) (mv : Nat → Int64) : ∀ d k : Nat, k + d = n → ∀ (m : Nat) (pl : Nat → Nat → Int64), ∃ pl', fX9_copy_L136 (I r) (I i) (I r2) (I j) (I n) so si (m + d + 1) (I k) pl mv = some pl' ∧ (∀ q, pl' r2 q = if j + k ≤ q ∧ q < j + n then mv (q - j) else pl r2 q) ∧ ∀ q, q ≠ r2 → pl' q = pl q
  | 0, k, h, m, pl => by
    have e : k = n := by omega
    subst e
    rw [fX9_copy_L136, if_pos (by rw [I_le (by omega) (by omega) (by omega) (by omega)]; omega)]
    refine ⟨_, rfl, fun q => ?_, fun q hq => rfl⟩
    rw [if_neg (by omega)]
  | d + 1, k, h, m, pl => by
    have i2 : ((k : Int)).toNat = k := by omega
    have i3 : ((r2 : Int)).toNat = r2 := by omega
    have i4 : ((j : Int) + (k : Int)).toNat = j + k := by omega
    have g1 : ¬ ((k : Int) < 0 ∨ 40 ≤ k) := by omega
    have g2 : ¬ ((r2 : Int) < 0 ∨ 4 ≤ r2) := by omega
    have g3 : ¬ ((j : Int) + (k : Int) < 0 ∨ 40 ≤ j + k) := by omega
    rw [show m + (d + 1) + 1 = (m + d + 1) + 1 by omega, fX9_copy_L136]
    simp (disch := omega) only [L0, L1, L40, I_add, I_sub, I_mul, I_neg, I_lt, I_le, I_eq, I_cl, i2, i3, i4]
    simp only [if_neg g1, if_neg g2, if_neg g3]
    rw [if_neg (by omega)]
    obtain ⟨pl', e, hj, hq⟩ := cpB9 r r2 n hr hn i j hj0 so si mv d (k + 1) (by omega) m (va_up pl r2 (vp_updL (pl r2) (j + k) (mv k)))
    refine ⟨pl', e, fun q => ?_, fun q hq2 => by rw [hq q hq2, vup_o _ _ hq2]⟩
    rw [hj q, vup_s]
    by_cases c1 : j + (k + 1) ≤ q ∧ q < j + n
    · rw [if_pos c1, if_pos (by omega)]
    · rw [if_neg c1]
      by_cases c2 : j + k ≤ q ∧ q < j + n
      · have ej : q = j + k := by omega
        rw [if_pos c2, ej, uL_s]
        congr 1; omega
      · rw [if_neg c2, uL_o _ _ (by omega)]
theorem p_copy (x1 x2 x3 x4 x5 : Int32) (so1 si1 so2 si2 : Nat → Int32) (pl1 pl2 : Nat → Nat → Int64) (mv : Nat → Int64) (h : IR so1 si1 pl1 so2 si2 pl2) : ∃ R pl' pl2' mv', fX8_copy x1 x2 x3 x4 x5 so1 si1 pl1 = some (R, pl') ∧ fX9_copy x1 x2 x3 x4 x5 pl2 so2 si2 mv = some (R, pl2', mv') ∧ IR so1 si1 pl' so2 si2 pl2' := by
  obtain ⟨a, rfl, a1, a2⟩ := I_ex x1
  obtain ⟨i, rfl, i1, i2⟩ := I_ex x2
  obtain ⟨b, rfl, b1, b2⟩ := I_ex x3
  obtain ⟨j, rfl, j1, j2⟩ := I_ex x4
  obtain ⟨n, rfl, n1, n2⟩ := I_ex x5
  have all : ∀ q : Int32, ∃ R pl' pl2' mv', some (q, pl1) = some (R, pl') ∧ some (q, pl2, mv) = some (R, pl2', mv') ∧ IR so1 si1 pl' so2 si2 pl2' := fun q => ⟨_, _, _, _, rfl, rfl, h⟩
  unfold fX8_copy fX9_copy
  rw [rw8 a1 a2, rw9 a1 a2, rw8 b1 b2, rw9 b1 b2]
  simp only [bnd1_some]
  by_cases c1 : 0 ≤ a ∧ a ≤ 3
  · by_cases c2 : 0 ≤ b ∧ b ≤ 3
    · obtain ⟨r, rfl⟩ := Int.eq_ofNat_of_zero_le c1.1
      obtain ⟨t, rfl⟩ := Int.eq_ofNat_of_zero_le c2.1
      have hr : r < 4 := by omega
      have ht : t < 4 := by omega
      obtain ⟨e1, e2, e3⟩ := h r hr
      obtain ⟨f1, f2, f3⟩ := h t ht
      simp only [if_pos c1, if_pos c2, if_neg (show ¬ I 1 = 0 by decide +kernel), clN (show r < 100000 by omega), clN (show t < 100000 by omega), if_neg (gR4' hr), if_neg (gR4' ht)]
      rw [e1, f1]
      by_cases c3 : so1 r < 0
      · simp only [if_pos c3]; exact all _
      simp only [if_neg c3]
      by_cases c4 : 0 ≤ so1 t
      · have c3' : 0 ≤ (so1 r).toInt := by rw [I_ng] at c3; omega
        obtain ⟨p1, p2, p3, p4⟩ := e2 c3'
        obtain ⟨q1, q2, q3, q4⟩ := f2 ((I_sg _).mp c4)
        simp only [if_pos c4]
        by_cases c5 : so1 r = so1 t
        · simp only [if_pos c5]
          obtain ⟨S, eS, S1, S2⟩ := I_ex (si1 r)
          obtain ⟨T, eT, T1, T2⟩ := I_ex (si1 t)
          have q3' := q3
          have q2' := q2
          rw [eS, IT S1 S2] at p2 p3 p4
          rw [eT, IT T1 T2] at q2 q3 q4
          rw [p1, q1, eS, eT]
          simp (maxSteps := 3000000) (disch := omega) only [L0, I_sub, I_lt, I_le]
          by_cases k1 : n < 0
          · simp only [if_pos k1]; exact all _
          simp only [if_neg k1]
          by_cases k2 : i < 0
          · simp only [if_pos k2]; exact all _
          simp only [if_neg k2]
          by_cases k3 : j < 0
          · simp only [if_pos k3]; exact all _
          simp only [if_neg k3]
          by_cases k4 : S - i < n
          · rw [if_pos k4]
            by_cases k5 : S < n
            · rw [if_pos k5]; exact all _
            · rw [if_neg k5, if_pos (by omega)]; exact all _
          · rw [if_neg k4, if_neg (by omega), if_neg (by omega)]
            by_cases k6 : n ≤ T - j
            · rw [if_pos k6, if_neg (by omega), if_pos (by omega)]
              obtain ⟨i, rfl⟩ := Int.eq_ofNat_of_zero_le (show 0 ≤ i by omega)
              obtain ⟨j, rfl⟩ := Int.eq_ofNat_of_zero_le (show 0 ≤ j by omega)
              obtain ⟨n, rfl⟩ := Int.eq_ofNat_of_zero_le (show 0 ≤ n by omega)
              rw [clN (by omega), clN (by omega), clN (by omega), if_neg (by omega)]
              obtain ⟨mv', m1, m2⟩ := cpA9 r t n hr (by omega) i j (by omega) so2 si2 pl2 n 0 (by omega) (99999 - n) mv
              obtain ⟨pl', o1, o2, o3⟩ := cpB9 r t n ht (by omega) i j (by omega) so2 si2 mv' n 0 (by omega) (99999 - n) pl2
              have fe : FUEL = 99999 - n + n + 1 := by show 100000 = _; omega
              rw [fe, show I (0 : Int) = I ((0 : Nat) : Int) from rfl, m1, bnd1_some, o1, bnd1_some]
              refine ⟨_, _, _, _, rfl, rfl, fun k hk => ?_⟩
              by_cases q : k = t
              · subst q
                rw [vup_s]
                refine ⟨f1, fun _ => ⟨q1, q2', q3', fun jj hj => ?_⟩, f3⟩
                rw [eT, IT T1 T2] at hj
                rw [o2 jj]
                unfold va_cpy
                by_cases w : j ≤ jj ∧ jj < j + n
                · rw [if_pos w, if_pos (by omega), m2 _ (by omega), if_pos (by omega)]
                  exact p4 _ (by omega)
                · rw [if_neg w, if_neg (by omega)]
                  exact q4 _ hj
              · rw [vup_o _ _ q, o3 k q]
                exact h k hk
            · rw [if_neg k6]
              by_cases k5 : T < n
              · rw [if_pos k5]; exact all _
              · rw [if_neg k5, if_neg (by omega)]; exact all _
        · simp only [if_neg c5]; exact all _
      · simp only [if_neg c4]; exact all _
    · simp only [if_pos c1, if_neg c2, if_neg (show ¬ I 1 = 0 by decide +kernel), if_pos (show I 0 = 0 from rfl)]; exact all _
  · simp only [if_neg c1, if_pos (show I 0 = 0 from rfl)]; exact all _
