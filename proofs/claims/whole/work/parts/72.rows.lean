/-! rows -/
theorem uL_s (f : Nat → Int64) (i : Nat) (v : Int64) : vp_updL f i v i = v := if_pos rfl
theorem uL_o (f : Nat → Int64) {i j : Nat} (v : Int64) (h : j ≠ i) : vp_updL f i v j = f j := if_neg h
theorem rbL8 (s z a b : Int32) : ∀ d k : Nat, k + d = 40 → ∀ (m : Nat) (pl : Nat → Int64), ∃ pl', fX4_begin_L21 s z (m + d + 1) (I k) a b pl = some pl' ∧ ∀ j, j < 40 → pl' j = if k ≤ j then 0 else pl j
  | 0, k, h, m, pl => by
    have e : k = 40 := by omega
    subst e
    rw [fX4_begin_L21, if_pos (by decide +kernel)]
    refine ⟨_, rfl, fun j hj => ?_⟩
    rw [if_neg (by omega)]
  | d + 1, k, h, m, pl => by
    have i2 : ((k : Int)).toNat = k := by omega
    have g1 : ¬ ((k : Int) < 0 ∨ 40 ≤ k) := by omega
    rw [show m + (d + 1) + 1 = (m + d + 1) + 1 by omega, fX4_begin_L21]
    simp (disch := omega) only [L0, L1, L40, I_add, I_sub, I_mul, I_neg, I_lt, I_le, I_eq, I_cl, i2]
    simp only [if_neg g1]
    rw [if_neg (by omega)]
    obtain ⟨pl', e, hj⟩ := rbL8 s z a b d (k + 1) (by omega) m (vp_updL pl k 0)
    refine ⟨pl', e, fun j hj2 => ?_⟩
    rw [hj j hj2]
    by_cases c1 : k + 1 ≤ j
    · rw [if_pos c1, if_pos (by omega)]
    · rw [if_neg c1]
      by_cases c2 : k ≤ j
      · have ej : j = k := by omega
        rw [if_pos c2, ej, uL_s]
      · rw [if_neg c2, uL_o _ _ (by omega)]
theorem rbL9 (r : Nat) (hr : r < 4) (s z : Int32) (so si : Nat → Int32) : ∀ d k : Nat, k + d = 40 → ∀ (m : Nat) (pl : Nat → Nat → Int64), ∃ pl', fX9_row_L71 (I r) s z (m + d + 1) (I k) pl so si = some pl' ∧ (∀ j, j < 40 → pl' r j = if k ≤ j then 0 else pl r j) ∧ ∀ q, q ≠ r → pl' q = pl q
  | 0, k, h, m, pl => by
    have e : k = 40 := by omega
    subst e
    rw [fX9_row_L71, if_pos (by decide +kernel)]
    refine ⟨_, rfl, fun j hj => ?_, fun q hq => rfl⟩
    rw [if_neg (by omega)]
  | d + 1, k, h, m, pl => by
    have i2 : ((k : Int)).toNat = k := by omega
    have i3 : ((r : Int)).toNat = r := by omega
    have g1 : ¬ ((k : Int) < 0 ∨ 40 ≤ k) := by omega
    have g2 : ¬ ((r : Int) < 0 ∨ 4 ≤ r) := by omega
    rw [show m + (d + 1) + 1 = (m + d + 1) + 1 by omega, fX9_row_L71]
    simp (disch := omega) only [L0, L1, L40, I_add, I_sub, I_mul, I_neg, I_lt, I_le, I_eq, I_cl, i2, i3]
    simp only [if_neg g1, if_neg g2]
    rw [if_neg (by omega)]
    obtain ⟨pl', e, hj, hq⟩ := rbL9 r hr s z so si d (k + 1) (by omega) m (va_up pl r (vp_updL (pl r) k 0))
    refine ⟨pl', e, fun j hj2 => ?_, fun q hq2 => by rw [hq q hq2, vup_o _ _ hq2]⟩
    rw [hj j hj2, vup_s]
    by_cases c1 : k + 1 ≤ j
    · rw [if_pos c1, if_pos (by omega)]
    · rw [if_neg c1]
      by_cases c2 : k ≤ j
      · have ej : j = k := by omega
        rw [if_pos c2, ej, uL_s]
      · rw [if_neg c2, uL_o _ _ (by omega)]
theorem beg4 (s z : Int32) {n : Int} (h0 : 0 ≤ n) (h1 : n ≤ 40) (a b : Int32) (pl : Nat → Int64) : ∃ pl', fX4_begin s (I n) a b pl = some (s, I n, pl') ∧ ∀ j, j < 40 → pl' j = 0 := by
  have e : (if (0 : Int32) < (if (40 : Int32) < I n then (40 : Int32) else I n) then (if (40 : Int32) < I n then (40 : Int32) else I n) else (0 : Int32)) = I n := by
    rw [L40, if_neg (c := I 40 < I n) (by rw [I_lt (by omega) (by omega) (by omega) (by omega)]; omega), L0]
    by_cases c : n = 0
    · rw [c, if_neg (by decide +kernel)]
    · rw [if_pos (by rw [I_lt (by omega) (by omega) (by omega) (by omega)]; omega)]
  unfold fX4_begin
  rw [e]
  obtain ⟨pl', e1, hj⟩ := rbL8 s (I n) s (I n) 40 0 (by omega) 99959 pl
  have e1' : fX4_begin_L21 s (I n) FUEL (0 : Int32) s (I n) pl = some pl' := by rw [L0]; exact e1
  rw [e1', bnd1_some]
  refine ⟨_, rfl, fun j hj2 => ?_⟩
  rw [hj j hj2, if_pos (by omega)]
/-- a row made anew on both sides -/
theorem IR_new {so1 si1 : Nat → Int32} {pl1 : Nat → Nat → Int64} {so2 si2 : Nat → Int32} {pl2 pl2' : Nat → Nat → Int64} (h : IR so1 si1 pl1 so2 si2 pl2) (r : Nat) (s : Int32) {n : Int} (h0 : 0 ≤ n) (h1 : n ≤ 40) (hn : s.toInt < 0 → n = 0) {p1 : Nat → Int64} (hp : ∀ j, j < 40 → pl2' r j = p1 j) (hq : ∀ q, q ≠ r → pl2' q = pl2 q) : IR (va_up so1 r s) (va_up si1 r (I n)) (va_up pl1 r p1) (upd so2 r s) (upd si2 r (I n)) pl2' := by
  intro k hk
  by_cases c : k = r
  · subst c
    rw [upd_s, upd_s, vup_s, vup_s, vup_s, IT (by omega) (by omega)]
    refine ⟨rfl, fun _ => ⟨rfl, h0, h1, fun j hj => hp j (by omega)⟩, fun q => by rw [hn q]; rfl⟩
  · rw [upd_o _ _ c, upd_o _ _ c, vup_o _ _ c, vup_o _ _ c, vup_o _ _ c, hq k c]
    exact h k hk
theorem rowJ (r : Nat) (hr : r < 4) (s n : Int) (s1 : -1 ≤ s) (s2 : s ≤ 2) (hn : 0 ≤ s → 0 ≤ n ∧ n ≤ 40) (so1 si1 so2 si2 : Nat → Int32) (pl1 pl2 : Nat → Nat → Int64) (h : IR so1 si1 pl1 so2 si2 pl2) : ∃ R so' si' pl' pl2' so2' si2', fX8_row_j42 (I r) (I s) (I n) so1 si1 pl1 = some (R, so', si', pl') ∧ fX9_row_j46 (I r) (I s) (I n) pl2 so2 si2 = some (R, pl2', so2', si2') ∧ IR so' si' pl' so2' si2' pl2' := by
  have i3 : ((r : Int)).toNat = r := by omega
  have g2 : ¬ ((r : Int) < 0 ∨ 4 ≤ r) := by omega
  unfold fX8_row_j42 fX9_row_j46 fX9_row_j67
  simp (disch := omega) only [L0, L1, I_add, I_sub, I_mul, I_neg, I_lt, I_le, I_eq, I_cl, i3]
  simp only [if_neg g2]
  by_cases c : 0 ≤ s
  · obtain ⟨n0, n1⟩ := hn c
    obtain ⟨p1, e1, q1⟩ := beg4 (I s) (I s) n0 n1 (so1 r) (si1 r) (pl1 r)
    obtain ⟨p2, e2, q2, q3⟩ := rbL9 r hr (I s) (I n) (upd so2 r (I s)) (upd si2 r (I n)) 40 0 (by omega) 99959 pl2
    have e2' : fX9_row_L71 (I r) (I s) (I n) FUEL (I 0) pl2 (upd so2 r (I s)) (upd si2 r (I n)) = some p2 := e2
    rw [if_pos c, if_pos c, e1, bnd3_some, e2', bnd1_some]
    exact ⟨_, _, _, _, _, _, _, rfl, rfl, IR_new h r _ n0 n1 (fun q => by rw [IT (by omega) (by omega)] at q; omega) (fun j hj => by rw [q2 j hj, if_pos (by omega), q1 j hj]) q3⟩
  · obtain ⟨p1, e1, q1⟩ := beg4 (I s) (I s) (n := 0) (by omega) (by omega) (so1 r) (si1 r) (pl1 r)
    obtain ⟨p2, e2, q2, q3⟩ := rbL9 r hr (I s) (I n) (upd so2 r (I s)) (upd si2 r (I 0)) 40 0 (by omega) 99959 pl2
    have e2' : fX9_row_L71 (I r) (I s) (I n) FUEL (I 0) pl2 (upd so2 r (I s)) (upd si2 r (I 0)) = some p2 := e2
    rw [if_neg c, if_neg c, e1, bnd3_some, e2', bnd1_some]
    exact ⟨_, _, _, _, _, _, _, rfl, rfl, IR_new h r _ (by omega) (by omega) (fun _ => rfl) (fun j hj => by rw [q2 j hj, if_pos (by omega), q1 j hj]) q3⟩
theorem rw8 {z : Int} (h1 : -2147483648 ≤ z) (h2 : z < 2147483648) : fX8_isRow (I z) = some (if 0 ≤ z ∧ z ≤ 3 then I 1 else I 0) := by
  rw [row8, IT h1 h2]; rfl
theorem rw9 {z : Int} (h1 : -2147483648 ≤ z) (h2 : z < 2147483648) : fX9_isRow (I z) = some (if 0 ≤ z ∧ z ≤ 3 then I 1 else I 0) := by
  rw [row9, IT h1 h2]; rfl
theorem p_row (x y z : Int32) (so1 si1 so2 si2 : Nat → Int32) (pl1 pl2 : Nat → Nat → Int64) (h : IR so1 si1 pl1 so2 si2 pl2) : ∃ R so' si' pl' pl2' so2' si2', fX8_row x y z so1 si1 pl1 = some (R, so', si', pl') ∧ fX9_row x y z pl2 so2 si2 = some (R, pl2', so2', si2') ∧ IR so' si' pl' so2' si2' pl2' := by
  obtain ⟨a, rfl, a1, a2⟩ := I_ex x
  obtain ⟨s, rfl, s1, s2⟩ := I_ex y
  obtain ⟨n, rfl, n1, n2⟩ := I_ex z
  have bad : ∃ R so' si' pl' pl2' so2' si2', some (I (-1), so1, si1, pl1) = some (R, so', si', pl') ∧ some (I (-1), pl2, so2, si2) = some (R, pl2', so2', si2') ∧ IR so' si' pl' so2' si2' pl2' := ⟨_, _, _, _, _, _, _, rfl, rfl, h⟩
  have bel : ∃ R so' si' pl' pl2' so2' si2', some ((-14 : Int32), so1, si1, pl1) = some (R, so', si', pl') ∧ some ((-14 : Int32), pl2, so2, si2) = some (R, pl2', so2', si2') ∧ IR so' si' pl' so2' si2' pl2' := ⟨_, _, _, _, _, _, _, rfl, rfl, h⟩
  unfold fX8_row fX9_row fX8_row_j31 fX9_row_j35
  rw [rw8 a1 a2, rw9 a1 a2, bnd1_some, bnd1_some, inI, IJ s1 s2, bnd1_some]
  simp (disch := omega) only [L0, L1, L2, L40, M1, M2, I_neg, J_neg, J_le, b0, I_lt, I_le]
  by_cases c1 : 0 ≤ a ∧ a ≤ 3
  · obtain ⟨r, rfl⟩ := Int.eq_ofNat_of_zero_le c1.1
    rw [if_neg (by omega), if_neg (c := ¬ (0 ≤ (r : Int) ∧ (r : Int) ≤ 3)) (by omega)]
    by_cases c2 : s < -1
    · rw [if_pos c2, if_pos (by omega)]; exact bad
    rw [if_neg c2]
    by_cases c3 : s ≤ 2
    · rw [if_pos c3, if_neg (c := ¬ (-1 ≤ s ∧ s ≤ 2)) (by omega)]
      by_cases c4 : s < 0
      · simp only [if_pos c4]
        exact rowJ r (by omega) s n (by omega) c3 (fun q => by omega) _ _ _ _ _ _ h
      · simp only [if_neg c4]
        by_cases c5 : n ≤ 40
        · simp only [if_pos c5]
          by_cases c6 : 0 ≤ n
          · simp only [if_pos c6]
            exact rowJ r (by omega) s n (by omega) c3 (fun q => ⟨c6, c5⟩) _ _ _ _ _ _ h
          · simp only [if_neg c6]; exact bel
        · simp only [if_neg c5]; exact bad
    · rw [if_neg c3, if_pos (by omega)]; exact bad
  · rw [if_pos c1, if_pos c1]; exact bad
