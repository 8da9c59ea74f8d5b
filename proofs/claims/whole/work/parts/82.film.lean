/-! film, judge -/
theorem cu32 : ∀ k : Nat, k < 32 → (I ((k : Int) - 16)).toInt64.toInt32.toInt8.toInt32.toInt64 = (I ((k : Int) - 16)).toInt64 ∧ (I ((k : Int) - 16)).toInt64.toInt32.toInt64 = (I ((k : Int) - 16)).toInt64 := by decide +kernel
theorem cuW (s : Int32) {z : Int} (h1 : -16 ≤ z) (h2 : z < 16) : cuv s (I z).toInt64 = (I z).toInt64 := by
  obtain ⟨k, hk⟩ := Int.eq_ofNat_of_zero_le (show 0 ≤ z + 16 by omega)
  have e : z = (k : Int) - 16 := by omega
  obtain ⟨a, b⟩ := cu32 k (by omega)
  rw [← e] at a b
  unfold cuv
  by_cases c : s = 0
  · rw [if_pos c, a]
  · rw [if_neg c]
    by_cases c1 : s = 1
    · rw [if_pos c1, b]
    · rw [if_neg c1]
theorem flm {N : Nat → Int} (hV : Vl N) {len : Nat} (hl : len ≤ 40) {o1 l1 o2 l2 : Nat → Int32} (hO : OK2 N len o1 l1 o2 l2) (r : Nat) (hr : r < 4) (x2 x3 : Int32) (num words : Nat → Int32) (a v l rr o ha hr' : Int32) (tn tw : Nat → Int32) (ov hh hb : Int32) (so1 si1 : Nat → Int32) (hsz : si1 r = I len) (g : Nat → Int32) (a9 v9 l9 o9 ov9 hh9 : Int32) (p so2 si2 : Nat → Int32) :
    ∀ d k : Nat, k + d = len → ∀ (m1 m2 : Nat) (pl1 pl2 : Nat → Nat → Int64), (∀ j : Nat, j < len → pl2 r j = pl1 r j) → ∃ pl1' pl2', fX8_film_L61 (I r) x2 x3 num words (m1 + d + 1) (I k) a v l rr o ha hr' tn tw (I len) ov hh hb o1 l1 so1 si1 pl1 = some pl1' ∧ fX9_film_L59 (I r) x2 x3 g (m2 + d + 1) (I k) a9 v9 l9 o9 (I len) ov9 hh9 p pl2 so2 si2 o2 l2 = some pl2' ∧ (∀ j : Nat, j < len → pl2' r j = pl1' r j) ∧ ∀ q, q ≠ r → pl1' q = pl1 q ∧ pl2' q = pl2 q
  | 0, k, h, m1, m2, pl1, pl2, hp => by
    have e : k = len := by omega
    subst e
    have q : I k ≤ I k := by rw [I_le (by omega) (by omega) (by omega) (by omega)]; omega
    rw [fX8_film_L61, fX9_film_L59, if_pos q, if_pos q]
    exact ⟨_, _, rfl, rfl, hp, fun _ _ => ⟨rfl, rfl⟩⟩
  | d + 1, k, h, m1, m2, pl1, pl2, hp => by
    have g1 : ¬ (I k < 0 ∨ 40 ≤ k) := by
      rw [L0, I_lt (by omega) (by omega) (by omega) (by omega)]; omega
    have ne1 : ¬ (I len ≤ I k) := by rw [I_le (by omega) (by omega) (by omega) (by omega)]; omega
    have ne2 : ¬ ((40 : Int32) ≤ I k) := by rw [L40, I_le (by omega) (by omega) (by omega) (by omega)]; omega
    obtain ⟨zz, ll, e1, e2, -, -, b1, -⟩ := hO k (by omega)
    have hhf := hf_b hV
    rw [show m1 + (d + 1) + 1 = (m1 + d + 1) + 1 by omega, show m2 + (d + 1) + 1 = (m2 + d + 1) + 1 by omega, fX8_film_L61, fX9_film_L59, if_neg ne1, if_neg ne1, if_neg ne2, clN (by omega), clN (by omega)]
    simp only [if_neg g1, if_neg (gR4' hr)]
    rw [e1, e2, hsz, sto8 _ _ _ _ k (by rw [IT (by omega) (by omega)]; omega) (by rw [IT (by omega) (by omega)]; omega), bnd1_some, cuW _ (by omega) (by omega), L1, I_add]
    obtain ⟨pl1', pl2', f1, f2, f3, f4⟩ := flm hV hl hO r hr x2 x3 num words a v l rr o ha hr' tn tw ov hh hb so1 si1 hsz g a9 v9 l9 o9 ov9 hh9 p so2 si2 d (k + 1) (by omega) m1 m2 (va_up pl1 r (vp_updL (pl1 r) k (I zz).toInt64)) (va_up pl2 r (vp_updL (pl2 r) k (I zz).toInt64)) (by
      intro j hj
      rw [vup_s, vup_s]
      by_cases q : j = k
      · rw [q, uL_s, uL_s]
      · rw [uL_o _ _ q, uL_o _ _ q]; exact hp j hj)
    refine ⟨pl1', pl2', f1, f2, f3, fun q hq => ?_⟩
    obtain ⟨q1, q2⟩ := f4 q hq
    rw [q1, q2, vup_o _ _ hq, vup_o _ _ hq]
    exact ⟨rfl, rfl⟩
theorem p_film (x y w : Int32) (num words g tn tw p : Nat → Int32) (so1 si1 so2 si2 : Nat → Int32) (pl1 pl2 : Nat → Nat → Int64) (a v l rr o ha hr ln ov0 hl hb : Int32) (o1 l1 : Nat → Int32) (a9 v9 l9 o9 om ov9 ih : Int32) (o2 l2 : Nat → Int32) (hF : FI num words g) (h : IR so1 si1 pl1 so2 si2 pl2) :
    ∃ R A V L RR O HA HR tn' tw' LN OV HL HB O1 L1 so1' si1' pl1' A9 V9 L9 O9 OM OV9 IH p' pl2' so2' si2' O2 L2, fX8_film x y w num words a v l rr o ha hr tn tw ln ov0 hl hb o1 l1 so1 si1 pl1 = some (R, A, V, L, RR, O, HA, HR, tn', tw', LN, OV, HL, HB, O1, L1, so1', si1', pl1') ∧ fX9_film x y w a9 v9 l9 o9 om ov9 ih g p pl2 so2 si2 o2 l2 = some (R, A9, V9, L9, O9, OM, OV9, IH, p', pl2', so2', si2', O2, L2) ∧ IR so1' si1' pl1' so2' si2' pl2' := by
  obtain ⟨x, rfl, x1, x2⟩ := I_ex x
  obtain ⟨y, rfl, y1, y2⟩ := I_ex y
  obtain ⟨w, rfl, w1, w2⟩ := I_ex w
  unfold fX8_film fX9_film
  rw [rw8 x1 x2, rw9 x1 x2, rw8 w1 w2, rw9 w1 w2, M0, M2, inR9 y 0 2 y1 y2 (by omega) (by omega) (by omega) (by omega)]
  simp only [bnd1_some]
  have bad : ∀ q : Int32, ∃ R A V L RR O HA HR tn' tw' LN OV HL HB O1 L1 so1' si1' pl1' A9 V9 L9 O9 OM OV9 IH p' pl2' so2' si2' O2 L2, some (q, a, v, l, rr, o, ha, hr, tn, tw, ln, ov0, hl, hb, o1, l1, so1, si1, pl1) = some (R, A, V, L, RR, O, HA, HR, tn', tw', LN, OV, HL, HB, O1, L1, so1', si1', pl1') ∧ some (q, a9, v9, l9, o9, om, ov9, ih, p, pl2, so2, si2, o2, l2) = some (R, A9, V9, L9, O9, OM, OV9, IH, p', pl2', so2', si2', O2, L2) ∧ IR so1' si1' pl1' so2' si2' pl2' := fun q => ⟨_, _, _, _, _, _, _, _, _, _, _, _, _, _, _, _, _, _, _, _, _, _, _, _, _, _, _, _, _, _, _, _, rfl, rfl, h⟩
  by_cases c : 0 ≤ x ∧ x ≤ 3
  · simp only [if_pos c, if_neg is1]
    by_cases cw : 0 ≤ w ∧ w ≤ 3
    · simp only [if_pos cw, if_neg is1]
      by_cases cy : 0 ≤ y ∧ y ≤ 2
      · obtain ⟨r, rfl⟩ := Int.eq_ofNat_of_zero_le c.1
        obtain ⟨q, rfl⟩ := Int.eq_ofNat_of_zero_le cw.1
        have hr4 : r < 4 := by omega
        have hq4 : q < 4 := by omega
        obtain ⟨e1, e2, e3⟩ := h q hq4
        simp only [if_pos cy, if_neg is1]
        rw [if_neg (c := I y < 0) (by rw [L0, I_lt (by omega) (by omega) (by omega) (by omega)]; omega), if_pos (c := I y ≤ (2 : Int32)) (by rw [L2, I_le (by omega) (by omega) (by omega) (by omega)]; omega), ms8 hq4, bnd1_some, clN (show r < 100000 by omega), clN (show q < 100000 by omega)]
        simp only [if_neg (gR4' hr4), if_neg (gR4' hq4)]
        rw [e1]
        by_cases cs : 0 ≤ (so1 q).toInt
        · obtain ⟨N, n, len, ov', hh, hb', a', v', l', r', o', ha', hr2, a9', v9', l9', o9', o1', l1', o2', l2', n', w2', p', q1, q2, q3, q4, q5, q6, q7, q8, hV, hn, hg⟩ := bothT hF h hq4 cs a v l rr o ha hr tn tw ln ov0 hl hb o1 l1 a9 v9 l9 o9 om ov9 ih o2 l2 p
          obtain ⟨b1, b2, b3⟩ := beg4 (I y) (I y) (n := (len : Int)) (by omega) (by omega) (so1 r) (si1 r) (pl1 r)
          obtain ⟨R0, so0, si0, pl0, pl02, so02, si02, j1, j2, j3⟩ := rowJ r hr4 y len (by omega) cy.2 (fun _ => by omega) so1 si1 so2 si2 pl1 pl2 h
          have i3 : ((r : Int)).toNat = r := by omega
          have g2 : ¬ ((r : Int) < 0 ∨ 4 ≤ r) := by omega
          rw [if_pos cs, if_pos (c := (0 : Int32) = 0) rfl, q1, bnd15_some, b2, bnd3_some, if_pos (c := 0 ≤ so1 q) ((I_sg _).mpr cs), q2, bnd10_some]
          have row9e : fX9_row (I r) (I y) (I len) pl2 so2 si2 = fX9_row_j46 (I r) (I y) (I len) pl2 so2 si2 := by
            unfold fX9_row fX9_row_j35
            rw [rw9 x1 x2, bnd1_some, if_pos c, if_neg is1, M1, J_neg, M2, inR9 y (-1) 2 y1 y2 (by omega) (by omega) (by omega) (by omega), bnd1_some, if_pos (c := -1 ≤ y ∧ y ≤ 2) (by omega), if_neg is1, if_neg (c := I y < 0) (by rw [L0, I_lt (by omega) (by omega) (by omega) (by omega)]; omega), if_neg (c := I y < 0) (by rw [L0, I_lt (by omega) (by omega) (by omega) (by omega)]; omega), if_pos (by rw [L40, I_le (by omega) (by omega) (by omega) (by omega)]; omega), if_pos (by rw [L0, I_le (by omega) (by omega) (by omega) (by omega)]; omega)]
          have row8e : fX8_row_j42 (I r) (I y) (I len) so1 si1 pl1 = some (1, va_up so1 r (I y), va_up si1 r (I len), va_up pl1 r b1) := by
            unfold fX8_row_j42
            rw [clN (show r < 100000 by omega), if_neg (gR4' hr4), if_pos (by rw [L0, I_le (by omega) (by omega) (by omega) (by omega)]; omega), b2, bnd3_some]
          rw [row8e] at j1
          simp only [Option.some.injEq, Prod.mk.injEq] at j1
          obtain ⟨rfl, rfl, rfl, rfl⟩ := j1
          rw [row9e, j2, bnd4_some]
          have pe : ∀ j : Nat, j < len → pl02 r j = (va_up pl1 r b1) r j := by
            intro j hj
            have hk := (j3 r hr4).2.1
            rw [vup_s, vup_s, IT (by omega) (by omega), IT (by omega) (by omega)] at hk
            exact (hk cy.1).2.2.2 j (by omega)
          obtain ⟨pA, pB, f1, f2, f3, f4⟩ := flm hV (len := len) (by omega) q8 r hr4 (I y) (I q) num words a' v' l' r' o' ha' hr2 n' w2' (I ov') (bo hh) hb' (va_up so1 r (I y)) (va_up si1 r (I len)) (by rw [vup_s]) g a9' v9' l9' o9' (I ov') (bo hh) p' so02 si02 len 0 (by omega) (99999 - len) (99999 - len) (va_up pl1 r b1) pl02 pe
          rw [show 99999 - len + len + 1 = FUEL by show _ = 100000; omega, show I ((0 : Nat) : Int) = 0 from rfl] at f1 f2
          rw [f1, f2, bnd1_some, bnd1_some]
          refine ⟨_, _, _, _, _, _, _, _, _, _, _, _, _, _, _, _, _, _, _, _, _, _, _, _, _, _, _, _, _, _, _, _, rfl, rfl, fun k hk => ?_⟩
          obtain ⟨k1, k2, k3⟩ := j3 k hk
          by_cases e : k = r
          · subst e
            refine ⟨k1, fun qq => ?_, k3⟩
            obtain ⟨m1, m2, m3, m4⟩ := k2 qq
            refine ⟨m1, m2, m3, fun j hj => f3 j ?_⟩
            rw [vup_s, IT (by omega) (by omega)] at hj
            omega
          · obtain ⟨q1, q2⟩ := f4 k e
            rw [q1, q2]
            exact ⟨k1, k2, k3⟩
        · rw [if_neg cs, if_neg (c := (1 : Int32) = 0) (by decide), if_neg (c := 0 ≤ so1 q) (fun z => cs ((I_sg _).mp z))]
          exact bad _
      · simp only [if_neg cy, if_pos is0]
        by_cases c0 : y < 0
        · rw [if_pos (c := I y < 0) (by rw [L0, I_lt (by omega) (by omega) (by omega) (by omega)]; omega)]
          exact bad _
        · rw [if_neg (c := I y < 0) (by rw [L0, I_lt (by omega) (by omega) (by omega) (by omega)]; omega), if_neg (c := I y ≤ (2 : Int32)) (by rw [L2, I_le (by omega) (by omega) (by omega) (by omega)]; omega)]
          exact bad _
    · simp only [if_neg cw, if_pos is0]
      by_cases cy : 0 ≤ y ∧ y ≤ 2
      · simp only [if_pos cy, if_neg is1]; exact bad _
      · simp only [if_neg cy, if_pos is0]; exact bad _
  · simp only [if_neg c, if_pos is0]
    exact bad _
