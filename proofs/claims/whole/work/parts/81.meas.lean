/-! measure -/
theorem mea {N : Nat → Int} {len : Nat} (hl : len ≤ 40) {o1 l1 o2 l2 : Nat → Int32} (hO : OK2 N len o1 l1 o2 l2) (x1 x2 : Int32) (num words : Nat → Int32) (so1 si1 : Nat → Int32) (pl1 : Nat → Nat → Int64) (hc : Int32) (a v l rr o ha hr : Int32) (tn tw : Nat → Int32) (ov hh hb : Int32) (c1 : Nat → Int32) (g : Nat → Int32) (pl2 : Nat → Nat → Int64) (so2 si2 : Nat → Int32) (a9 v9 l9 o9 hc9 ov9 hh9 : Int32) (p c9 : Nat → Int32) :
    ∀ d k : Nat, k + d = len → ∀ (m1 m2 : Nat) (S : Int64),
      (∃ j, j < len ∧ fX8_measure_L40 x1 x2 num words so1 si1 pl1 (m1 + d + 1) S (I k) hc a v l rr o ha hr tn tw (I len) ov hh hb o1 l1 c1 = some (.inl (I j, o1 j)) ∧ fX9_measure_L34 x1 x2 g pl2 so2 si2 (m2 + d + 1) S (I k) a9 v9 l9 o9 hc9 (I len) ov9 hh9 p c9 o2 l2 = some (.inl (I j))) ∨
      (∃ (j : Nat) (q : Int64), fX8_measure_L40 x1 x2 num words so1 si1 pl1 (m1 + d + 1) S (I k) hc a v l rr o ha hr tn tw (I len) ov hh hb o1 l1 c1 = some (.inr (.inl (I j, q))) ∧ fX9_measure_L34 x1 x2 g pl2 so2 si2 (m2 + d + 1) S (I k) a9 v9 l9 o9 hc9 (I len) ov9 hh9 p c9 o2 l2 = some (.inr (.inl (I j, q)))) ∨
      (∃ (q : Int64), fX8_measure_L40 x1 x2 num words so1 si1 pl1 (m1 + d + 1) S (I k) hc a v l rr o ha hr tn tw (I len) ov hh hb o1 l1 c1 = some (.inr (.inr q)) ∧ fX9_measure_L34 x1 x2 g pl2 so2 si2 (m2 + d + 1) S (I k) a9 v9 l9 o9 hc9 (I len) ov9 hh9 p c9 o2 l2 = some (.inr (.inr q)))
  | 0, k, h, m1, m2, S => by
    have e : k = len := by omega
    subst e
    have q : I k ≤ I k := by rw [I_le (by omega) (by omega) (by omega) (by omega)]; omega
    rw [fX8_measure_L40, fX9_measure_L34, if_pos q, if_pos q]
    exact Or.inr (Or.inr ⟨_, rfl, rfl⟩)
  | d + 1, k, h, m1, m2, S => by
    have g1 : ¬ (I k < 0 ∨ 40 ≤ k) := by
      rw [L0, I_lt (by omega) (by omega) (by omega) (by omega)]; omega
    have ne1 : ¬ (I len ≤ I k) := by rw [I_le (by omega) (by omega) (by omega) (by omega)]; omega
    have ne2 : ¬ ((40 : Int32) ≤ I k) := by rw [L40, I_le (by omega) (by omega) (by omega) (by omega)]; omega
    obtain ⟨zz, ll, e1, e2, -⟩ := hO k (by omega)
    rw [show m1 + (d + 1) + 1 = (m1 + d + 1) + 1 by omega, show m2 + (d + 1) + 1 = (m2 + d + 1) + 1 by omega, fX8_measure_L40, fX9_measure_L34, if_neg ne1, if_neg ne1, if_neg ne2, clN (by omega)]
    simp only [if_neg g1]
    rw [e1, e2]
    by_cases c1' : lg_cmp ((I zz).toInt64 * (I zz).toInt64 * x2.toInt64) (2147483647 : Int64) ≤ 0
    · rw [if_pos c1', if_pos c1']
      by_cases c2' : lg_cmp (S + (I zz).toInt64 * (I zz).toInt64 * x2.toInt64) (2147483647 : Int64) ≤ 0
      · rw [if_pos c2', if_pos c2', L1, I_add]
        exact mea hl hO x1 x2 num words so1 si1 pl1 hc a v l rr o ha hr tn tw ov hh hb c1 g pl2 so2 si2 a9 v9 l9 o9 hc9 ov9 hh9 p c9 d (k + 1) (by omega) m1 m2 _
      · rw [if_neg c2', if_neg c2']
        exact Or.inr (Or.inl ⟨_, _, rfl, rfl⟩)
    · rw [if_neg c1', if_neg c1']
      exact Or.inl ⟨k, by omega, by rw [e1], rfl⟩
theorem what2 {α : Type} (w : Int) (w1 : -2147483648 ≤ w) (w2 : w < 2147483648) (A B : α) : (if I w < (1 : Int32) then A else if (2000000000 : Int32) < I w then A else B) = if 1 ≤ w ∧ w ≤ 2000000000 then B else A := by
  have e2 : (2000000000 : Int32) = I 2000000000 := by decide +kernel
  rw [L1, e2]
  by_cases c : w < 1
  · rw [if_pos ((I_lt (by omega) (by omega) (by omega) (by omega)).mpr c), if_neg (by omega)]
  · rw [if_neg (fun q => c ((I_lt (by omega) (by omega) (by omega) (by omega)).mp q))]
    by_cases c2 : 2000000000 < w
    · rw [if_pos ((I_lt (by omega) (by omega) (by omega) (by omega)).mpr c2), if_neg (by omega)]
    · rw [if_neg (fun q => c2 ((I_lt (by omega) (by omega) (by omega) (by omega)).mp q)), if_pos (by omega)]
theorem p_measure (x w : Int32) (num words g tn tw p : Nat → Int32) (so1 si1 so2 si2 : Nat → Int32) (pl1 pl2 : Nat → Nat → Int64) (hc1 hc2 : Int32) (ca1 ca2 : Nat → Int32) (a v l rr o ha hr ln ov0 hl hb : Int32) (o1 l1 : Nat → Int32) (a9 v9 l9 o9 om ov9 ih : Int32) (o2 l2 : Nat → Int32) (hF : FI num words g) (h : IR so1 si1 pl1 so2 si2 pl2) (hC : CI hc1 ca1 hc2 ca2) :
    ∃ R hc' A V L RR O HA HR tn' tw' LN OV HL HB O1 L1 c' A9 V9 L9 O9 hc9 OM OV9 IH p' c9 O2 L2, fX8_measure x w hc1 num words a v l rr o ha hr tn tw ln ov0 hl hb o1 l1 so1 si1 pl1 ca1 = some (R, hc', A, V, L, RR, O, HA, HR, tn', tw', LN, OV, HL, HB, O1, L1, c') ∧ fX9_measure x w a9 v9 l9 o9 hc2 om ov9 ih g p ca2 pl2 so2 si2 o2 l2 = some (R, A9, V9, L9, O9, hc9, OM, OV9, IH, p', c9, O2, L2) ∧ CI hc' c' hc9 c9 := by
  obtain ⟨z, rfl, z1, z2⟩ := I_ex x
  obtain ⟨w, rfl, w1, w2⟩ := I_ex w
  have e2G : (2000000000 : Int64) = J 2000000000 := by decide +kernel
  unfold fX8_measure fX9_measure
  rw [rw8 z1 z2, thr9 z1 z2, what2 w w1 w2, M1, e2G, inR9 w 1 2000000000 w1 w2 (by omega) (by omega) (by omega) (by omega)]
  simp only [bnd1_some]
  by_cases c : 0 ≤ z ∧ z ≤ 3
  · obtain ⟨r, rfl⟩ := Int.eq_ofNat_of_zero_le c.1
    have hr4 : r < 4 := by omega
    have i2 : ((r : Int)).toNat = r := by omega
    obtain ⟨e1, e2, e3⟩ := h r hr4
    rw [i2, e1, ms8 hr4]
    simp only [bnd1_some]
    by_cases cw : 1 ≤ w ∧ w ≤ 2000000000
    · by_cases cs : 0 ≤ (so1 r).toInt
      · obtain ⟨N, n, len, ov', hh, hb', a', v', l', r', o', ha', hr2, a9', v9', l9', o9', o1', l1', o2', l2', n', w2', p', q1, q2, q3, q4, q5, q6, q7, q8, hV, hn, hg⟩ := bothT hF h hr4 cs a v l rr o ha hr tn tw ln ov0 hl hb o1 l1 a9 v9 l9 o9 om ov9 ih o2 l2 p
        have hm := mea (len := len) (by omega) q8 (I r) (I w) num words so1 si1 pl1 hc1 a' v' l' r' o' ha' hr2 n' w2' (I ov') (bo hh) hb' ca1 g pl2 so2 si2 a9' v9' l9' o9' hc2 (I ov') (bo hh) p' ca2 len 0 (by omega) (99999 - len) (99999 - len) 0
        rw [show 99999 - len + len + 1 = FUEL by show _ = 100000; omega, show I ((0 : Nat) : Int) = 0 from rfl] at hm
        rw [if_pos c, if_neg is1, if_pos cw, if_pos cs, if_pos (c := (0 : Int32) = 0) rfl, if_pos (c := _ ∧ _) ⟨c, cs⟩, if_neg (c := (1 : Int32) = 0) (by decide), if_pos cw, if_neg is1, q1, bnd15_some, q2, bnd10_some]
        rcases hm with ⟨j, j0, j1, j2⟩ | ⟨j, q, j1, j2⟩ | ⟨q, j1, j2⟩
        · obtain ⟨zz, ll, f1, f2, -⟩ := q8 j j0
          have g1 : ¬ (I j < 0 ∨ 40 ≤ j) := by
            rw [L0, I_lt (by omega) (by omega) (by omega) (by omega)]; omega
          rw [j1, j2, bnd1_some, bnd1_some]
          dsimp only [sumE, c1, c2]
          rw [clN (by omega), if_neg g1, f1, f2]
          exact ⟨_, _, _, _, _, _, _, _, _, _, _, _, _, _, _, _, _, _, _, _, _, _, _, _, _, _, _, _, _, _, rfl, rfl, CI_tell ..⟩
        · rw [j1, j2, bnd1_some, bnd1_some]
          exact ⟨_, _, _, _, _, _, _, _, _, _, _, _, _, _, _, _, _, _, _, _, _, _, _, _, _, _, _, _, _, _, rfl, rfl, CI_tell ..⟩
        · rw [j1, j2, bnd1_some, bnd1_some]
          cases hh with
          | false => exact ⟨_, _, _, _, _, _, _, _, _, _, _, _, _, _, _, _, _, _, _, _, _, _, _, _, _, _, _, _, _, _, rfl, rfl, hC⟩
          | true =>
            have e7 := q7 rfl
            subst e7
            exact ⟨_, _, _, _, _, _, _, _, _, _, _, _, _, _, _, _, _, _, _, _, _, _, _, _, _, _, _, _, _, _, rfl, rfl, CI_tell ..⟩
      · rw [if_pos c, if_neg is1, if_pos cw, if_neg cs, if_neg (c := (1 : Int32) = 0) (by decide), if_neg (c := _ ∧ _) (fun q => cs q.2), if_pos (c := (0 : Int32) = 0) rfl]
        exact ⟨_, _, _, _, _, _, _, _, _, _, _, _, _, _, _, _, _, _, _, _, _, _, _, _, _, _, _, _, _, _, rfl, rfl, hC⟩
    · rw [if_pos c, if_neg is1, if_neg cw, if_neg cw, if_pos is0]
      by_cases cs : 0 ≤ (so1 r).toInt
      · rw [if_pos (c := _ ∧ _) ⟨c, cs⟩, if_neg (c := (1 : Int32) = 0) (by decide)]
        exact ⟨_, _, _, _, _, _, _, _, _, _, _, _, _, _, _, _, _, _, _, _, _, _, _, _, _, _, _, _, _, _, rfl, rfl, hC⟩
      · rw [if_neg (c := _ ∧ _) (fun q => cs q.2), if_pos (c := (0 : Int32) = 0) rfl]
        exact ⟨_, _, _, _, _, _, _, _, _, _, _, _, _, _, _, _, _, _, _, _, _, _, _, _, _, _, _, _, _, _, rfl, rfl, hC⟩
  · rw [if_neg c, if_pos is0, if_neg (c := _ ∧ _) (fun q => c q.1), if_pos (c := (0 : Int32) = 0) rfl]
    exact ⟨_, _, _, _, _, _, _, _, _, _, _, _, _, _, _, _, _, _, _, _, _, _, _, _, _, _, _, _, _, _, rfl, rfl, hC⟩
