/-! noise, lost's below -/
theorem J_shl6 : ∀ k : Nat, k < 7 → (1 : Int64) <<< ((I k).toInt64 &&& 63) = J (2 ^ k : Nat) := by decide +kernel
theorem uni8 {N : Nat → Int} (hV : Vl N) {num : Nat → Int32} (hn : ∀ j, j < 10 → num j = I (N j)) : ∃ s : Nat, s ≤ 6 ∧ N 6 = s ∧ fX3_unit num = some (I (2 ^ s : Nat)) ∧ (I (2 ^ s : Nat)).toInt64 = J (2 ^ s : Nat) := by
  have h6 := hV.2.2.2.2.2.2.2.1
  obtain ⟨s, es⟩ := Int.eq_ofNat_of_zero_le h6.1
  have hp : 2 ^ s ≤ 2 ^ 6 := Nat.pow_le_pow_right (by decide) (by omega)
  have hp1 : 0 < 2 ^ s := Nat.pow_pos (by decide)
  refine ⟨s, by omega, es, ?_, IJ (by omega) (by omega)⟩
  unfold fX3_unit
  rw [hn 6 (by omega), es, L1, I_shl _ _ (by omega), Int.one_mul]
theorem uni9 {N : Nat → Int} {g : Nat → Int32} (hg : ∀ j, j < 10 → g j = I (N j)) {s : Nat} (hs : s ≤ 6) (e : N 6 = s) : (1 : Int64) <<< ((g 6).toInt64 &&& 63) = J (2 ^ s : Nat) := by
  rw [hg 6 (by omega), e]
  exact J_shl6 s (by omega)
theorem abs8 (l : Int) (h1 : -946201 ≤ l) (h2 : l ≤ 946201) : (if (0 : Int32) ≤ I l then I l else 0 - I l) = I l.natAbs := by
  by_cases c : 0 ≤ l
  · rw [L0, if_pos ((I_le (by omega) (by omega) (by omega) (by omega)).mpr c)]
    congr 1; omega
  · rw [L0, if_neg (fun q => c ((I_le (by omega) (by omega) (by omega) (by omega)).mp q)), I_sub]
    congr 1; omega
theorem sumL {N : Nat → Int} {len : Nat} (hl : len ≤ 40) {o1 l1 o2 l2 : Nat → Int32} (hO : OK2 N len o1 l1 o2 l2) (x1 x2 : Int32) (g : Nat → Int32) (pl : Nat → Nat → Int64) (so si : Nat → Int32) (a v l o ov hh : Int32) (p : Nat → Int32) : ∀ d k : Nat, k + d = len → ∀ (m1 m2 S : Nat), S ≤ k * 946201 → ∃ S' : Nat, S' ≤ 37848040 ∧ fX2_lossesTogether_L4 (I len) l1 (m1 + d + 1) (I S) (I k) = some (I S') ∧ fX9_noise_L32 x1 x2 g pl so si (m2 + d + 1) (J S) (I k) a v l o (I len) ov hh p o2 l2 = some (J S')
  | 0, k, h, m1, m2, S, hS => by
    have e : k = len := by omega
    subst e
    have q : I k ≤ I k := by rw [I_le (by omega) (by omega) (by omega) (by omega)]; omega
    rw [fX2_lossesTogether_L4, fX9_noise_L32, if_pos q, if_pos q]
    exact ⟨S, by omega, rfl, rfl⟩
  | d + 1, k, h, m1, m2, S, hS => by
    have i2 : ((k : Int)).toNat = k := by omega
    have g1 : ¬ (I k < 0 ∨ 40 ≤ k) := by
      rw [L0, I_lt (by omega) (by omega) (by omega) (by omega)]; omega
    have ne1 : ¬ (I len ≤ I k) := by rw [I_le (by omega) (by omega) (by omega) (by omega)]; omega
    have ne2 : ¬ ((40 : Int32) ≤ I k) := by rw [L40, I_le (by omega) (by omega) (by omega) (by omega)]; omega
    obtain ⟨zz, ll, -, -, e3, e4, -, b1, b2⟩ := hO k (by omega)
    have ab : ll.natAbs ≤ 946201 := by omega
    rw [show m1 + (d + 1) + 1 = (m1 + d + 1) + 1 by omega, show m2 + (d + 1) + 1 = (m2 + d + 1) + 1 by omega, fX2_lossesTogether_L4, fX9_noise_L32, if_neg ne1, if_neg ne1, if_neg ne2, clN (by omega), if_neg g1, if_neg g1, e3, e4, abs8 _ b1 b2, I_add, L1, I_add, IJ (by omega) (by omega), J_add]
    exact sumL hl hO x1 x2 g pl so si a v l o ov hh p d (k + 1) (by omega) m1 m2 (S + ll.natAbs) (by omega)
theorem prt8 (x : Int32) : fX8_isPart x = some (if x = 0 ∨ x = 1 then I 1 else I 0) := by
  unfold fX8_isPart
  by_cases c : x = 0
  · rw [if_pos c, if_pos (Or.inl c), L1]
  · rw [if_neg c]
    by_cases c1 : x = 1
    · rw [if_pos c1, if_pos (Or.inr c1), L1]
    · rw [if_neg c1, if_neg (fun q => q.elim c c1), L0]
theorem prt9 (x : Int32) : fX9_in x.toInt64 (0 : Int64) (1 : Int64) = some (if x = 0 ∨ x = 1 then I 1 else I 0) := by
  obtain ⟨z, rfl, z1, z2⟩ := I_ex x
  rw [inI, IJ z1 z2, M0, M1, L0, L1]
  simp (disch := omega) only [J_le, I_eq]
  have e : (0 ≤ z ∧ z ≤ 1) ↔ (z = 0 ∨ z = 1) := by omega
  simp only [e]
theorem thr9 {z : Int} (z1 : -2147483648 ≤ z) (z2 : z < 2147483648) (so : Nat → Int32) : fX9_isThere (I z) so = some (if (0 ≤ z ∧ z ≤ 3) ∧ 0 ≤ (so z.toNat).toInt then 1 else 0) := by
  unfold fX9_isThere
  rw [rw9 z1 z2, bnd1_some]
  by_cases c : 0 ≤ z ∧ z ≤ 3
  · obtain ⟨r, rfl⟩ := Int.eq_ofNat_of_zero_le c.1
    have hr4 : r < 4 := by omega
    have i2 : ((r : Int)).toNat = r := by omega
    rw [if_pos c, if_neg is1, clN (by omega), if_neg (gR4' hr4), i2]
    by_cases c2 : 0 ≤ (so r).toInt
    · rw [if_neg (c := so r < 0) (fun q => by rw [I_ng] at q; omega), if_pos ⟨c, c2⟩]
    · rw [if_pos (c := so r < 0) (by rw [I_ng]; omega), if_neg (fun q => c2 q.2)]
  · rw [if_neg c, if_pos is0, if_neg (fun q => c q.1)]
theorem p_noise (x y : Int32) (num words g tn tw p : Nat → Int32) (so1 si1 so2 si2 : Nat → Int32) (pl1 pl2 : Nat → Nat → Int64) (a v l rr o ha hr ln ov0 hl hb : Int32) (o1 l1 : Nat → Int32) (a9 v9 l9 o9 om ov9 ih : Int32) (o2 l2 : Nat → Int32) (hF : FI num words g) (h : IR so1 si1 pl1 so2 si2 pl2) :
    ∃ r, (fX8_noise x y num words a v l rr o ha hr tn tw ln ov0 hl hb o1 l1 so1 si1 pl1).map Prod.fst = some r ∧ (fX9_noise x y a9 v9 l9 o9 om ov9 ih g p pl2 so2 si2 o2 l2).map Prod.fst = some r := by
  obtain ⟨z, rfl, z1, z2⟩ := I_ex x
  unfold fX8_noise fX9_noise
  rw [rw8 z1 z2, thr9 z1 z2, prt8, prt9]
  simp only [bnd1_some]
  by_cases c : 0 ≤ z ∧ z ≤ 3
  · obtain ⟨r, rfl⟩ := Int.eq_ofNat_of_zero_le c.1
    have hr4 : r < 4 := by omega
    have i2 : ((r : Int)).toNat = r := by omega
    obtain ⟨e1, e2, e3⟩ := h r hr4
    rw [i2, e1, ms8 hr4]
    simp only [bnd1_some]
    by_cases cp : y = 0 ∨ y = 1
    · by_cases c2 : 0 ≤ (so1 r).toInt
      · obtain ⟨N, n, len, ov', hh, hb', a', v', l', r', o', ha', hr2, a9', v9', l9', o9', o1', l1', o2', l2', n', w2, p', q1, q2, q3, q4, q5, q6, q7, q8, hV, hn, hg⟩ := bothT hF h hr4 c2 a v l rr o ha hr tn tw ln ov0 hl hb o1 l1 a9 v9 l9 o9 om ov9 ih o2 l2 p
        obtain ⟨s, s6, es, u1, u2⟩ := uni8 hV hn
        obtain ⟨S, S1, f1, f2⟩ := sumL (len := len) (by omega) q8 (I r) y g pl2 so2 si2 a9' v9' l9' o9' (I ov') (bo hh) p' len 0 (by omega) (99999 - len) (99999 - len) 0 (by omega)
        have fe : FUEL = 99999 - len + len + 1 := by show 100000 = _; omega
        have f1' : fX2_lossesTogether (I len) l1' = some (I S) := by
          unfold fX2_lossesTogether
          rw [fe, L0]
          exact (congrArg (fun z => bnd1 z fun o1 => some o1) f1).trans (bnd1_some ..)
        have f2' : fX9_noise_L32 (I r) y g pl2 so2 si2 FUEL (0 : Int64) (0 : Int32) a9' v9' l9' o9' (I len) (I ov') (bo hh) p' o2' l2' = some (J S) := by
          rw [fe, L0, M0]
          exact f2
        obtain ⟨w1, w2'⟩ := low (a := S) (m := s) (by omega) (by omega) (by omega) y
        rw [if_pos c, if_neg is1, if_pos cp, if_neg is1, if_pos c2, if_pos (c := (0 : Int32) = 0) rfl, if_pos (c := _ ∧ _) ⟨c, c2⟩, if_neg (c := (1 : Int32) = 0) (by decide), if_neg is1, q1, q2, bnd15_some, bnd10_some, f1', f2', bnd1_some, bnd1_some, u1, bnd1_some, u2, uni9 hg s6 es, IJ (by omega) (by omega), w1, w2', bnd1_some, bnd1_some]
        exact ⟨_, rfl, rfl⟩
      · rw [if_pos c, if_neg is1, if_pos cp, if_neg is1, if_neg c2, if_neg (c := (1 : Int32) = 0) (by decide), if_neg (c := _ ∧ _) (fun q => c2 q.2), if_pos (c := (0 : Int32) = 0) rfl]
        exact ⟨_, rfl, rfl⟩
    · rw [if_pos c, if_neg is1, if_neg cp, if_pos is0]
      by_cases c2 : 0 ≤ (so1 r).toInt
      · rw [if_pos (c := _ ∧ _) ⟨c, c2⟩, if_neg (c := (1 : Int32) = 0) (by decide), if_pos is0]
        exact ⟨_, rfl, rfl⟩
      · rw [if_neg (c := _ ∧ _) (fun q => c2 q.2), if_pos (c := (0 : Int32) = 0) rfl]
        exact ⟨_, rfl, rfl⟩
  · rw [if_neg c, if_pos is0, if_neg (c := _ ∧ _) (fun q => c q.1), if_pos (c := (0 : Int32) = 0) rfl]
    exact ⟨_, rfl, rfl⟩
