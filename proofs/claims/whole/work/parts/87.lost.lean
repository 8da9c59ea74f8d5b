/-! lost; feed, wipe -/
theorem J_shlS : ∀ q : Nat, q < 11 → ∀ s : Nat, s < 7 → (J (2 ^ q : Nat)) <<< ((I s).toInt64 &&& 63) = J (2 ^ (q + s) : Nat) := by decide +kernel
theorem losL {N : Nat → Int} (hV : Vl N) {num g : Nat → Int32} (hn : ∀ j, j < 10 → num j = I (N j)) (hg : ∀ j, j < 10 → g j = I (N j)) {x : Int} (h1 : -99 ≤ x) (h2 : x ≤ 99) (y : Int32) (fn fw : Nat → Int32) (S : Nat) (hS : stN N = S) (tn : Nat → Int32) (htn : ∀ j, j < 10 → tn j = I (N j)) :
    ∀ d k : Nat, k + d = S → ∀ (m1 m2 T : Nat), T ≤ k * 946201 → ∀ (W : Nat → Int) (hW : Wd N W) (a v l rr o ha hr a9 v9 l9 o9 : Int32) (tw p : Nat → Int32) (hw : ∀ k, k < 3 → tw k = I (W k)), ∃ (T' : Nat) (a' v' l' r' o' ha' hr' a9' v9' l9' o9' : Int32) (tw' p' : Nat → Int32), T' ≤ 968909824 ∧ fX8_lost_L43 (I x) y fn fw (m1 + d + 1) (I S) (J T) (I k) a v l rr o ha hr tn tw = some (J T', a', v', l', r', o', ha', hr', tw') ∧ fX9_lost_L26 (I x) y g (m2 + d + 1) (J T) (I k) a9 v9 l9 o9 p = some (J T', a9', v9', l9', o9', p')
  | 0, k, h, m1, m2, T, hT, W, hW, a, v, l, rr, o, ha, hr, a9, v9, l9, o9, tw, p, hw => by
    have e : k = S := by omega
    subst e
    have sb := st_b hV
    have q : I k ≤ I k := by rw [I_le (by omega) (by omega) (by omega) (by omega)]; omega
    rw [fX8_lost_L43, fX9_lost_L26, if_pos q, sta9 hV hg, bnd1_some, hS, if_pos q]
    exact ⟨T, _, _, _, _, _, _, _, _, _, _, _, _, _, by omega, rfl, rfl⟩
  | d + 1, k, h, m1, m2, T, hT, W, hW, a, v, l, rr, o, ha, hr, a9, v9, l9, o9, tw, p, hw => by
    have sb := st_b hV
    have ne1 : ¬ (I S ≤ I k) := by rw [I_le (by omega) (by omega) (by omega) (by omega)]; omega
    obtain ⟨w', e2, b1⟩ := unp8' hV htn hw (k : Int) (by omega) (by omega)
    obtain ⟨p', a', e3⟩ := bhd9 hV hg (c := (k : Int)) (by omega) (by omega) h1 h2 a9 v9 l9 o9 p
    have lb := lS_b hV (unW_w hV (k : Int)) h1 h2
    have ag := agrS hV (ovW_a (N := N) (V := W) (k : Int)) x
    have ab : (lS N (unW N k) x).natAbs ≤ 946201 := by omega
    rw [show m1 + (d + 1) + 1 = (m1 + d + 1) + 1 by omega, show m2 + (d + 1) + 1 = (m2 + d + 1) + 1 by omega, fX8_lost_L43, fX9_lost_L26, if_neg ne1, sta9 hV hg, bnd1_some, hS, if_neg ne1, e2, bnd1_some, wei8 hV (ovW_w hV hW _) htn b1 h1 h2, bnd7_some, e3, bnd6_some, ag.2.2.1, abs8 _ lb.1 lb.2, IJ (by omega) (by omega), J_add, L1, I_add]
    exact losL hV hn hg h1 h2 y fn fw S hS tn htn d (k + 1) (by omega) m1 m2 (T + (lS N (unW N k) x).natAbs) (by omega) _ (ovW_w hV hW _) _ _ _ _ _ _ _ _ _ _ _ w' p' b1
theorem p_lost (x y : Int32) (num words g tn tw p : Nat → Int32) (a v l rr o ha hr a9 v9 l9 o9 : Int32) (hF : FI num words g) :
    ∃ r, (fX8_lost x y num words a v l rr o ha hr tn tw).map Prod.fst = some r ∧ (fX9_lost x y a9 v9 l9 o9 g p).map Prod.fst = some r := by
  obtain ⟨z, rfl, z1, z2⟩ := I_ex x
  obtain ⟨N, W, hV, hW, hn, hw, hg, hp⟩ := hF
  unfold fX8_lost fX9_lost
  rw [inp8 z1 z2, inp9 z1 z2, prt8, prt9]
  simp only [bnd1_some]
  by_cases c : -99 ≤ z ∧ z ≤ 99
  · simp only [if_pos c, if_neg is1]
    by_cases cp : y = 0 ∨ y = 1
    · simp only [if_pos cp, if_neg is1]
      obtain ⟨n', w', e1, b1, b2, -⟩ := tak8 tn tw num words
      have sb := st_b hV
      obtain ⟨aa, b, B, h, S', T, e0, eb, eB, eh, eS, eT, q1, q2, -, -, -⟩ := tenN hV
      obtain ⟨q, eq⟩ := Int.eq_ofNat_of_zero_le q1
      have hS : stN N = (2 ^ q : Nat) := by
        unfold stN pw
        rw [eq]; rfl
      have hp0 : 0 < 2 ^ q := Nat.pow_pos (by decide)
      obtain ⟨s, s6, es, u1, u2⟩ := uni8 hV hn
      have hp1 : 0 < 2 ^ s := Nat.pow_pos (by decide)
      obtain ⟨T', a', v', l', r', o', ha', hr', a9', v9', l9', o9', tw', p', f0, f1, f2⟩ := losL hV hn hg c.1 c.2 y num words (2 ^ q) hS n' (fun j hj => (b1 j hj).trans (hn j hj)) (2 ^ q) 0 (by omega) (99999 - 2 ^ q) (99999 - 2 ^ q) 0 (by omega) W hW a v l rr o ha hr a9 v9 l9 o9 w' p (fun k hk => (b2 k hk).trans (hw k hk))
      rw [show 99999 - 2 ^ q + 2 ^ q + 1 = FUEL by show _ = 100000; omega, show I ((0 : Nat) : Int) = 0 from rfl, show J ((0 : Nat) : Int) = 0 from rfl] at f1 f2
      obtain ⟨w1, w2⟩ := low (a := T') (m := q + s) (by omega) (by omega) (by omega) y
      have eM : J (2 ^ s : Nat) * J (2 ^ q : Nat) = J (2 ^ (q + s) : Nat) := by
        rw [J_mul, Nat.pow_add, Int.natCast_mul, Int.mul_comm]
      have e9 : (I (2 ^ q : Nat)).toInt64 <<< ((g 6).toInt64 &&& 63) = J (2 ^ (q + s) : Nat) := by
        rw [hg 6 (by omega), es, IJ (by omega) (by omega)]
        exact J_shlS q (by omega) s (by omega)
      rw [e1, bnd2_some, sta8 hV hn, sta9 hV hg, hS]
      simp only [bnd1_some]
      rw [f1, f2, bnd9_some, bnd6_some, u1, bnd1_some, u2, e9, IJ (by omega) (by omega), eM, w1, w2, bnd1_some, bnd1_some]
      exact ⟨_, rfl, rfl⟩
    · simp only [if_neg cp, if_pos is0]
      exact ⟨_, rfl, rfl⟩
  · simp only [if_neg c, if_pos is0]
    exact ⟨_, rfl, rfl⟩
/-- the tapes -/
def TI (sz : Int32) (bs : Nat → Int32) (tp : Int32) (tape : Nat → Int32) : Prop := ∃ n : Nat, n ≤ 80 ∧ sz = I n ∧ tp = I n ∧ ∀ j, j < n → ∃ c : Nat, 32 ≤ c ∧ c ≤ 126 ∧ bs j = I c ∧ tape j = I c
theorem nar8 : ∀ c : Nat, c < 127 → vp_nar .byte ((I (c : Nat)).toInt8.toInt32) = I c := by decide +kernel
theorem p_feed (x sz tp : Int32) (bs tape : Nat → Int32) (h : TI sz bs tp tape) : ∃ r sz' bs' tp' tape', fX8_feed x sz bs = some (r, sz', bs') ∧ fX9_feed x tp tape = some (r, tp', tape') ∧ TI sz' bs' tp' tape' := by
  have h0 := h
  obtain ⟨n, hn, rfl, rfl, hb⟩ := h
  obtain ⟨x, rfl, x1, x2⟩ := I_ex x
  have e32 : (32 : Int32) = I 32 := by decide +kernel
  have e126 : (126 : Int32) = I 126 := by decide +kernel
  have f32 : (32 : Int64) = J 32 := by decide +kernel
  have f126 : (126 : Int64) = J 126 := by decide +kernel
  unfold fX8_feed fX9_feed
  rw [f32, f126, inR9 x 32 126 x1 x2 (by omega) (by omega) (by omega) (by omega), bnd1_some, e32, e126]
  by_cases c : 32 ≤ x ∧ x ≤ 126
  · rw [if_neg (c := I x < I 32) (by rw [I_lt (by omega) (by omega) (by omega) (by omega)]; omega), if_pos (c := I x ≤ I 126) (by rw [I_le (by omega) (by omega) (by omega) (by omega)]; omega), if_pos c, if_neg is1, if_neg (c := I n < 0) (by rw [L0, I_lt (by omega) (by omega) (by omega) (by omega)]; omega)]
    by_cases c8 : n = 80
    · rw [if_neg (c := I n < (80 : Int32)) (by rw [L80, I_lt (by omega) (by omega) (by omega) (by omega)]; omega), if_pos (c := I n = (80 : Int32)) (by rw [c8]; rfl)]
      exact ⟨_, _, _, _, _, rfl, rfl, h0⟩
    · have gn : ¬ (I n < 0 ∨ 80 ≤ n) := by rw [L0, I_lt (by omega) (by omega) (by omega) (by omega)]; omega
      obtain ⟨x, rfl⟩ := Int.eq_ofNat_of_zero_le (show 0 ≤ x by omega)
      rw [if_pos (c := I n < (80 : Int32)) (by rw [L80, I_lt (by omega) (by omega) (by omega) (by omega)]; omega), if_neg (c := I n = (80 : Int32)) (by rw [L80, I_eq (by omega) (by omega) (by omega) (by omega)]; omega), clN (by omega), if_neg gn, if_neg gn, nar8 x (by omega), L1, I_add]
      refine ⟨_, _, _, _, _, rfl, rfl, n + 1, by omega, rfl, rfl, fun j hj => ?_⟩
      by_cases e : j = n
      · exact ⟨x, by omega, by omega, by rw [e, upd_s], by rw [e, upd_s]⟩
      · obtain ⟨cc, c1, c2, c3, c4⟩ := hb j (by omega)
        exact ⟨cc, c1, c2, by rw [upd_o _ _ e, c3], by rw [upd_o _ _ e, c4]⟩
  · rw [if_neg c, if_pos is0]
    by_cases c1 : x < 32
    · rw [if_pos (c := I x < I 32) (by rw [I_lt (by omega) (by omega) (by omega) (by omega)]; omega)]
      exact ⟨_, _, _, _, _, rfl, rfl, h0⟩
    · rw [if_neg (c := I x < I 32) (by rw [I_lt (by omega) (by omega) (by omega) (by omega)]; omega), if_neg (c := I x ≤ I 126) (by rw [I_le (by omega) (by omega) (by omega) (by omega)]; omega)]
      exact ⟨_, _, _, _, _, rfl, rfl, h0⟩
theorem TI_0 (bs tape : Nat → Int32) : TI 0 bs 0 tape := ⟨0, by omega, rfl, rfl, fun j hj => absurd hj (by omega)⟩
theorem p_wipe (sz tp : Int32) (bs tape : Nat → Int32) (h : TI sz bs tp tape) : ∃ r sz' tp', fX8_wipe sz = some (r, sz') ∧ fX9_wipe tp = some (r, tp') ∧ TI sz' bs tp' tape := by
  obtain ⟨n, hn, rfl, rfl, hb⟩ := h
  exact ⟨_, _, _, rfl, rfl, TI_0 _ _⟩
