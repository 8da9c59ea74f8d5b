/-! Ways: leads, cycles, cycle, onCycle -/
theorem J0e : (0 : Int64) = J 0 := rfl
theorem J2e : (2 : Int64) = J 2 := rfl
theorem J3e : (3 : Int64) = J 3 := rfl
theorem J4e : (4 : Int64) = J 4 := rfl
theorem RF_at {F : Nat → Option Nat} {S : Nat} {lat : Nat → Int} {R : Nat} {st on lg ld : Int32} {to rd tl ln pr am bs nb : Nat → Int32} (hS : S ≤ 1024) (h : RF F S lat R st on lg ld to rd tl ln pr am bs nb) {c : Nat} (hc : c < S) (hL : LD F c c) : ∃ r m : Nat, r < R ∧ nb (lsN F c) = I r ∧ rd c = I r ∧ ln r = I c ∧ pr r = I (cyN F S c) ∧ am r = I m ∧ Mx (fun d => onC F d ∧ LD F d c) (fun d => (lat d).natAbs) m ∧ bs r = I (fb_ct (fun d => tr (LD F d c)) S : Nat) := by
  obtain ⟨h1, h2, h3, h4, h5, -⟩ := h
  rcases (h3 c hc).2 with ⟨-, q⟩ | ⟨r, u, L, a1, a2, a3, a4, a5, a6, a7⟩
  · exact absurd q (LD_stk hL)
  · have eL := LD_one a6 hL
    subst eL
    obtain ⟨M, m, b1, b2, b3, b4, b5, b6, b7, b8, b9⟩ := h4 r a1
    have eM := inj_I (by omega) (by omega) (b2.symm.trans a5)
    subst eM
    exact ⟨r, m, a1, by rw [h5 M hc hL, a3], a3, a5, b5, b6, b8, b9⟩
theorem nu9L {F : Nat → Option Nat} {S : Nat} {lat : Nat → Int} {R : Nat} {st on lg ld : Int32} {to rd tl ln pr am bs nb : Nat → Int32} (hS : S ≤ 1024) (h : RF F S lat R st on lg ld to rd tl ln pr am bs nb) {c r : Nat} (hc : c < S) (hL : LD F c c) (hr : r < R) (er : rd c = I r) : ∀ d k : Nat, k + d = lsN F c → ∀ f : Nat, fX9_numberOf_L2 (I r) nb (f + d + 1) (I k) = some (I (lsN F c : Nat)) := by
  have hR := h.1
  have hle : lsN F c ≤ c := fb_ct_le _ c
  intro d
  induction d with
  | zero =>
    intro k hk f
    have e : k = lsN F c := by omega
    subst e
    rw [show f + 0 + 1 = f + 1 by omega, fX9_numberOf_L2, clN (by omega), if_neg (gK (by omega)), if_pos (by rw [h.2.2.2.2.1 c hc hL, er])]
  | succ d ih =>
    intro k hk f
    obtain ⟨i, i1, i2, i3⟩ := fb_ct_kth (p := fun c => tr (LD F c c)) (k := k) (n := c) (by unfold lsN at hk; omega)
    have iL := tr_e.mp i2
    obtain ⟨r2, m, b1, b2, b3, b4, -⟩ := RF_at hS h (show i < S by omega) iL
    obtain ⟨r3, m3, d1, d2, d3, d4, -⟩ := RF_at hS h hc hL
    have i3' : lsN F i = k := i3
    rw [i3'] at b2
    have hne : nb k ≠ I r := fun q => by
      rw [b2] at q
      have e1 := inj_I (by omega) (by omega) q
      have e2 := inj_I (by omega) (by omega) (d3.symm.trans er)
      rw [e1] at b4
      rw [e2] at d4
      have := inj_I (by omega) (by omega) (b4.symm.trans d4)
      omega
    rw [show f + (d + 1) + 1 = (f + d + 1) + 1 by omega, fX9_numberOf_L2, clN (by omega), if_neg (gK (by omega)), if_neg hne, upN]
    exact ih (k + 1) (by omega) f
theorem nu9X {F : Nat → Option Nat} {S : Nat} {lat : Nat → Int} {R : Nat} {st on lg ld : Int32} {to rd tl ln pr am bs nb : Nat → Int32} (hS : S ≤ 1024) (h : RF F S lat R st on lg ld to rd tl ln pr am bs nb) {c r : Nat} (hc : c < S) (hL : LD F c c) (hr : r < R) (er : rd c = I r) : fX9_numberOf (I r) nb = some (I (lsN F c : Nat)) := by
  have hle : lsN F c ≤ c := fb_ct_le _ c
  have := nu9L hS h hc hL hr er (lsN F c) 0 (by omega) (99999 - lsN F c)
  rw [show 99999 - lsN F c + lsN F c + 1 = FUEL by show _ = 100000; omega, show I ((0 : Nat) : Int) = 0 from rfl] at this
  unfold fX9_numberOf
  rw [this, bnd1_some]
theorem p_leads (x y z : Int32) (num words g p : Nat → Int32) (sz tl wh as lo a v l rr oo ha hr : Int32) (bn bw o t cm : Nat → Int32) (a9 v9 l9 o9 R9 st9 on9 lg9 ld9 : Int32) (to9 rd9 tl9 pa9 ln9 pr9 am9 bs9 nb9 : Nat → Int32) (hF : FI num words g) (hW : WS sz tl wh as lo bn bw o t cm) :
    ∃ (r sz' tl' wh' as' lo' a' v' l' r' o' ha' hr' : Int32) (bn' bw' o2 t' cm' : Nat → Int32), fX8_leads x y z num words sz tl wh as lo a v l rr oo ha hr bn bw o t cm = some (r, sz', tl', wh', as', lo', a', v', l', r', o', ha', hr', bn', bw', o2, t', cm') ∧ WS sz' tl' wh' as' lo' bn' bw' o2 t' cm' ∧ (fX9_leads x y z a9 v9 l9 o9 R9 st9 on9 lg9 ld9 g p to9 rd9 tl9 pa9 ln9 pr9 am9 bs9 nb9).map Prod.fst = some r := by
  obtain ⟨x, rfl, x1, x2⟩ := I_ex x
  obtain ⟨y, rfl, y1, y2⟩ := I_ex y
  obtain ⟨z, rfl, z1, z2⟩ := I_ex z
  obtain ⟨N, W, hV, hWd, hn, hw, hg, hp⟩ := hF
  have sb := st_b hV
  obtain ⟨S, eS⟩ := Int.eq_ofNat_of_zero_le (show 0 ≤ stN N by omega)
  have hF : ∀ c, c < S → ∀ d, nxt N y c = some d → d < S := fun c hc => (nxt_e hV y eS hc).2
  unfold fX8_leads fX9_leads
  rw [iss8 hV hn x1 x2, iss9 hV hg x1 x2, inp8 y1 y2, inp9 y1 y2, J0e, J2e, inR9 z 0 2 z1 z2 (by omega) (by omega) (by omega) (by omega)]
  simp only [bnd1_some]
  by_cases q1 : 0 ≤ x ∧ x < stN N
  · rw [if_pos q1, if_neg is1, if_neg is1]
    by_cases q2 : -99 ≤ y ∧ y ≤ 99
    · rw [if_pos q2, if_neg is1, if_neg is1]
      by_cases q3 : 0 ≤ z ∧ z ≤ 2
      · obtain ⟨c, rfl⟩ := Int.eq_ofNat_of_zero_le q1.1
        have hc : c < S := by omega
        obtain ⟨as', lo', a', v', l', r', o', ha', hr', bn', bw', o2, t', cm', e1, hSF, hbn, hWS⟩ := drwX hV hWd hn hw eS q2.1 q2.2 sz tl wh as lo a v l rr oo ha hr bn bw o t cm hW
        obtain ⟨ma, mv, ml, mo, R, ms, mn, mg, md, mp, mto, mrd, mtl, mpa, mln, mpr, mam, mbs, mnb, e2, hRF⟩ := fallX hV hg eS q2.1 q2.2 a9 v9 l9 o9 R9 st9 on9 lg9 ld9 p to9 rd9 tl9 pa9 ln9 pr9 am9 bs9 nb9
        have hP := SF_PG hV eS hSF
        have hS : S ≤ 1024 := by omega
        rw [if_neg (c := I z < 0) (by rw [L0, I_lt (by omega) (by omega) (by omega) (by omega)]; omega), if_pos (c := I z ≤ (2 : Int32)) (by rw [L2, I_le (by omega) (by omega) (by omega) (by omega)]; omega), if_pos q3, if_neg is1, e1, e2, bnd17_some, bnd19_some, (cfrX hS hc cm').1, bnd1_some, clN (show c < 100000 by omega)]
        simp only [if_neg (gK (show c < 1024 by omega))]
        rcases (hP c hc).2 with ⟨b1, b2⟩ | ⟨L, u, b1, b2, b3, b4, b5, b6⟩
        · have hm : mrd c = -1 := by
            rcases (hRF.2.2.1 c hc).2 with ⟨k1, -⟩ | ⟨r, u, L, k1, k2, k3, k4, k5, k6, k7⟩
            · exact k1
            · exact absurd b2 (LD_stk k6)
          rw [b1, hm, if_neg (c := (0 : Int32) ≤ -1) (by decide), if_pos rfl]
          exact ⟨_, _, _, _, _, _, _, _, _, _, _, _, _, _, _, _, _, _, rfl, hWS, rfl⟩
        · obtain ⟨r, uu, LL, k1, k2, k3, k4, k5, k6, k7⟩ : ∃ r u L : Nat, r < R ∧ L < S ∧ mrd c = I r ∧ mtl c = I u ∧ mln r = I L ∧ LD (nxt N y) c L ∧ TL (nxt N y) c u := by
            rcases (hRF.2.2.1 c hc).2 with ⟨-, k1⟩ | k
            · exact absurd k1 (LD_stk b5)
            · exact k
          have eL := LD_one k6 b5
          have eu := TL_one k7 b6
          subst eL eu
          have hLL : LD (nxt N y) LL LL := ⟨⟨0, rfl⟩, k6.2⟩
          obtain ⟨r2, m2, j1, j2, j3, j4, j5, j6, j7, j8⟩ := RF_at hS hRF k2 hLL
          have hR := hRF.1
          have er : r2 = r := by
            obtain ⟨M, mm, w1, w2, w3, w4, -⟩ := hRF.2.2.2.1 r k1
            have eM := inj_I (by omega) (by omega) (w2.symm.trans k5)
            subst eM
            exact inj_I (by omega) (by omega) (j3.symm.trans w4)
          subst er
          rw [b3, k3, if_pos (c := (0 : Int32) ≤ I LL) (by rw [L0, I_le (by omega) (by omega) (by omega) (by omega)]; omega), if_neg (c := I r2 = (-1 : Int32)) (by rw [m1e, I_eq (by omega) (by omega) (by omega) (by omega)]; omega)]
          by_cases w0 : z = 0
          · rw [if_pos (c := I z = 0) (by rw [w0]; rfl), if_pos (c := I z = 0) (by rw [w0]; rfl), (cfrX hS hc t').2, bnd1_some, b4, k4]
            exact ⟨_, _, _, _, _, _, _, _, _, _, _, _, _, _, _, _, _, _, rfl, hWS, rfl⟩
          · rw [if_neg (c := I z = 0) (by rw [L0, I_eq (by omega) (by omega) (by omega) (by omega)]; omega), if_neg (c := I z = 0) (by rw [L0, I_eq (by omega) (by omega) (by omega) (by omega)]; omega)]
            by_cases w1 : z = 1
            · rw [if_pos (c := I z = 1) (by rw [w1]; rfl), if_pos (c := I z = 1) (by rw [w1]; rfl), perX hS hP k2, bnd1_some, clN (show r2 < 100000 by omega), if_neg (gK (show r2 < 1024 by omega)), j5]
              exact ⟨_, _, _, _, _, _, _, _, _, _, _, _, _, _, _, _, _, _, rfl, hWS, rfl⟩
            · rw [if_neg (c := I z = 1) (by rw [L1, I_eq (by omega) (by omega) (by omega) (by omega)]; omega), if_neg (c := I z = 1) (by rw [L1, I_eq (by omega) (by omega) (by omega) (by omega)]; omega), nofX hS hP (show LL ≤ S by omega), bnd1_some, nu9X hS hRF k2 hLL j1 j3, bnd1_some]
              exact ⟨_, _, _, _, _, _, _, _, _, _, _, _, _, _, _, _, _, _, rfl, hWS, rfl⟩
      · rw [if_neg q3, if_pos is0]
        by_cases cz : z < 0
        · rw [if_pos (c := I z < 0) (by rw [L0, I_lt (by omega) (by omega) (by omega) (by omega)]; omega)]
          exact ⟨_, _, _, _, _, _, _, _, _, _, _, _, _, _, _, _, _, _, rfl, hW, rfl⟩
        · rw [if_neg (c := I z < 0) (by rw [L0, I_lt (by omega) (by omega) (by omega) (by omega)]; omega), if_neg (c := I z ≤ (2 : Int32)) (by rw [L2, I_le (by omega) (by omega) (by omega) (by omega)]; omega)]
          exact ⟨_, _, _, _, _, _, _, _, _, _, _, _, _, _, _, _, _, _, rfl, hW, rfl⟩
    · rw [if_neg q2, if_pos is0, if_pos is0]
      exact ⟨_, _, _, _, _, _, _, _, _, _, _, _, _, _, _, _, _, _, rfl, hW, rfl⟩
  · rw [if_neg q1, if_pos is0, if_pos is0]
    exact ⟨_, _, _, _, _, _, _, _, _, _, _, _, _, _, _, _, _, _, rfl, hW, rfl⟩
theorem p_cycles (y z : Int32) (num words g p : Nat → Int32) (sz tl wh as lo a v l rr oo ha hr : Int32) (bn bw o t cm : Nat → Int32) (a9 v9 l9 o9 R9 st9 on9 lg9 ld9 : Int32) (to9 rd9 tl9 pa9 ln9 pr9 am9 bs9 nb9 : Nat → Int32) (hF : FI num words g) (hW : WS sz tl wh as lo bn bw o t cm) :
    ∃ (r sz' tl' wh' as' lo' a' v' l' r' o' ha' hr' : Int32) (bn' bw' o2 t' cm' : Nat → Int32), fX8_cycles y z num words sz tl wh as lo a v l rr oo ha hr bn bw o t cm = some (r, sz', tl', wh', as', lo', a', v', l', r', o', ha', hr', bn', bw', o2, t', cm') ∧ WS sz' tl' wh' as' lo' bn' bw' o2 t' cm' ∧ (fX9_cycles y z a9 v9 l9 o9 R9 st9 on9 lg9 ld9 g p to9 rd9 tl9 pa9 ln9 pr9 am9 bs9 nb9).map Prod.fst = some r := by
  obtain ⟨y, rfl, y1, y2⟩ := I_ex y
  obtain ⟨z, rfl, z1, z2⟩ := I_ex z
  obtain ⟨N, W, hV, hWd, hn, hw, hg, hp⟩ := hF
  have sb := st_b hV
  obtain ⟨S, eS⟩ := Int.eq_ofNat_of_zero_le (show 0 ≤ stN N by omega)
  unfold fX8_cycles fX9_cycles
  rw [inp8 y1 y2, inp9 y1 y2, J0e, J4e, inR9 z 0 4 z1 z2 (by omega) (by omega) (by omega) (by omega)]
  simp only [bnd1_some]
  by_cases q2 : -99 ≤ y ∧ y ≤ 99
  · rw [if_pos q2, if_neg is1, if_neg is1]
    by_cases q3 : 0 ≤ z ∧ z ≤ 4
    · obtain ⟨as', lo', a', v', l', r', o', ha', hr', bn', bw', o2, t', cm', e1, hSF, hbn, hWS⟩ := drwX hV hWd hn hw eS q2.1 q2.2 sz tl wh as lo a v l rr oo ha hr bn bw o t cm hW
      obtain ⟨ma, mv, ml, mo, R, ms, mn, mg, md, mp, mto, mrd, mtl, mpa, mln, mpr, mam, mbs, mnb, e2, hRF⟩ := fallX hV hg eS q2.1 q2.2 a9 v9 l9 o9 R9 st9 on9 lg9 ld9 p to9 rd9 tl9 pa9 ln9 pr9 am9 bs9 nb9
      have hP := SF_PG hV eS hSF
      have hS : S ≤ 1024 := by omega
      obtain ⟨-, hR, -, -, -, hst, hon, ⟨mlg, elg, hlg⟩, mld, -, hmx, eld⟩ := hRF
      rw [if_neg (c := I z < 0) (by rw [L0, I_lt (by omega) (by omega) (by omega) (by omega)]; omega), if_pos (c := I z ≤ (4 : Int32)) (by rw [L4, I_le (by omega) (by omega) (by omega) (by omega)]; omega), if_pos q3, if_neg is1, e1, e2, bnd17_some, bnd19_some]
      by_cases w0 : z = 0
      · have hhm : fX3_howManyPasts num = some (I S) := by rw [sta8 hV hn, eS]
        rw [if_pos (c := I z = 0) (by rw [w0]; rfl), if_pos (c := I z = 0) (by rw [w0]; rfl), hhm, bnd1_some, nofX hS hP (Nat.le_refl S), bnd1_some, hR]
        exact ⟨_, _, _, _, _, _, _, _, _, _, _, _, _, _, _, _, _, _, rfl, hWS, rfl⟩
      · rw [if_neg (c := I z = 0) (by rw [L0, I_eq (by omega) (by omega) (by omega) (by omega)]; omega), if_neg (c := I z = 0) (by rw [L0, I_eq (by omega) (by omega) (by omega) (by omega)]; omega)]
        by_cases w1 : z = 1
        · rw [if_pos (c := I z = 1) (by rw [w1]; rfl), if_pos (c := I z = 1) (by rw [w1]; rfl), basX hS (fun c hc => (PG_s hS hP hc).1), bnd1_some, hst]
          exact ⟨_, _, _, _, _, _, _, _, _, _, _, _, _, _, _, _, _, _, rfl, hWS, rfl⟩
        · rw [if_neg (c := I z = 1) (by rw [L1, I_eq (by omega) (by omega) (by omega) (by omega)]; omega), if_neg (c := I z = 1) (by rw [L1, I_eq (by omega) (by omega) (by omega) (by omega)]; omega)]
          by_cases w2 : z = 2
          · rw [if_pos (c := I z = 2) (by rw [w2]; rfl), if_pos (c := I z = 2) (by rw [w2]; rfl), lgtX hS hP hlg, bnd1_some, elg]
            exact ⟨_, _, _, _, _, _, _, _, _, _, _, _, _, _, _, _, _, _, rfl, hWS, rfl⟩
          · rw [if_neg (c := I z = 2) (by rw [L2, I_eq (by omega) (by omega) (by omega) (by omega)]; omega), if_neg (c := I z = 2) (by rw [L2, I_eq (by omega) (by omega) (by omega) (by omega)]; omega)]
            by_cases w3 : z = 3
            · rw [if_pos (c := I z = 3) (by rw [w3]; rfl), if_pos (c := I z = 3) (by rw [w3]; rfl), (lodX hV eS hSF hmx).1, bnd1_some, eld, hR]
              exact ⟨_, _, _, _, _, _, _, _, _, _, _, _, _, _, _, _, _, _, rfl, hWS, rfl⟩
            · rw [if_neg (c := I z = 3) (by rw [L3, I_eq (by omega) (by omega) (by omega) (by omega)]; omega), if_neg (c := I z = 3) (by rw [L3, I_eq (by omega) (by omega) (by omega) (by omega)]; omega), howX hS hP, bnd1_some, hon]
              exact ⟨_, _, _, _, _, _, _, _, _, _, _, _, _, _, _, _, _, _, rfl, hWS, rfl⟩
    · rw [if_neg q3, if_pos is0]
      by_cases cz : z < 0
      · rw [if_pos (c := I z < 0) (by rw [L0, I_lt (by omega) (by omega) (by omega) (by omega)]; omega)]
        exact ⟨_, _, _, _, _, _, _, _, _, _, _, _, _, _, _, _, _, _, rfl, hW, rfl⟩
      · rw [if_neg (c := I z < 0) (by rw [L0, I_lt (by omega) (by omega) (by omega) (by omega)]; omega), if_neg (c := I z ≤ (4 : Int32)) (by rw [L4, I_le (by omega) (by omega) (by omega) (by omega)]; omega)]
        exact ⟨_, _, _, _, _, _, _, _, _, _, _, _, _, _, _, _, _, _, rfl, hW, rfl⟩
  · rw [if_neg q2, if_pos is0, if_pos is0]
    exact ⟨_, _, _, _, _, _, _, _, _, _, _, _, _, _, _, _, _, _, rfl, hW, rfl⟩
