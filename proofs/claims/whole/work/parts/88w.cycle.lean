/-! Ways: cycle, onCycle -/
theorem zmod {z : Int} {p : Nat} (h0 : 0 ≤ z) (h1 : z < 2147483648) (hp : 0 < p) (hp2 : p ≤ 1024) : ∃ k : Nat, k < p ∧ I z - I z / I p * I p = I k := by
  have hm := Int.emod_nonneg z (show (p : Int) ≠ 0 by omega)
  have hl := Int.emod_lt_of_pos z (show (0 : Int) < p by omega)
  refine ⟨(z % p).toNat, by omega, ?_⟩
  rw [I_div (by omega) (by omega) (by omega) (by omega) (by omega), I_mul, I_sub, I_tdiv (by omega), if_pos (Or.inl h0)]
  congr 1
  have := Int.mul_ediv_add_emod z p
  rw [Int.mul_comm] at this
  omega
theorem behX {F : Nat → Option Nat} {S : Nat} (hS : S ≤ 1024) (hF : ∀ c, c < S → ∀ d, F c = some d → d < S) {t o cm : Nat → Int32} (h : PG F S t o cm) {c e k : Nat} (hc : c < S) (hL : LD F c c) (x2 : Int32) (hk : k < cyN F S c) (ek : x2 - x2 / I (cyN F S c : Nat) * I (cyN F S c : Nat) = I k) (he : it F k c = some e) : fX7_behindOnCycle (I c) x2 (I S) o t cm = some (I e) := by
  have hp := cyN_p hc hL
  have := behL hS hF h (I c) x2 (show k ≤ 1024 by omega) k 0 (by omega) (99999 - k) c e hc he
  rw [show 99999 - k + k + 1 = FUEL by show _ = 100000; omega, show I ((0 : Nat) : Int) = 0 from rfl] at this
  unfold fX7_behindOnCycle fX7_behindOnCycle_j17
  rw [perX hS h hc, bnd1_some, if_neg (by rw [L0, I_le (by omega) (by omega) (by omega) (by omega)]; omega), if_neg (by rw [L0, I_eq (by omega) (by omega) (by omega) (by omega)]; omega), ek, this, bnd1_some]
theorem onc9 {F : Nat → Option Nat} {S : Nat} (hS : S ≤ 1024) (hF : ∀ c, c < S → ∀ d, F c = some d → d < S) {to : Nat → Int32} (hto : ∀ c, c < S → to c = I (enc (F c))) (x1 x2 x3 : Int32) (g : Nat → Int32) (a v l o R st on lg ld : Int32) (p rd tl pa ln pr am bs nb : Nat → Int32) : ∀ (k c e : Nat), k ≤ 1024 → c < S → it F k c = some e → ∀ f : Nat, fX9_onCycle_L65 x1 x2 x3 g (f + k + 1) (I c) (I k) a v l o R st on lg ld p to rd tl pa ln pr am bs nb = some (I e) := by
  intro k
  induction k with
  | zero =>
    intro c e _ hc he f
    have ec : c = e := Option.some.inj he
    rw [show f + 0 + 1 = f + 1 by omega, fX9_onCycle_L65, if_pos (c := I ((0 : Nat) : Int) ≤ 0) (by decide +kernel), ec]
  | succ k ih =>
    intro c e hk hc he f
    obtain ⟨u, hu⟩ := it_pre he (show 1 ≤ k + 1 by omega)
    rw [it_1] at hu
    rw [it_s hu] at he
    have ek : I ((k + 1 : Nat) : Int) + (-1 : Int32) = I k := by rw [m1e, I_add]; congr 1; omega
    rw [show f + (k + 1) + 1 = (f + k + 1) + 1 by omega, fX9_onCycle_L65, if_neg (by rw [L0, I_le (by omega) (by omega) (by omega) (by omega)]; omega), clN (show c < 100000 by omega), if_neg (gK (show c < 1024 by omega)), ek, hto c hc, hu]
    exact ih u e (by omega) (hF c hc u hu) he f
theorem p_cycle (y x z : Int32) (num words g p : Nat → Int32) (sz tl wh as lo a v l rr oo ha hr : Int32) (bn bw o t cm : Nat → Int32) (a9 v9 l9 o9 R9 st9 on9 lg9 ld9 : Int32) (to9 rd9 tl9 pa9 ln9 pr9 am9 bs9 nb9 : Nat → Int32) (hF : FI num words g) (hW : WS sz tl wh as lo bn bw o t cm) :
    ∃ (r sz' tl' wh' as' lo' a' v' l' r' o' ha' hr' : Int32) (bn' bw' o2 t' cm' : Nat → Int32), fX8_cycle y x z num words sz tl wh as lo a v l rr oo ha hr bn bw o t cm = some (r, sz', tl', wh', as', lo', a', v', l', r', o', ha', hr', bn', bw', o2, t', cm') ∧ WS sz' tl' wh' as' lo' bn' bw' o2 t' cm' ∧ (fX9_cycle y x z a9 v9 l9 o9 R9 st9 on9 lg9 ld9 g p to9 rd9 tl9 pa9 ln9 pr9 am9 bs9 nb9).map Prod.fst = some r := by
  obtain ⟨x, rfl, x1, x2⟩ := I_ex x
  obtain ⟨y, rfl, y1, y2⟩ := I_ex y
  obtain ⟨z, rfl, z1, z2⟩ := I_ex z
  obtain ⟨N, W, hV, hWd, hn, hw, hg, hp⟩ := hF
  have sb := st_b hV
  obtain ⟨S, eS⟩ := Int.eq_ofNat_of_zero_le (show 0 ≤ stN N by omega)
  have hF : ∀ c, c < S → ∀ d, nxt N y c = some d → d < S := fun c hc => (nxt_e hV y eS hc).2
  unfold fX8_cycle fX9_cycle
  rw [inp8 y1 y2, inp9 y1 y2, J0e, J3e, inR9 z 0 3 z1 z2 (by omega) (by omega) (by omega) (by omega)]
  simp only [bnd1_some]
  by_cases q2 : -99 ≤ y ∧ y ≤ 99
  · rw [if_pos q2, if_neg is1, if_neg is1]
    by_cases q3 : 0 ≤ z ∧ z ≤ 3
    · obtain ⟨as', lo', a', v', l', r', o', ha', hr', bn', bw', o2, t', cm', e1, hSF, hbn, hWS⟩ := drwX hV hWd hn hw eS q2.1 q2.2 sz tl wh as lo a v l rr oo ha hr bn bw o t cm hW
      obtain ⟨ma, mv, ml, mo, R, ms, mn, mg, md, mp, mto, mrd, mtl, mpa, mln, mpr, mam, mbs, mnb, e2, hRF⟩ := fallX hV hg eS q2.1 q2.2 a9 v9 l9 o9 R9 st9 on9 lg9 ld9 p to9 rd9 tl9 pa9 ln9 pr9 am9 bs9 nb9
      have hP := SF_PG hV eS hSF
      have hS : S ≤ 1024 := by omega
      have hRS := hRF.1
      have hR := hRF.2.1
      rw [if_neg (c := I z < 0) (by rw [L0, I_lt (by omega) (by omega) (by omega) (by omega)]; omega), if_pos (c := I z ≤ (3 : Int32)) (by rw [L3, I_le (by omega) (by omega) (by omega) (by omega)]; omega), if_pos q3, if_neg is1, e1, e2, bnd17_some, bnd19_some, show I R - (1 : Int32) = I ((R : Int) - 1) by rw [L1, I_sub], IJ (show -2147483648 ≤ (R : Int) - 1 by omega) (by omega), inR9 x 0 ((R : Int) - 1) x1 x2 (by omega) (by omega) (by omega) (by omega), bnd1_some]
      rcases cynX hS hP x1 x2 with ⟨c, c1, c2, c3, c4, c5⟩ | ⟨c4, c5⟩
      · obtain ⟨r, m, j1, j2, j3, j4, j5, j6, j7, j8⟩ := RF_at hS hRF c1 c2
        have ex : I x = I (lsN (nxt N y) c : Nat) := by rw [c3]
        have hlb : lsN (nxt N y) c ≤ c := fb_ct_le _ c
        rw [c5, bnd1_some, if_pos (c := (0 : Int32) ≤ I c) (by rw [L0, I_le (by omega) (by omega) (by omega) (by omega)]; omega), if_pos (show 0 ≤ x ∧ x ≤ (R : Int) - 1 by omega), if_neg is1, ex, clN (show lsN (nxt N y) c < 100000 by omega)]
        simp only [if_neg (gK (show lsN (nxt N y) c < 1024 by omega)), j2]
        rw [clN (show r < 100000 by omega)]
        simp only [if_neg (gK (show r < 1024 by omega))]
        by_cases w0 : z = 0
        · rw [if_pos (c := I z = 0) (by rw [w0]; rfl), if_pos (c := I z = 0) (by rw [w0]; rfl), j4]
          exact ⟨_, _, _, _, _, _, _, _, _, _, _, _, _, _, _, _, _, _, rfl, hWS, rfl⟩
        · rw [if_neg (c := I z = 0) (by rw [L0, I_eq (by omega) (by omega) (by omega) (by omega)]; omega), if_neg (c := I z = 0) (by rw [L0, I_eq (by omega) (by omega) (by omega) (by omega)]; omega)]
          by_cases w1 : z = 1
          · rw [if_pos (c := I z = 1) (by rw [w1]; rfl), if_pos (c := I z = 1) (by rw [w1]; rfl), perX hS hP c1, bnd1_some, j5]
            exact ⟨_, _, _, _, _, _, _, _, _, _, _, _, _, _, _, _, _, _, rfl, hWS, rfl⟩
          · rw [if_neg (c := I z = 1) (by rw [L1, I_eq (by omega) (by omega) (by omega) (by omega)]; omega), if_neg (c := I z = 1) (by rw [L1, I_eq (by omega) (by omega) (by omega) (by omega)]; omega)]
            by_cases w2 : z = 2
            · rw [if_pos (c := I z = 2) (by rw [w2]; rfl), if_pos (c := I z = 2) (by rw [w2]; rfl), ampX hV hbn eS hP c1 j7, bnd1_some, j6]
              exact ⟨_, _, _, _, _, _, _, _, _, _, _, _, _, _, _, _, _, _, rfl, hWS, rfl⟩
            · rw [if_neg (c := I z = 2) (by rw [L2, I_eq (by omega) (by omega) (by omega) (by omega)]; omega), if_neg (c := I z = 2) (by rw [L2, I_eq (by omega) (by omega) (by omega) (by omega)]; omega), basX hS (Q := fun d => LD (nxt N y) d c) (fun d hd => (PG_s hS hP hd).2 c (by omega)), bnd1_some, j8]
              exact ⟨_, _, _, _, _, _, _, _, _, _, _, _, _, _, _, _, _, _, rfl, hWS, rfl⟩
      · rw [c5, bnd1_some, if_neg (c := (0 : Int32) ≤ -1) (by decide), if_neg (show ¬ (0 ≤ x ∧ x ≤ (R : Int) - 1) by omega), if_pos is0]
        exact ⟨_, _, _, _, _, _, _, _, _, _, _, _, _, _, _, _, _, _, rfl, hWS, rfl⟩
    · rw [if_neg q3, if_pos is0]
      by_cases cz : z < 0
      · rw [if_pos (c := I z < 0) (by rw [L0, I_lt (by omega) (by omega) (by omega) (by omega)]; omega)]
        exact ⟨_, _, _, _, _, _, _, _, _, _, _, _, _, _, _, _, _, _, rfl, hW, rfl⟩
      · rw [if_neg (c := I z < 0) (by rw [L0, I_lt (by omega) (by omega) (by omega) (by omega)]; omega), if_neg (c := I z ≤ (3 : Int32)) (by rw [L3, I_le (by omega) (by omega) (by omega) (by omega)]; omega)]
        exact ⟨_, _, _, _, _, _, _, _, _, _, _, _, _, _, _, _, _, _, rfl, hW, rfl⟩
  · rw [if_neg q2, if_pos is0, if_pos is0]
    exact ⟨_, _, _, _, _, _, _, _, _, _, _, _, _, _, _, _, _, _, rfl, hW, rfl⟩
theorem p_onCycle (y x z : Int32) (num words g p : Nat → Int32) (sz tl wh as lo a v l rr oo ha hr : Int32) (bn bw o t cm : Nat → Int32) (a9 v9 l9 o9 R9 st9 on9 lg9 ld9 : Int32) (to9 rd9 tl9 pa9 ln9 pr9 am9 bs9 nb9 : Nat → Int32) (hF : FI num words g) (hW : WS sz tl wh as lo bn bw o t cm) :
    ∃ (r sz' tl' wh' as' lo' a' v' l' r' o' ha' hr' : Int32) (bn' bw' o2 t' cm' : Nat → Int32), fX8_onCycle y x z num words sz tl wh as lo a v l rr oo ha hr bn bw o t cm = some (r, sz', tl', wh', as', lo', a', v', l', r', o', ha', hr', bn', bw', o2, t', cm') ∧ WS sz' tl' wh' as' lo' bn' bw' o2 t' cm' ∧ (fX9_onCycle y x z a9 v9 l9 o9 R9 st9 on9 lg9 ld9 g p to9 rd9 tl9 pa9 ln9 pr9 am9 bs9 nb9).map Prod.fst = some r := by
  obtain ⟨x, rfl, x1, x2⟩ := I_ex x
  obtain ⟨y, rfl, y1, y2⟩ := I_ex y
  obtain ⟨z, rfl, z1, z2⟩ := I_ex z
  obtain ⟨N, W, hV, hWd, hn, hw, hg, hp⟩ := hF
  have sb := st_b hV
  obtain ⟨S, eS⟩ := Int.eq_ofNat_of_zero_le (show 0 ≤ stN N by omega)
  have hF : ∀ c, c < S → ∀ d, nxt N y c = some d → d < S := fun c hc => (nxt_e hV y eS hc).2
  unfold fX8_onCycle fX9_onCycle
  rw [inp8 y1 y2, inp9 y1 y2]
  simp only [bnd1_some]
  by_cases q2 : -99 ≤ y ∧ y ≤ 99
  · rw [if_pos q2, if_neg is1, if_neg is1]
    by_cases q3 : 0 ≤ z
    · obtain ⟨as', lo', a', v', l', r', o', ha', hr', bn', bw', o2, t', cm', e1, hSF, hbn, hWS⟩ := drwX hV hWd hn hw eS q2.1 q2.2 sz tl wh as lo a v l rr oo ha hr bn bw o t cm hW
      obtain ⟨ma, mv, ml, mo, R, ms, mn, mg, md, mp, mto, mrd, mtl, mpa, mln, mpr, mam, mbs, mnb, e2, hRF⟩ := fallX hV hg eS q2.1 q2.2 a9 v9 l9 o9 R9 st9 on9 lg9 ld9 p to9 rd9 tl9 pa9 ln9 pr9 am9 bs9 nb9
      have hP := SF_PG hV eS hSF
      have hS : S ≤ 1024 := by omega
      have hRS := hRF.1
      have hR := hRF.2.1
      have c0 : (0 : Int32) ≤ I z := by rw [L0, I_le (by omega) (by omega) (by omega) (by omega)]; omega
      rw [if_pos c0, if_pos c0, e1, e2, bnd17_some, bnd19_some, J0e, show I R - (1 : Int32) = I ((R : Int) - 1) by rw [L1, I_sub], IJ (show -2147483648 ≤ (R : Int) - 1 by omega) (by omega), inR9 x 0 ((R : Int) - 1) x1 x2 (by omega) (by omega) (by omega) (by omega), bnd1_some]
      rcases cynX hS hP x1 x2 with ⟨c, c1, c2, c3, c4, c5⟩ | ⟨c4, c5⟩
      · obtain ⟨r, m, j1, j2, j3, j4, j5, j6, j7, j8⟩ := RF_at hS hRF c1 c2
        have ex : I x = I (lsN (nxt N y) c : Nat) := by rw [c3]
        have hlb : lsN (nxt N y) c ≤ c := fb_ct_le _ c
        have hcy := cyN_p c1 c2
        obtain ⟨k, k1, k2⟩ := zmod q3 z2 hcy.1 (show cyN (nxt N y) S c ≤ 1024 by omega)
        obtain ⟨e, he⟩ := onC_some c2.2.1 k
        have hb := behX hS hF hP c1 c2 (I z) k1 k2 he
        have ho := onc9 hS hF (fun c hc => (hRF.2.2.1 c hc).1) (I y) (I (lsN (nxt N y) c : Nat)) (I z) g ma mv ml mo (I R) ms mn mg md mp mrd mtl mpa mln mpr mam mbs mnb k c e (by omega) c1 he (99999 - k)
        rw [show 99999 - k + k + 1 = FUEL by show _ = 100000; omega] at ho
        rw [c5, bnd1_some, if_pos (c := (0 : Int32) ≤ I c) (by rw [L0, I_le (by omega) (by omega) (by omega) (by omega)]; omega), if_pos (show 0 ≤ x ∧ x ≤ (R : Int) - 1 by omega), if_neg is1, ex, hb, bnd1_some, clN (show lsN (nxt N y) c < 100000 by omega)]
        simp only [if_neg (gK (show lsN (nxt N y) c < 1024 by omega)), j2]
        rw [clN (show r < 100000 by omega)]
        simp only [if_neg (gK (show r < 1024 by omega))]
        rw [j5, j4, k2, if_neg (by rw [L0, I_eq (by omega) (by omega) (by omega) (by omega)]; omega), ho, bnd1_some]
        exact ⟨_, _, _, _, _, _, _, _, _, _, _, _, _, _, _, _, _, _, rfl, hWS, rfl⟩
      · rw [c5, bnd1_some, if_neg (c := (0 : Int32) ≤ -1) (by decide), if_neg (show ¬ (0 ≤ x ∧ x ≤ (R : Int) - 1) by omega), if_pos is0]
        exact ⟨_, _, _, _, _, _, _, _, _, _, _, _, _, _, _, _, _, _, rfl, hWS, rfl⟩
    · have c0 : ¬ ((0 : Int32) ≤ I z) := by rw [L0, I_le (by omega) (by omega) (by omega) (by omega)]; omega
      rw [if_neg c0, if_neg c0]
      exact ⟨_, _, _, _, _, _, _, _, _, _, _, _, _, _, _, _, _, _, rfl, hW, rfl⟩
  · rw [if_neg q2, if_pos is0, if_pos is0]
    exact ⟨_, _, _, _, _, _, _, _, _, _, _, _, _, _, _, _, _, _, rfl, hW, rfl⟩
