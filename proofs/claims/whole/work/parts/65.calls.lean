/-! the filter of both sides, and the calls of one step -/
def FR (N W : Nat → Int) (num words g : Nat → Int32) : Prop := Vl N ∧ Wd N W ∧ (∀ j, j < 10 → num j = I (N j)) ∧ (∀ k, k < 3 → words k = I (W k)) ∧ (∀ j, j < 10 → g j = I (N j)) ∧ ∀ k, k < 3 → g (10 + k) = I (W k)
def FI (num words g : Nat → Int32) : Prop := ∃ N W, FR N W num words g
theorem upto {P : Nat → Nat → Prop} {n : Nat} (h0 : P 0 n) (h1 : ∀ d k, k < n → P d (k + 1) → P (d + 1) k) : ∀ d k, k + d = n → P d k
  | 0, k, h => by
    have e : k = n := by omega
    rw [e]; exact h0
  | d + 1, k, h => h1 d k (by omega) (upto h0 h1 d (k + 1) (by omega))
theorem bgS (g : Nat → Int32) (n k : Nat) (hk : k < 3) (p : Nat → Int32) : fX9_begins_L2 g (n + 1) (I k) p = fX9_begins_L2 g n (I (k + 1 : Nat)) (upd p k (g (10 + k))) := by
  have i1 : ((10 : Int) + (k : Int)).toNat = 10 + k := by omega
  have i2 : ((k : Int)).toNat = k := by omega
  rw [fX9_begins_L2]
  simp (disch := omega) only [L0, L1, L3, L10, I_add, I_sub, I_mul, I_neg, I_lt, I_le, I_eq, I_cl, i1, i2]
  rw [if_neg (by omega), if_neg (by omega), if_neg (by omega)]
  rfl
theorem bgE (g : Nat → Int32) (n : Nat) (p : Nat → Int32) : fX9_begins_L2 g (n + 1) (I (3 : Nat)) p = some p := by
  rw [fX9_begins_L2, if_pos (by decide +kernel)]
theorem beg9 (g p : Nat → Int32) : ∃ p', fX9_begins g p = some p' ∧ ∀ k, k < 3 → p' k = g (10 + k) := by
  unfold fX9_begins
  rw [show FUEL = 99996 + 4 from rfl, L0, show I (0 : Int) = I ((0 : Nat) : Int) from rfl, bgS _ _ 0 (by omega), bgS _ _ 1 (by omega), bgS _ _ 2 (by omega), bgE, bnd1_some]
  refine ⟨_, rfl, fun k hk => ?_⟩
  have h : k = 0 ∨ k = 1 ∨ k = 2 := by omega
  rcases h with rfl | rfl | rfl <;> simp [upd]
theorem lyS (p : Nat → Int32) (n k : Nat) (hk : k < 3) (g : Nat → Int32) : fX9_lays_L2 p (n + 1) (I k) g = fX9_lays_L2 p n (I (k + 1 : Nat)) (upd g (10 + k) (p k)) := by
  have i1 : ((10 : Int) + (k : Int)).toNat = 10 + k := by omega
  have i2 : ((k : Int)).toNat = k := by omega
  rw [fX9_lays_L2]
  simp (disch := omega) only [L0, L1, L3, L10, I_add, I_sub, I_mul, I_neg, I_lt, I_le, I_eq, I_cl, i1, i2]
  rw [if_neg (by omega), if_neg (by omega), if_neg (by omega)]
  rfl
theorem lyE (p : Nat → Int32) (n : Nat) (g : Nat → Int32) : fX9_lays_L2 p (n + 1) (I (3 : Nat)) g = some g := by
  rw [fX9_lays_L2, if_pos (by decide +kernel)]
theorem lay9 (g p : Nat → Int32) : ∃ g', fX9_lays g p = some g' ∧ (∀ j, j < 10 → g' j = g j) ∧ ∀ k, k < 3 → g' (10 + k) = p k := by
  unfold fX9_lays
  rw [show FUEL = 99996 + 4 from rfl, L0, show I (0 : Int) = I ((0 : Nat) : Int) from rfl, lyS _ _ 0 (by omega), lyS _ _ 1 (by omega), lyS _ _ 2 (by omega), lyE, bnd1_some]
  refine ⟨_, rfl, fun j hj => ?_, fun k hk => ?_⟩
  · rw [upd_o _ _ (by omega), upd_o _ _ (by omega), upd_o _ _ (by omega)]
  · have h : k = 0 ∨ k = 1 ∨ k = 2 := by omega
    rcases h with rfl | rfl | rfl <;> simp [upd]
theorem tak8 (num words num2 words2 : Nat → Int32) : ∃ n' w', fX3_take num words num2 words2 = some (n', w') ∧ (∀ j, j < 10 → n' j = num2 j) ∧ (∀ k, k < 3 → w' k = words2 k) ∧ ∀ j, 10 ≤ j → n' j = num j := by
  unfold fX3_take
  rw [if_neg (by decide +kernel), if_neg (by decide +kernel), show (0 : Int32).toNatClampNeg = 0 from rfl, show (10 : Int32).toNatClampNeg = 10 from rfl, show (3 : Int32).toNatClampNeg = 3 from rfl]
  refine ⟨_, _, rfl, fun j hj => ?_, fun k hk => ?_, fun j hj => ?_⟩
  · unfold va_cpy
    rw [if_pos (by omega)]
    congr 1; omega
  · unfold va_cpy
    rw [if_pos (by omega)]
    congr 1; omega
  · unfold va_cpy
    rw [if_neg (by omega)]
theorem inp8 {z : Int} (h1 : -2147483648 ≤ z) (h2 : z < 2147483648) : fX8_isInput (I z) = some (if -99 ≤ z ∧ z ≤ 99 then I 1 else I 0) := by
  unfold fX8_isInput
  simp (disch := omega) only [L0, L1, L99, I_neg, I_lt]
  (repeat' split) <;> first | rfl | omega
theorem inp9 {z : Int} (h1 : -2147483648 ≤ z) (h2 : z < 2147483648) : fX9_isInput (I z) = some (if -99 ≤ z ∧ z ≤ 99 then I 1 else I 0) := by
  unfold fX9_isInput
  simp (disch := omega) only [L0, L1, M99, J_neg, J_le, IJ, inI, bnd1_some, b01, not_true, if_false]
theorem knd8 {z : Int} (h1 : -2147483648 ≤ z) (h2 : z < 2147483648) : fX8_isKind (I z) = some (if 0 ≤ z ∧ z ≤ 4 then I 1 else I 0) := by
  unfold fX8_isKind
  simp (disch := omega) only [L0, L1, L5, I_neg, I_lt, I_le]
  (repeat' split) <;> first | rfl | omega
def CI (hc1 : Int32) (c1 : Nat → Int32) (hc2 : Int32) (c2 : Nat → Int32) : Prop := hc2 = hc1 ∧ (hc1 ≠ 0 → ∀ j, j < 3 → c2 j = c1 j)
theorem i01 : I 1 ≠ I 0 := by decide +kernel
theorem CI_tell (a b c : Int32) (c1 c2 : Nat → Int32) : CI 1 (upd (upd (upd c1 0 a) 1 b) 2 c) 1 (upd (upd (upd c2 0 a) 1 b) 2 c) := by
  refine ⟨rfl, fun _ j hj => ?_⟩
  have h : j = 0 ∨ j = 1 ∨ j = 2 := by omega
  rcases h with rfl | rfl | rfl <;> simp [upd]
theorem p_step (x hc1 hc2 d1 d2 a v l r o ha hr a9 v9 l9 o9 : Int32) (num words g p c1 c2 : Nat → Int32) (hF : FI num words g) (hC : CI hc1 c1 hc2 c2) (hd : d2 = d1) :
    ∃ r' hc' d' A V L R O HA HR w' c' d9' A9 V9 L9 O9 hc9' g' p' c9', fX8_step x hc1 d1 a v l r o ha hr num words c1 = some (r', hc', d', A, V, L, R, O, HA, HR, w', c') ∧ fX9_step x d2 a9 v9 l9 o9 hc2 g p c2 = some (r', d9', A9, V9, L9, O9, hc9', g', p', c9') ∧ FI num w' g' ∧ CI hc' c' hc9' c9' ∧ d9' = d' := by
  subst hd
  obtain ⟨z, rfl, z1, z2⟩ := I_ex x
  obtain ⟨N, W, hV, hW, hn, hw, hg, hp⟩ := hF
  unfold fX8_step fX9_step
  rw [inp8 z1 z2, inp9 z1 z2, bnd1_some, bnd1_some, L0]
  by_cases c : -99 ≤ z ∧ z ≤ 99
  · obtain ⟨p1, e1, hp1⟩ := beg9 g p
    obtain ⟨p2, e2, hH, hG⟩ := stp9 hV hW hg (fun k hk => (hp1 k hk).trans (hp k hk)) c.1 c.2 a9 v9 l9 o9
    have hsw := sS_w hV hW z
    have hh := hf_b hV
    rw [if_pos c, if_neg i01, if_neg i01, wei8 hV hW hn hw c.1 c.2, bnd7_some, e1, bnd1_some, e2, bnd6_some, L1005, I_neg]
    by_cases e : sS N W z = -1005
    · rw [if_pos (by rw [e]), if_pos (by rw [e]), e]
      exact ⟨_, _, _, _, _, _, _, _, _, _, _, _, _, _, _, _, _, _, _, _, _, rfl, rfl, ⟨N, W, hV, hW, hn, hw, hg, hp⟩, CI_tell .., rfl⟩
    · have ne : ¬ I (sS N W z) = I (-1005) := fun q => e (by rw [I_eq (by omega) (by omega) (by omega) (by omega)] at q; exact q)
      obtain ⟨w', e3, hw'⟩ := psh8 hV hn hw (sS N W z)
      obtain ⟨g', e4, hg', hp'⟩ := lay9 g p2
      rw [if_neg ne, if_neg ne, e3, bnd1_some, e4, bnd1_some]
      exact ⟨_, _, _, _, _, _, _, _, _, _, _, _, _, _, _, _, _, _, _, _, _, rfl, rfl, ⟨N, psh N W (sS N W z), hV, psh_w hW (by omega), hn, hw', fun j hj => (hg' j hj).trans (hg j hj), fun k hk => (hp' k hk).trans (hG e k hk)⟩, hC, rfl⟩
  · rw [if_neg c, if_pos rfl, if_pos rfl]
    exact ⟨_, _, _, _, _, _, _, _, _, _, _, _, _, _, _, _, _, _, _, _, _, rfl, rfl, ⟨N, W, hV, hW, hn, hw, hg, hp⟩, hC, rfl⟩
theorem wb8 (y : Int) (y1 : -2147483648 ≤ y) (y2 : y < 2147483648) {α : Type} (A B C : α) : (if I y < I 0 then A else if I y ≤ I 4 then B else C) = if 0 ≤ y ∧ y ≤ 4 then B else (if y < 0 then A else C) := by
  simp (disch := omega) only [I_lt, I_le]
  (repeat' split) <;> first | rfl | omega
theorem p_would (x y a v l r o ha hr a9 v9 l9 o9 : Int32) (num words g p : Nat → Int32) (hF : FI num words g) :
    ∃ r' A V L R O HA HR A9 V9 L9 O9 p', fX8_would x y a v l r o ha hr num words = some (r', A, V, L, R, O, HA, HR) ∧ fX9_would x y a9 v9 l9 o9 g p = some (r', A9, V9, L9, O9, p') := by
  obtain ⟨z, rfl, z1, z2⟩ := I_ex x
  obtain ⟨y, rfl, y1, y2⟩ := I_ex y
  obtain ⟨N, W, hV, hW, hn, hw, hg, hp⟩ := hF
  unfold fX8_would fX9_would
  rw [inp8 z1 z2, inp9 z1 z2, bnd1_some, bnd1_some, L0]
  by_cases c : -99 ≤ z ∧ z ≤ 99
  · obtain ⟨p1, e1, hp1⟩ := beg9 g p
    obtain ⟨p2, e2, hH, hG⟩ := stp9 hV hW hg (fun k hk => (hp1 k hk).trans (hp k hk)) c.1 c.2 a9 v9 l9 o9
    rw [if_pos c, if_neg i01, if_neg i01, wei8 hV hW hn hw c.1 c.2, bnd7_some, e1, bnd1_some, e2, bnd6_some, L4, wb8 y y1 y2, IJ y1 y2, M0, M4, inI, bnd1_some]
    by_cases q : 0 ≤ y ∧ y ≤ 4
    · rw [if_pos q, if_pos (c := J 0 ≤ J y ∧ J y ≤ J 4) ⟨(J_le (by omega) (by omega) (by omega) (by omega)).mpr q.1, (J_le (by omega) (by omega) (by omega) (by omega)).mpr q.2⟩, if_neg i01]
      by_cases y0 : I y = I 0
      · rw [if_pos y0, if_pos y0]
        exact ⟨_, _, _, _, _, _, _, _, _, _, _, _, _, rfl, rfl⟩
      rw [if_neg y0, if_neg y0]
      by_cases y0 : I y = 1
      · rw [if_pos y0, if_pos y0]
        exact ⟨_, _, _, _, _, _, _, _, _, _, _, _, _, rfl, rfl⟩
      rw [if_neg y0, if_neg y0]
      by_cases y0 : I y = 2
      · rw [if_pos y0, if_pos y0]
        exact ⟨_, _, _, _, _, _, _, _, _, _, _, _, _, rfl, rfl⟩
      rw [if_neg y0, if_neg y0]
      by_cases y0 : I y = 3
      · rw [if_pos y0, if_pos y0]
        exact ⟨_, _, _, _, _, _, _, _, _, _, _, _, _, rfl, rfl⟩
      rw [if_neg y0, if_neg y0]
      by_cases y0 : bo (oS N W z) = I 0
      · rw [if_pos y0, if_pos y0]
        exact ⟨_, _, _, _, _, _, _, _, _, _, _, _, _, rfl, rfl⟩
      rw [if_neg y0, if_neg y0]
      exact ⟨_, _, _, _, _, _, _, _, _, _, _, _, _, rfl, rfl⟩
    · rw [if_neg q, if_neg (c := J 0 ≤ J y ∧ J y ≤ J 4) (fun w => q ⟨(J_le (by omega) (by omega) (by omega) (by omega)).mp w.1, (J_le (by omega) (by omega) (by omega) (by omega)).mp w.2⟩), if_pos rfl]
      by_cases q2 : y < 0
      · rw [if_pos q2]
        exact ⟨_, _, _, _, _, _, _, _, _, _, _, _, _, rfl, rfl⟩
      · rw [if_neg q2]
        exact ⟨_, _, _, _, _, _, _, _, _, _, _, _, _, rfl, rfl⟩
  · rw [if_neg c, if_pos rfl, if_pos rfl]
    exact ⟨_, _, _, _, _, _, _, _, _, _, _, _, _, rfl, rfl⟩
theorem M100k : (100000 : Int64) = J 100000 := by decide +kernel
theorem L100k : (100000 : Int32) = I 100000 := by decide +kernel
theorem tb6 : tb tHIGH 6 = I 6 := by decide +kernel
theorem p_rounded (x y v : Int32) : ∃ r, fX8_rounded x y v = some r ∧ fX9_rounded x y v = some r := by
  obtain ⟨x, rfl, x1, x2⟩ := I_ex x
  obtain ⟨y, rfl, y1, y2⟩ := I_ex y
  obtain ⟨v, rfl, v1, v2⟩ := I_ex v
  unfold fX8_rounded fX9_rounded
  rw [knd8 x1 x2, bnd1_some, tb6]
  simp (disch := omega) only [IJ, M0, M4, M6, M100k, L100k, L0, I_neg, J_neg, inI, J_le, bnd1_some, b0, I_lt, I_le, I_eq, not_and]
  (repeat' split) <;> first | exact ⟨_, rfl, rfl⟩ | (exfalso; omega) | (rw [rnd8 (by omega) (by omega) (by omega) (by omega) (by omega) (by omega), rnd9 (by omega) (by omega) (by omega) (by omega) (by omega) (by omega), bnd1_some]; exact ⟨_, rfl, rfl⟩)
theorem p_bounded (x v : Int32) (num words g : Nat → Int32) (hF : FI num words g) : ∃ r, fX8_bounded x v num words = some r ∧ fX9_bounded x v g = some r := by
  obtain ⟨x, rfl, x1, x2⟩ := I_ex x
  obtain ⟨v, rfl, v1, v2⟩ := I_ex v
  obtain ⟨N, W, hV, hW, hn, hw, hg, hp⟩ := hF
  have hb := hV.2.1
  unfold fX8_bounded fX9_bounded
  rw [knd8 x1 x2, bnd1_some, hl9 (hg 1 (by omega)) hb.1 hb.2 v1 v2, bnd1_some]
  simp (disch := omega) only [IJ, M0, M4, M6, M100k, L100k, L0, I_neg, J_neg, inI, J_le, bnd1_some, b0, I_lt, I_le, I_eq, not_and]
  have g10 : g 10 = I (W 0) := hp 0 (by omega)
  have kk : 0 ≤ x → x ≤ 4 → -100000 ≤ v → v ≤ 100000 → ∃ r, (bnd1 (fX3_toWord (I x) (I v) num words) fun r2 => some r2) = some r ∧ (if v < -pw (N 1 - 1) ∨ pw (N 1 - 1) ≤ v then bnd1 (fX9_boundedBy (I x) (I v) (g 10) g) fun r4 => some r4 else some (I v)) = some r := by
    intro c1 c2 c3 c4
    rw [wd8 (hn 1 (by omega)) hb.1 hb.2 (hw 0 (by omega)) c1 c2 (by omega) (by omega), bnd1_some, g10, wd9 (hg 1 (by omega)) hb.1 hb.2 c1 c2 (by omega) (by omega), bnd1_some]
    unfold bI9
    by_cases c6 : v < -pw (N 1 - 1) ∨ pw (N 1 - 1) ≤ v
    · rw [if_pos c6, if_pos c6]; exact ⟨_, rfl, rfl⟩
    · rw [if_neg c6, if_neg c6]; exact ⟨_, rfl, rfl⟩
  by_cases q : (0 ≤ x ∧ x ≤ 4) ∧ -100000 ≤ v ∧ v ≤ 100000
  · obtain ⟨⟨c1, c2⟩, c3, c4⟩ := q
    obtain ⟨r, e1, e2⟩ := kk c1 c2 c3 c4
    refine ⟨r, ?_, ?_⟩
    · rw [if_neg (by omega), if_neg (by omega), if_pos (by omega), e1]
    · rw [if_neg (by omega), if_neg (by omega)]
      rw [← e2]
      by_cases c6 : v < -pw (N 1 - 1) ∨ pw (N 1 - 1) ≤ v
      · rw [if_pos c6, if_pos c6, if_pos rfl]
      · rw [if_neg c6, if_neg c6, if_neg i01]
  · refine ⟨I (-1001), ?_, ?_⟩
    · (repeat' split) <;> first | rfl | (exfalso; omega)
    · (repeat' split) <;> first | rfl | (exfalso; omega)
theorem p_starts (num words g : Nat → Int32) (hF : FI num words g) : ∃ r, fX8_starts num = some r ∧ fX9_starts g = some r := by
  obtain ⟨N, W, hV, hW, hn, hw, hg, hp⟩ := hF
  unfold fX8_starts
  rw [sta8 hV hn, sta9 hV hg, bnd1_some]
  exact ⟨_, rfl, rfl⟩
theorem cod9 {N W : Nat → Int} (hV : Vl N) {g : Nat → Int32} (hg : ∀ j, j < 10 → g j = I (N j)) (hp : ∀ k, k < 3 → g (10 + k) = I (W k)) (p : Nat → Int32) : ∃ p', fX9_code g p = some (I (cd N W), p') := by
  unfold fX9_code
  obtain ⟨p1, e1, hp1⟩ := beg9 g p
  rw [e1, bnd1_some, pkd9 hV hg (fun k hk => (hp1 k hk).trans (hp k hk)), bnd1_some]
  exact ⟨_, rfl⟩
theorem p_code (num words g p : Nat → Int32) (hF : FI num words g) : ∃ r p', fX8_code num words = some r ∧ fX9_code g p = some (r, p') := by
  obtain ⟨N, W, hV, hW, hn, hw, hg, hp⟩ := hF
  obtain ⟨p', e⟩ := cod9 hV hg hp p
  unfold fX8_code
  rw [pkd8 hV hn hw, bnd1_some]
  exact ⟨_, _, rfl, e⟩
