/-- one step of the search on both sides -/
theorem ledO {N : Nat → Int} (hV : Vl N) {num g : Nat → Int32} (hn : ∀ j, j < 10 → num j = I (N j)) (hg : ∀ j, j < 10 → g j = I (N j)) {S : Nat} (hS : stN N = S) {B : Int} (B0 : 0 ≤ B) (B1 : B ≤ 99) {k f : Nat} {ov : Bool} {q sn path isR : Nat → Int32} (hR : SR S f q sn path isR) (hkf : k < f) {W : Nat → Int} (hW : Wd N W) {words : Nat → Int32} (hw : ∀ k, k < 3 → words k = I (W k)) (a vv l rr o ha hr a9 v9 l9 o9 : Int32) (p : Nat → Int32) :
    ∃ (f' : Nat) (ov' : Bool) (q' sn' path' isR' : Nat → Int32) (a' v' l' r' o' ha' hr' a9' v9' l9' o9' : Int32) (p' w' : Nat → Int32) (W' : Nat → Int), fX5_leadOn (q k) (I B) (I f) (bo ov) q sn a vv l rr o ha hr num words = some (I f', bo ov', q', sn', a', v', l', r', o', ha', hr', w') ∧ fX9_reaches_L88 (I B) g FUEL (I k) (-(I B)) a9 v9 l9 o9 (I f) (bo ov) p path isR = some (a9', v9', l9', o9', I f', bo ov', p', path', isR') ∧ SR S f' q' sn' path' isR' ∧ (ov = true → ov' = true) ∧ f ≤ f' ∧ Wd N W' ∧ ∀ k, k < 3 → w' k = I (W' k) := by
  have sb := st_b hV
  obtain ⟨c, c1, c2, c3⟩ := hR.2.1 k hkf
  have hk : k < 1024 := by have := hR.1; omega
  obtain ⟨w', e2, b1⟩ := unp8' hV hn hw (c : Int) (by omega) (by omega)
  obtain ⟨B, rfl⟩ := Int.eq_ofNat_of_zero_le B0
  have fe : FUEL = (99999 - (2 * B + 1)) + (2 * B + 1) + 1 := by show 100000 = _; omega
  obtain ⟨f', ov', q', sn', path', isR', a', v', l', r', o', a9', v9', l9', o9', p', g1, g2, g3, g4, g5⟩ := ledL hV hn hg hS (B := (B : Int)) (by omega) B1 c1 hk (ovW_w hV hW _) (ovW_a (N := N) (V := W) (c : Int)) b1 (2 * B + 1) (-(B : Int)) (by omega) (by omega) (99999 - (2 * B + 1)) (99999 - (2 * B + 1)) f ov q sn path isR hR hkf c3 a vv l rr o a9 v9 l9 o9 p
  rw [← fe] at g1 g2
  unfold fX5_leadOn
  rw [c2, e2, bnd1_some, gath8 hV (ovW_w hV hW _) hn b1, bnd2_some, I_neg, g1, bnd9_some, g2]
  exact ⟨f', ov', q', sn', path', isR', a', v', l', r', o', _, _, a9', v9', l9', o9', p', w', _, rfl, rfl, g3, g4, g5, ovW_w hV hW _, b1⟩
theorem srX {num q sn words : Nat → Int32} {B : Int32} {x3 : Int32} {f k : Nat} {ov : Bool} (hkf : k < f) (hf : f ≤ 1024) (h : x3 = 0 ∨ ov = false) (n : Nat) (a vv l rr o ha hr : Int32) : fX5_search_L46 B x3 num (n + 1) (I k) (I f) (bo ov) q sn a vv l rr o ha hr words = fX5_search_j74 B x3 num (fX5_search_L46 B x3 num n) (I k) (I f) (bo ov) q sn a vv l rr o ha hr words := by
  rw [fX5_search_L46, if_neg (by rw [I_le (by omega) (by omega) (by omega) (by omega)]; omega), if_neg (L1024' (by omega))]
  rcases h with h | h
  · by_cases c : bo ov = 0
    · rw [if_pos c]
    · rw [if_neg c, if_pos h]
  · rw [h, if_pos bo_f]
theorem outM {N : Nat → Int} (hV : Vl N) {num g : Nat → Int32} (hn : ∀ j, j < 10 → num j = I (N j)) (hg : ∀ j, j < 10 → g j = I (N j)) {S : Nat} (hS : stN N = S) {B : Int} (B0 : 0 ≤ B) (B1 : B ≤ 99) :
    ∀ (d k : Nat), S ≤ k + d → k ≤ S → ∀ (m1 m2 f : Nat) (ov : Bool) (q sn path isR : Nat → Int32), SR S f q sn path isR → ∀ (W : Nat → Int) (hW : Wd N W) (words : Nat → Int32) (hw : ∀ k, k < 3 → words k = I (W k)) (a vv l rr o ha hr a9 v9 l9 o9 : Int32) (p : Nat → Int32), ∃ (f' : Nat) (ov' : Bool) (q' sn' path' isR' : Nat → Int32) (a' v' l' r' o' ha' hr' a9' v9' l9' o9' : Int32) (p' w' : Nat → Int32) (W' : Nat → Int), fX5_search_L46 (I B) 0 num (m1 + d + 1) (I k) (I f) (bo ov) q sn a vv l rr o ha hr words = some (I f', bo ov', q', sn', a', v', l', r', o', ha', hr', w') ∧ fX9_reaches_L77 (I B) g (m2 + d + 1) (I k) a9 v9 l9 o9 (I f) (bo ov) p path isR = some (a9', v9', l9', o9', I f', bo ov', p', path', isR') ∧ SR S f' q' sn' path' isR' ∧ (ov = true → ov' = true) ∧ Wd N W' ∧ ∀ k, k < 3 → w' k = I (W' k) := by
  intro d
  have sb := st_b hV
  induction d with
  | zero =>
    intro k h hkS m1 m2 f ov q sn path isR hR W hW words hw a vv l rr o ha hr a9 v9 l9 o9 p
    have hf := hR.1
    have q1 : I f ≤ I k := by rw [I_le (by omega) (by omega) (by omega) (by omega)]; omega
    rw [fX5_search_L46, fX9_reaches_L77, if_pos q1, if_pos q1]
    exact ⟨f, ov, _, _, _, _, _, _, _, _, _, _, _, _, _, _, _, _, _, W, rfl, rfl, hR, id, hW, hw⟩
  | succ d ih =>
    intro k h hkS m1 m2 f ov q sn path isR hR W hW words hw a vv l rr o ha hr a9 v9 l9 o9 p
    have hf := hR.1
    by_cases hkf : k < f
    · obtain ⟨f', ov', q', sn', path', isR', a', v', l', r', o', ha', hr', a9', v9', l9', o9', p', w', W', g1, g2, g3, g4, g5, g6, g7⟩ := ledO hV hn hg hS B0 B1 (ov := ov) hR hkf hW hw a vv l rr o ha hr a9 v9 l9 o9 p
      have hk : k < 1024 := by omega
      rw [show m1 + (d + 1) + 1 = (m1 + d + 1) + 1 by omega, show m2 + (d + 1) + 1 = (m2 + d + 1) + 1 by omega, srX hkf (by omega) (Or.inl rfl), fX9_reaches_L77, if_neg (by rw [I_le (by omega) (by omega) (by omega) (by omega)]; omega), g2, bnd9_some]
      unfold fX5_search_j74
      rw [clN (by omega), if_neg (gK hk), g1, bnd12_some, L1, I_add]
      obtain ⟨f2, ov2, q2, sn2, path2, isR2, a2, v2, l2, r2, o2, ha2, hr2, a92, v92, l92, o92, p2, w2, W2, k1, k2, k3, k4, k5, k6⟩ := ih (k + 1) (by omega) (by omega) m1 m2 f' ov' q' sn' path' isR' g3 W' g6 w' g7 a' v' l' r' o' ha' hr' a9' v9' l9' o9' p'
      exact ⟨f2, ov2, q2, sn2, path2, isR2, a2, v2, l2, r2, o2, ha2, hr2, a92, v92, l92, o92, p2, w2, W2, k1, k2, k3, fun e => k4 (g4 e), k5, k6⟩
    · have q1 : I f ≤ I k := by rw [I_le (by omega) (by omega) (by omega) (by omega)]; omega
      rw [show m1 + (d + 1) + 1 = (m1 + d + 1) + 1 by omega, show m2 + (d + 1) + 1 = (m2 + d + 1) + 1 by omega, fX5_search_L46, fX9_reaches_L77, if_pos q1, if_pos q1]
      exact ⟨f, ov, _, _, _, _, _, _, _, _, _, _, _, _, _, _, _, _, _, W, rfl, rfl, hR, id, hW, hw⟩
theorem outS {N : Nat → Int} (hV : Vl N) {num g : Nat → Int32} (hn : ∀ j, j < 10 → num j = I (N j)) (hg : ∀ j, j < 10 → g j = I (N j)) {S : Nat} (hS : stN N = S) {B : Int} (B0 : 0 ≤ B) (B1 : B ≤ 99) :
    ∀ (d k : Nat), S ≤ k + d → k ≤ S → ∀ (m1 m2 f : Nat) (ov : Bool) (q sn path isR : Nat → Int32), SR S f q sn path isR → ∀ (W : Nat → Int) (hW : Wd N W) (words : Nat → Int32) (hw : ∀ k, k < 3 → words k = I (W k)) (a vv l rr o ha hr a9 v9 l9 o9 : Int32) (p : Nat → Int32), ∃ (f1 f' : Int32) (ov' : Bool) (q' sn' path' isR' : Nat → Int32) (a' v' l' r' o' ha' hr' a9' v9' l9' o9' : Int32) (p' w' : Nat → Int32) (W' : Nat → Int), fX5_search_L46 (I B) 1 num (m1 + d + 1) (I k) (I f) (bo ov) q sn a vv l rr o ha hr words = some (f1, bo ov', q', sn', a', v', l', r', o', ha', hr', w') ∧ fX9_reaches_L77 (I B) g (m2 + d + 1) (I k) a9 v9 l9 o9 (I f) (bo ov) p path isR = some (a9', v9', l9', o9', f', bo ov', p', path', isR') ∧ Wd N W' ∧ ∀ k, k < 3 → w' k = I (W' k) := by
  intro d
  have sb := st_b hV
  induction d with
  | zero =>
    intro k h hkS m1 m2 f ov q sn path isR hR W hW words hw a vv l rr o ha hr a9 v9 l9 o9 p
    have hf := hR.1
    have q1 : I f ≤ I k := by rw [I_le (by omega) (by omega) (by omega) (by omega)]; omega
    rw [fX5_search_L46, fX9_reaches_L77, if_pos q1, if_pos q1]
    exact ⟨_, _, ov, _, _, _, _, _, _, _, _, _, _, _, _, _, _, _, _, _, W, rfl, rfl, hW, hw⟩
  | succ d ih =>
    intro k h hkS m1 m2 f ov q sn path isR hR W hW words hw a vv l rr o ha hr a9 v9 l9 o9 p
    have hf := hR.1
    by_cases hkf : k < f
    · have hk : k < 1024 := by omega
      cases ov with
      | true =>
        obtain ⟨f2, ov2, q2, sn2, path2, isR2, a2, v2, l2, r2, o2, ha2, hr2, a92, v92, l92, o92, p2, w2, W2, k1, k2, k3, k4, k5, k6⟩ := outM hV hn hg hS B0 B1 (d + 1) k h hkS m1 m2 f true q sn path isR hR W hW words hw a vv l rr o ha hr a9 v9 l9 o9 p
        have e2 := k4 rfl
        subst e2
        rw [k2, show m1 + (d + 1) + 1 = (m1 + d + 1) + 1 by omega, fX5_search_L46, if_neg (by rw [I_le (by omega) (by omega) (by omega) (by omega)]; omega), if_neg (L1024' hk), if_neg bo_t, if_neg (c := (1 : Int32) = 0) (by decide)]
        exact ⟨_, _, true, _, _, _, _, _, _, _, _, _, _, _, _, _, _, _, _, _, W, rfl, rfl, hW, hw⟩
      | false =>
        obtain ⟨f', ov', q', sn', path', isR', a', v', l', r', o', ha', hr', a9', v9', l9', o9', p', w', W', g1, g2, g3, g4, g5, g6, g7⟩ := ledO hV hn hg hS B0 B1 (ov := false) hR hkf hW hw a vv l rr o ha hr a9 v9 l9 o9 p
        rw [show m1 + (d + 1) + 1 = (m1 + d + 1) + 1 by omega, show m2 + (d + 1) + 1 = (m2 + d + 1) + 1 by omega, srX hkf (by omega) (Or.inr rfl), fX9_reaches_L77, if_neg (by rw [I_le (by omega) (by omega) (by omega) (by omega)]; omega), g2, bnd9_some]
        unfold fX5_search_j74
        rw [clN (by omega), if_neg (gK hk), g1, bnd12_some, L1, I_add]
        exact ih (k + 1) (by omega) (by omega) m1 m2 f' ov' q' sn' path' isR' g3 W' g6 w' g7 a' v' l' r' o' ha' hr' a9' v9' l9' o9' p'
    · have q1 : I f ≤ I k := by rw [I_le (by omega) (by omega) (by omega) (by omega)]; omega
      rw [show m1 + (d + 1) + 1 = (m1 + d + 1) + 1 by omega, show m2 + (d + 1) + 1 = (m2 + d + 1) + 1 by omega, fX5_search_L46, fX9_reaches_L77, if_pos q1, if_pos q1]
      exact ⟨_, _, ov, _, _, _, _, _, _, _, _, _, _, _, _, _, _, _, _, _, W, rfl, rfl, hW, hw⟩
theorem clr8 (B x3 : Int32) (num : Nat → Int32) (f ov : Int32) (q : Nat → Int32) (a vv l rr o ha hr : Int32) (w : Nat → Int32) : ∀ d k : Nat, k + d = 1024 → ∀ (m : Nat) (sn : Nat → Int32), ∃ sn', fX5_search_L3 B x3 num (m + d + 1) (I k) f ov q sn a vv l rr o ha hr w = some sn' ∧ ∀ j, j < 1024 → sn' j = if k ≤ j then 0 else sn j := by
  intro d
  induction d with
  | zero =>
    intro k h m sn
    have e : k = 1024 := by omega
    subst e
    rw [fX5_search_L3, if_pos (by decide +kernel)]
    refine ⟨_, rfl, fun j hj => ?_⟩
    rw [if_neg (by omega)]
  | succ d ih =>
    intro k h m sn
    rw [show m + (d + 1) + 1 = (m + d + 1) + 1 by omega, fX5_search_L3, if_neg (L1024' (by omega)), clN (by omega), if_neg (gK (by omega)), nb0, L1, I_add]
    obtain ⟨sn', e, hj⟩ := ih (k + 1) (by omega) m (upd sn k 0)
    refine ⟨sn', e, fun j hj2 => ?_⟩
    rw [hj j hj2]
    by_cases c1 : k + 1 ≤ j
    · rw [if_pos c1, if_pos (by omega)]
    · rw [if_neg c1]
      by_cases c2 : k ≤ j
      · have ej : j = k := by omega
        rw [if_pos c2, ej, upd_s]
      · rw [if_neg c2, upd_o _ _ (by omega)]
theorem clr9 (B : Int32) (g : Nat → Int32) (a v l o re an : Int32) (p path : Nat → Int32) : ∀ d k : Nat, k + d = 1024 → ∀ (m : Nat) (sn : Nat → Int32), ∃ sn', fX9_reaches_L2 B g (m + d + 1) (I k) a v l o re an p path sn = some sn' ∧ ∀ j, j < 1024 → sn' j = if k ≤ j then 0 else sn j := by
  intro d
  induction d with
  | zero =>
    intro k h m sn
    have e : k = 1024 := by omega
    subst e
    rw [fX9_reaches_L2, if_pos (by decide +kernel)]
    refine ⟨_, rfl, fun j hj => ?_⟩
    rw [if_neg (by omega)]
  | succ d ih =>
    intro k h m sn
    rw [show m + (d + 1) + 1 = (m + d + 1) + 1 by omega, fX9_reaches_L2, if_neg (L1024' (by omega)), clN (by omega), if_neg (gK (by omega)), nb0, L1, I_add]
    obtain ⟨sn', e, hj⟩ := ih (k + 1) (by omega) m (upd sn k 0)
    refine ⟨sn', e, fun j hj2 => ?_⟩
    rw [hj j hj2]
    by_cases c1 : k + 1 ≤ j
    · rw [if_pos c1, if_pos (by omega)]
    · rw [if_neg c1]
      by_cases c2 : k ≤ j
      · have ej : j = k := by omega
        rw [if_pos c2, ej, upd_s]
      · rw [if_neg c2, upd_o _ _ (by omega)]
theorem ziS (num : Nat → Int32) (n k : Nat) (hk : k < 3) (w : Nat → Int32) : fX5_zeroIn_L2 num (n + 1) (I k) w = fX5_zeroIn_L2 num n (I (k + 1 : Nat)) (upd w k (I 0)) := by
  have i2 : ((k : Int)).toNat = k := by omega
  rw [fX5_zeroIn_L2]
  simp (disch := omega) only [L0, L1, L3, I_add, I_sub, I_mul, I_neg, I_lt, I_le, I_eq, I_cl, i2]
  rw [if_neg (by omega), if_neg (by omega)]
  rfl
theorem ziE (num : Nat → Int32) (n : Nat) (w : Nat → Int32) : fX5_zeroIn_L2 num (n + 1) (I (3 : Nat)) w = some w := by
  rw [fX5_zeroIn_L2, if_pos (by decide +kernel)]
theorem zin8 {N : Nat → Int} (hV : Vl N) {num : Nat → Int32} (hn : ∀ j, j < 10 → num j = I (N j)) (w : Nat → Int32) : ∃ w', fX5_zeroIn num w = some (I (cd N (fun _ => 0)), w') ∧ ∀ k, k < 3 → w' k = I ((fun _ => (0 : Int)) k) := by
  have hz : ∀ k, k < 3 → (upd (upd (upd w 0 (I 0)) (0 + 1) (I 0)) (0 + 1 + 1) (I 0)) k = I ((fun _ => (0 : Int)) k) := by
    intro k hk
    have h : k = 0 ∨ k = 1 ∨ k = 2 := by omega
    rcases h with rfl | rfl | rfl <;> simp [upd]
  unfold fX5_zeroIn
  rw [show FUEL = 99996 + 4 from rfl, L0, show I (0 : Int) = I ((0 : Nat) : Int) from rfl, ziS _ _ 0 (by omega), ziS _ _ 1 (by omega), ziS _ _ 2 (by omega), ziE, bnd1_some, pkd8 hV hn hz, bnd1_some]
  exact ⟨_, rfl, hz⟩
theorem Wd0 {N : Nat → Int} (hV : Vl N) : Wd N (fun _ => 0) := fun k hk => by
  have := hf_b hV
  show -hf N ≤ 0 ∧ (0 : Int) < hf N
  omega
/-- both sides before the search -/
theorem prep {N : Nat → Int} (hV : Vl N) {num g : Nat → Int32} (hn : ∀ j, j < 10 → num j = I (N j)) (hg : ∀ j, j < 10 → g j = I (N j)) {S : Nat} (hS : stN N = S) (B x3 : Int32) (fd ov : Int32) (q sn : Nat → Int32) (a vv l rr o ha hr : Int32) (w : Nat → Int32) (a9 v9 l9 o9 re an : Int32) (p path isR : Nat → Int32) :
    ∃ (q' sn' path' isR' w' : Nat → Int32), SR S 1 q' sn' path' isR' ∧ (∀ k, k < 3 → w' k = I ((fun _ => (0 : Int)) k)) ∧ fX5_search B x3 fd ov q sn a vv l rr o ha hr num w = (bnd12 (fX5_search_L46 B x3 num FUEL (I (0 : Nat)) (I (1 : Nat)) (bo false) q' sn' a vv l rr o ha hr w') fun o19 o20 o21 o22 o23 o24 o25 o26 o27 o28 o29 o30 => some (o19, o20, o21, o22, o23, o24, o25, o26, o27, o28, o29, o30)) ∧ ∃ p', fX9_reaches B a9 v9 l9 o9 re an g p path isR = (bnd9 (fX9_reaches_L77 B g FUEL (I (0 : Nat)) a9 v9 l9 o9 (I (1 : Nat)) (bo false) p' path' isR') fun o18 o19 o20 o21 o22 o23 o24 o25 o26 => some (o18, o19, o20, o21, o22, o23, o24, o25, o26)) := by
  have sb := st_b hV
  have cb := cd_b hV (Wd0 hV)
  obtain ⟨c, ec⟩ := Int.eq_ofNat_of_zero_le cb.1
  have hc : c < S := by omega
  obtain ⟨sn1, e1, h1⟩ := clr8 B x3 num fd ov q a vv l rr o ha hr w 1024 0 (by omega) 98975 sn
  obtain ⟨isR1, e2, h2⟩ := clr9 B g a9 v9 l9 o9 re an p path 1024 0 (by omega) 98975 isR
  obtain ⟨w', e3, h3⟩ := zin8 hV hn w
  have hz : ∀ k, k < 3 → (upd (upd (upd p 0 (0:Int32)) 1 (0:Int32)) 2 (0:Int32)) k = I ((fun _ => (0 : Int)) k) := by
    intro k hk
    have h : k = 0 ∨ k = 1 ∨ k = 2 := by omega
    rcases h with rfl | rfl | rfl <;> simp [upd, L0]
  have e4 := pkd9 hV hg hz
  have s0 : ∀ k, k < 1024 → sn1 k = 0 := fun k hk => by rw [h1 k hk, if_pos (by omega)]
  have r0 : ∀ k, k < 1024 → isR1 k = 0 := fun k hk => by rw [h2 k hk, if_pos (by omega)]
  have hR0 : SR S 0 q sn1 path isR1 := ⟨by omega, fun j hj => absurd hj (by omega), fun k hk => by rw [s0 k hk, r0 k hk], (fb_ct_zero.mpr fun k hk => by rw [s0 k (by omega)]; decide).symm⟩
  obtain ⟨-, hR1⟩ := SR_add (by omega) hR0 hc (s0 c (by omega))
  refine ⟨_, _, _, _, w', hR1, h3, ?_, ?_⟩
  · unfold fX5_search
    rw [L0, show I (0 : Int) = I ((0 : Nat) : Int) from rfl]
    rw [show 98975 + 1024 + 1 = FUEL from rfl] at e1
    rw [e1, bnd1_some, e3, bnd2_some, ec]
    have hfd : fX5_find (I c) (I (0 : Nat)) q sn1 = some (I (1 : Nat), upd q 0 (I c), upd sn1 c 1) := by
      unfold fX5_find
      rw [clN (show c < 100000 by omega), clN (show 0 < 100000 by omega)]
      simp only [if_neg (nK (show c < 100000 by omega)), if_neg (L1024' (show c < 1024 by omega)), if_neg (gK (show c < 1024 by omega)), if_neg (L1024' (show 0 < 1024 by omega)), if_neg (gK (show 0 < 1024 by omega))]
      rw [if_pos (s0 c (by omega)), nb1, L1, I_add]
      rfl
    rw [hfd, bnd3_some]
    rfl
  · refine ⟨upd (upd (upd p 0 (0:Int32)) 1 (0:Int32)) 2 (0:Int32), ?_⟩
    unfold fX9_reaches
    rw [show 98975 + 1024 + 1 = FUEL from rfl, show I ((0 : Nat) : Int) = 0 from rfl] at e2
    rw [e2, bnd1_some, e4, bnd1_some, ec, upd_s, clN (by omega), if_neg (gK (by omega)), nb1]
    rfl
theorem p_reach (x y : Int32) (num words g tn tw p : Nat → Int32) (a v l rr o ha hr fd ov : Int32) (q sn : Nat → Int32) (a9 v9 l9 o9 re an : Int32) (path isR : Nat → Int32) (hF : FI num words g) :
    ∃ r, (fX8_reach x y num words a v l rr o ha hr tn tw fd ov q sn).map Prod.fst = some r ∧ (fX9_reach x y a9 v9 l9 o9 re an g p path isR).map Prod.fst = some r := by
  obtain ⟨x, rfl, x1, x2⟩ := I_ex x
  obtain ⟨y, rfl, y1, y2⟩ := I_ex y
  obtain ⟨N, W, hV, hW, hn, hw, hg, hp⟩ := hF
  have sb := st_b hV
  unfold fX8_reach fX9_reach
  rw [M0, M20, M1, inR9 x 0 20 x1 x2 (by omega) (by omega) (by omega) (by omega), bnd1_some, inR9 y 0 1 y1 y2 (by omega) (by omega) (by omega) (by omega), bnd1_some, L20]
  by_cases c : 0 ≤ x ∧ x ≤ 20
  · rw [if_neg (c := I x < 0) (by rw [L0, I_lt (by omega) (by omega) (by omega) (by omega)]; omega), if_neg (c := I 20 < I x) (by rw [I_lt (by omega) (by omega) (by omega) (by omega)]; omega), if_pos c, if_neg is1]
    by_cases cy : 0 ≤ y ∧ y ≤ 1
    · rw [if_neg (c := I y < 0) (by rw [L0, I_lt (by omega) (by omega) (by omega) (by omega)]; omega), if_pos (c := I y ≤ (1 : Int32)) (by rw [L1, I_le (by omega) (by omega) (by omega) (by omega)]; omega), if_pos cy, if_neg is1]
      obtain ⟨S, eS⟩ := Int.eq_ofNat_of_zero_le (show 0 ≤ stN N by omega)
      obtain ⟨n', w', e1, b1, b2, -⟩ := tak8 tn tw num words
      have hn' : ∀ j, j < 10 → n' j = I (N j) := fun j hj => (b1 j hj).trans (hn j hj)
      obtain ⟨q', sn', path', isR', w2, hR, hw2, f1, p', f2⟩ := prep hV hn' hg eS (I x) 0 fd ov q sn a v l rr o ha hr w' a9 v9 l9 o9 re an p path isR
      obtain ⟨f2', ov2, q2, sn2, path2, isR2, a2, v2, l2, r2, o2, ha2, hr2, a92, v92, l92, o92, p2, w3, W2, k1, k2, k3, k4, k5, k6⟩ := outM hV hn' hg eS (B := x) c.1 (by omega) S 0 (by omega) (by omega) (99999 - S) (99999 - S) 1 false q' sn' path' isR' hR _ (Wd0 hV) w2 hw2 a v l rr o ha hr a9 v9 l9 o9 p'
      rw [show 99999 - S + S + 1 = FUEL by show _ = 100000; omega] at k1 k2
      rw [e1, bnd2_some, f1, k1, bnd12_some, bnd12_some, f2, k2, bnd9_some, bnd9_some]
      by_cases y0 : I y = 0
      · rw [if_pos y0, if_pos y0]
        exact ⟨_, rfl, rfl⟩
      · rw [if_neg y0, if_neg y0]
        by_cases o0 : bo ov2 = 0
        · rw [if_pos o0, if_pos o0]
          exact ⟨_, rfl, rfl⟩
        · rw [if_neg o0, if_neg o0]
          exact ⟨_, rfl, rfl⟩
    · rw [if_neg cy, if_pos is0]
      by_cases cy0 : y < 0
      · rw [if_pos (c := I y < 0) (by rw [L0, I_lt (by omega) (by omega) (by omega) (by omega)]; omega)]
        exact ⟨_, rfl, rfl⟩
      · rw [if_neg (c := I y < 0) (by rw [L0, I_lt (by omega) (by omega) (by omega) (by omega)]; omega), if_neg (c := I y ≤ (1 : Int32)) (by rw [L1, I_le (by omega) (by omega) (by omega) (by omega)]; omega)]
        exact ⟨_, rfl, rfl⟩
  · rw [if_neg c, if_pos is0]
    by_cases cx0 : x < 0
    · rw [if_pos (c := I x < 0) (by rw [L0, I_lt (by omega) (by omega) (by omega) (by omega)]; omega)]
      exact ⟨_, rfl, rfl⟩
    · rw [if_neg (c := I x < 0) (by rw [L0, I_lt (by omega) (by omega) (by omega) (by omega)]; omega), if_pos (c := I 20 < I x) (by rw [I_lt (by omega) (by omega) (by omega) (by omega)]; omega)]
      exact ⟨_, rfl, rfl⟩
