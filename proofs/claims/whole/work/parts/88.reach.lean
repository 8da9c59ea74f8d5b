/-! REACH on both sides -/
def SR (S f : Nat) (q sn path isR : Nat → Int32) : Prop := f ≤ S ∧ (∀ j, j < f → ∃ c : Nat, c < S ∧ q j = I c ∧ path j = I c) ∧ (∀ c, c < 1024 → sn c = isR c) ∧ f = fb_ct (fun c => decide (sn c ≠ 0)) S
theorem nb1 : vp_nar .boolean (1 : Int32) = 1 := by decide +kernel
theorem nb0 : vp_nar .boolean (0 : Int32) = 0 := by decide +kernel
theorem L1024' {k : Nat} (hk : k < 1024) : ¬ ((1024 : Int32) ≤ I k) := by rw [L1024, I_le (by omega) (by omega) (by omega) (by omega)]; omega
theorem gK {k : Nat} (hk : k < 1024) : ¬ (I k < 0 ∨ 1024 ≤ k) := by rw [L0, I_lt (by omega) (by omega) (by omega) (by omega)]; omega
theorem nK {k : Nat} (hk : k < 100000) : ¬ (I k < 0) := by rw [L0, I_lt (by omega) (by omega) (by omega) (by omega)]; omega
theorem SR_add {S f : Nat} {q sn path isR : Nat → Int32} (hS : S ≤ 1024) (h : SR S f q sn path isR) {c : Nat} (hc : c < S) (h0 : sn c = 0) : f < S ∧ SR S (f + 1) (upd q f (I c)) (upd sn c 1) (upd path f (I c)) (upd isR c 1) := by
  obtain ⟨h1, h2, h3, h4⟩ := h
  have hlt : f < S := by
    rcases Nat.lt_or_ge f S with w | w
    · exact w
    · have e : fb_ct (fun c => decide (sn c ≠ 0)) S = S := by omega
      have := fb_ct_all.mp e c hc
      rw [decide_eq_true_iff] at this
      exact absurd h0 this
  refine ⟨hlt, by omega, fun j hj => ?_, fun k hk => ?_, ?_⟩
  · by_cases e : j = f
    · exact ⟨c, hc, by rw [e, upd_s], by rw [e, upd_s]⟩
    · obtain ⟨cc, k1, k2, k3⟩ := h2 j (by omega)
      exact ⟨cc, k1, by rw [upd_o _ _ e, k2], by rw [upd_o _ _ e, k3]⟩
  · by_cases e : k = c
    · rw [e, upd_s, upd_s]
    · rw [upd_o _ _ e, upd_o _ _ e]; exact h3 k hk
  · have hu := fb_ct_upd (fun c => decide (sn c ≠ 0)) true (i := c) (n := S) hc
    have hc2 : fb_ct (fun k => decide (upd sn c 1 k ≠ 0)) S = fb_ct (fun k => if k = c then true else decide (sn k ≠ 0)) S := by
      refine fb_ct_cong fun k hk => ?_
      by_cases e : k = c
      · rw [if_pos e, e, upd_s]; decide
      · rw [if_neg e, upd_o _ _ e]
    rw [hc2]
    rw [if_neg (by rw [decide_eq_true_iff]; exact fun z => z h0), if_pos rfl] at hu
    omega
theorem boor (a b : Bool) : bo a ||| bo b = bo (a || b) := by cases a <;> cases b <;> decide +kernel
theorem bo00 (b : Bool) : ¬ ¬ (bo b = 0 ∨ bo b = 1) := by cases b <;> decide +kernel
theorem ledL {N : Nat → Int} (hV : Vl N) {num g : Nat → Int32} (hn : ∀ j, j < 10 → num j = I (N j)) (hg : ∀ j, j < 10 → g j = I (N j)) {S : Nat} (hS : stN N = S) {B : Int} (B0 : 0 ≤ B) (B1 : B ≤ 99) {c k : Nat} (hc : c < S) (hk : k < 1024) {W : Nat → Int} (hW : Wd N W) (hWc : ∀ k : Nat, (k : Int) < N 0 → W k = unW N c k) {words : Nat → Int32} (hw : ∀ k, k < 3 → words k = I (W k)) :
    ∀ (d : Nat) (v : Int), v + d = B + 1 → -99 ≤ v → ∀ (m1 m2 f : Nat) (ov : Bool) (q sn path isR : Nat → Int32), SR S f q sn path isR → k < f → path k = I c → ∀ (a vv l rr o a9 v9 l9 o9 : Int32) (p : Nat → Int32), ∃ (f' : Nat) (ov' : Bool) (q' sn' path' isR' : Nat → Int32) (a' v' l' r' o' a9' v9' l9' o9' : Int32) (p' : Nat → Int32), fX5_leadOn_L13 (I c) (I B) num (m1 + d + 1) (I v) (I f) (bo ov) q sn a vv l rr o (I (gA N W)) (I (gR N W)) words = some (I f', bo ov', q', sn', a', v', l', r', o') ∧ fX9_reaches_L88 (I B) g (m2 + d + 1) (I k) (I v) a9 v9 l9 o9 (I f) (bo ov) p path isR = some (a9', v9', l9', o9', I f', bo ov', p', path', isR') ∧ SR S f' q' sn' path' isR' ∧ (ov = true → ov' = true) ∧ f ≤ f'
  | 0, v, h, hv, m1, m2, f, ov, q, sn, path, isR, hR, hkf, hpk, a, vv, l, rr, o, a9, v9, l9, o9, p => by
    have hlt : I B < I v := by rw [I_lt (by omega) (by omega) (by omega) (by omega)]; omega
    rw [fX5_leadOn_L13, fX9_reaches_L88, if_pos hlt, if_pos hlt]
    exact ⟨f, ov, _, _, _, _, _, _, _, _, _, _, _, _, _, _, rfl, rfl, hR, id, Nat.le_refl _⟩
  | d + 1, v, h, hv, m1, m2, f, ov, q, sn, path, isR, hR, hkf, hpk, a, vv, l, rr, o, a9, v9, l9, o9, p => by
    have sb := st_b hV
    have hlt : ¬ (I B < I v) := by rw [I_lt (by omega) (by omega) (by omega) (by omega)]; omega
    obtain ⟨p', a', e3⟩ := bhd9 hV hg (c := (c : Int)) (by omega) (by omega) hv (show v ≤ 99 by omega) a9 v9 l9 o9 p
    have ag := agrS hV hWc v
    have hsw := sS_w hV (unW_w hV (c : Int)) v
    have hh := hf_b hV
    have hov : ov = true → (ov || oS N (unW N c) v) = true := fun e => by rw [e]; rfl
    rw [show m1 + (d + 1) + 1 = (m1 + d + 1) + 1 by omega, show m2 + (d + 1) + 1 = (m2 + d + 1) + 1 by omega, fX5_leadOn_L13, fX9_reaches_L88, if_neg hlt, if_neg hlt, wgh8 hV hW hn hw hv (show v ≤ 99 by omega), bnd5_some, clN (by omega), if_neg (gK hk), hpk, e3, bnd6_some, boor, if_neg (bo00 _), ag.2.2.2.1, ag.2.2.2.2]
    have hX : ∀ (F : Int32 → Option ((Int32) × (Int32) × (Nat → Int32) × (Nat → Int32) × (Int32) × (Int32) × (Int32) × (Int32) × (Int32))) , (if bo ov = 0 then (if bo (oS N (unW N c) v) = 0 then F 0 else F 1) else F 1) = F (bo (ov || oS N (unW N c) v)) := by
      intro F
      cases ov <;> cases oS N (unW N c) v
      · rw [if_pos bo_f, if_pos bo_f]; rfl
      · rw [if_pos bo_f, if_neg bo_t]; rfl
      · rw [if_neg bo_t]; rfl
      · rw [if_neg bo_t]; rfl
    unfold fX5_leadOn_j40
    rw [hX (fun z => fX5_leadOn_j45 (I c) (I B) num (fX5_leadOn_L13 (I c) (I B) num (m1 + d + 1)) (I v) z (I f) (bo ov) q sn (I (aS N W v)) (I (vS N W v)) (I (lS N W v)) (I (sS N (unW N c) v)) (bo (oS N (unW N c) v)) (I (gA N W)) (I (gR N W)) words)]
    generalize hgo : (ov || oS N (unW N c) v) = ov2 at hov
    unfold fX5_leadOn_j45
    rw [if_neg (bo00 _), L1, I_add, L1005, I_neg]
    have fin : ∀ {f1 : Nat} {q1 sn1 path1 isR1 : Nat → Int32}, SR S f1 q1 sn1 path1 isR1 → k < f1 → path1 k = I c → f ≤ f1 → ∀ (a vv l rr o a9 v9 l9 o9 : Int32) (p : Nat → Int32), ∃ (f' : Nat) (ov' : Bool) (q' sn' path' isR' : Nat → Int32) (a' v' l' r' o' a9' v9' l9' o9' : Int32) (p' : Nat → Int32), fX5_leadOn_L13 (I c) (I B) num (m1 + d + 1) (I (v + 1)) (I f1) (bo ov2) q1 sn1 a vv l rr o (I (gA N W)) (I (gR N W)) words = some (I f', bo ov', q', sn', a', v', l', r', o') ∧ fX9_reaches_L88 (I B) g (m2 + d + 1) (I k) (I (v + 1)) a9 v9 l9 o9 (I f1) (bo ov2) p path1 isR1 = some (a9', v9', l9', o9', I f', bo ov', p', path', isR') ∧ SR S f' q' sn' path' isR' ∧ (ov = true → ov' = true) ∧ f ≤ f' := by
      intro f1 q1 sn1 path1 isR1 k1 k2 k3 k4 a vv l rr o a9 v9 l9 o9 p
      obtain ⟨f', ov', q', sn', path', isR', a', v', l', r', o', a9', v9', l9', o9', p', g1, g2, g3, g4, g5⟩ := ledL hV hn hg hS B0 B1 hc hk hW hWc hw d (v + 1) (by omega) (by omega) m1 m2 f1 ov2 q1 sn1 path1 isR1 k1 k2 k3 a vv l rr o a9 v9 l9 o9 p
      exact ⟨f', ov', q', sn', path', isR', a', v', l', r', o', a9', v9', l9', o9', p', g1, g2, g3, fun e => g4 (hov e), by omega⟩
    by_cases e : sS N (unW N c) v = -1005
    · have hx : nx N v c = -1 := by unfold nx; rw [if_pos e]
      rw [if_pos (by rw [e]), hx, if_pos (show I (-1) < 0 by decide +kernel)]
      exact fin hR hkf hpk (Nat.le_refl _) _ _ _ _ _ _ _ _ _ _
    · have hx : nx N v c = (sS N (unW N c) v + hf N) * pw (N 1 * (N 0 - 1)) + (c : Int) / pw (N 1) := by unfold nx; rw [if_neg e]
      have hb : 0 ≤ nx N v c ∧ nx N v c < stN N := by
        rw [hx, ← cdB hV (by omega) (by omega)]
        exact cd_b hV (psh_w (unW_w hV c) (by omega))
      obtain ⟨t, et⟩ := Int.eq_ofNat_of_zero_le hb.1
      have ht : t < S := by omega
      have ht2 : t < 1024 := by omega
      rw [if_neg (fun z => e (I_inj (by omega) (by omega) (by omega) (by omega) z)), cbh8 hV hn (c : Int) _ (by omega) (by omega), bnd1_some, ← hx, et]
      unfold fX5_find
      rw [clN (show t < 100000 by omega), clN (show f < 100000 by have := hR.1; omega)]
      simp only [if_neg (nK (show t < 100000 by omega)), if_neg (L1024' ht2), if_neg (gK ht2)]
      rw [← hR.2.2.1 t ht2]
      by_cases e0 : sn t = 0
      · obtain ⟨hfS, hR2⟩ := SR_add (by omega) hR ht e0
        have hf2 : f < 1024 := by omega
        rw [if_pos e0, if_pos e0, if_neg (L1024' hf2), if_neg (gK hf2), if_neg (gK hf2), nb1, bnd3_some, L1, I_add]
        rw [L1] at hR2
        exact fin hR2 (by omega) (by rw [upd_o _ _ (by omega)]; exact hpk) (by omega) _ _ _ _ _ _ _ _ _ _
      · rw [if_neg e0, if_neg e0, bnd3_some]
        exact fin hR hkf hpk (Nat.le_refl _) _ _ _ _ _ _ _ _ _ _
