/-! the RUN of a ROW on both sides -/
def clp (v : Int64) : Int32 := (if (if v < (99:Int64) then v else (99:Int64)) < (-99:Int64) then (-99:Int64) else (if v < (99:Int64) then v else (99:Int64))).toInt32
theorem clpI (v : Int64) : ∃ z : Int, clp v = I z ∧ -99 ≤ z ∧ z ≤ 99 := by
  unfold clp
  rw [← Jof v]
  have h := Jrg v
  generalize v.toInt = u at h
  rw [M99, J_neg]
  by_cases c : u < 99
  · rw [if_pos ((J_lt (by omega) (by omega) (by omega) (by omega)).mpr c)]
    by_cases c2 : u < -99
    · rw [if_pos ((J_lt (by omega) (by omega) (by omega) (by omega)).mpr c2), JI]
      exact ⟨_, rfl, by omega, by omega⟩
    · rw [if_neg (fun q => c2 ((J_lt (by omega) (by omega) (by omega) (by omega)).mp q)), JI]
      exact ⟨_, rfl, by omega, by omega⟩
  · rw [if_neg (fun q => c ((J_lt (by omega) (by omega) (by omega) (by omega)).mp q)), if_neg (fun q => absurd ((J_lt (by omega) (by omega) (by omega) (by omega)).mp q) (by omega)), JI]
    exact ⟨_, rfl, by omega, by omega⟩
theorem ina8 (k : Nat) (n : Int) (hk : (k : Int) < n) (hn : n ≤ 40) (pl : Nat → Int64) : fX4_inputAt (I k) (I n) pl = some (clp (pl k)) := by
  have g2 : ¬ (I k < 0 ∨ 40 ≤ (I k).toNatClampNeg) := by
    rw [L0, I_lt (by omega) (by omega) (by omega) (by omega), I_cl (by omega) (by omega)]; omega
  unfold fX4_inputAt
  rw [has8 _ _ (by rw [IT (by omega) (by omega)]; exact hn), bnd1_some, IT (by omega) (by omega), IT (by omega) (by omega), if_pos (c := _ ∧ _) (by omega), if_neg (c := (1 : Int32) = 0) (by decide), if_neg g2, clN (by omega)]
  rfl
/-- outputs and losses of both sides, as far as there are any -/
def OK2 (N : Nat → Int) (len : Nat) (o1 l1 o2 l2 : Nat → Int32) : Prop := ∀ j, j < len → ∃ z l : Int, o1 j = I z ∧ o2 j = I z ∧ l1 j = I l ∧ l2 j = I l ∧ (-hf N ≤ z ∧ z < hf N) ∧ -946201 ≤ l ∧ l ≤ 946201
theorem OK2_up {N : Nat → Int} {k : Nat} {o1 l1 o2 l2 : Nat → Int32} (h : OK2 N k o1 l1 o2 l2) {z l : Int} (hz : -hf N ≤ z ∧ z < hf N) (hl : -946201 ≤ l ∧ l ≤ 946201) : OK2 N (k + 1) (upd o1 k (I z)) (upd l1 k (I l)) (upd o2 k (I z)) (upd l2 k (I l)) := by
  intro j hj
  by_cases q : j = k
  · subst q
    exact ⟨z, l, by rw [upd_s], by rw [upd_s], by rw [upd_s], by rw [upd_s], hz, hl⟩
  · obtain ⟨z2, l2, e1, e2, e3, e4, e5⟩ := h j (by omega)
    exact ⟨z2, l2, by rw [upd_o _ _ q, e1], by rw [upd_o _ _ q, e2], by rw [upd_o _ _ q, e3], by rw [upd_o _ _ q, e4], e5⟩
theorem foE8 (num : Nat → Int32) (sz : Int32) (pl : Nat → Int64) (m : Nat) (y ln ov hb a v l r o ha hr : Int32) (o1 l1 w : Nat → Int32) (hl : Int32) (h : hl ≠ 0 ∨ sz ≤ y) : fX2_follow_L17 num sz pl (m + 1) y ln ov hl hb o1 l1 a v l r o ha hr w = some (ln, ov, hl, hb, o1, l1, a, v, l, r, o, ha, hr, w) := by
  rw [fX2_follow_L17]
  by_cases c : sz ≤ y
  · rw [if_pos c]
  · rw [if_neg c]
    have hh : hl ≠ 0 := by
      rcases h with h | h
      · exact h
      · exact absurd h c
    rw [if_neg hh]
    by_cases c2 : (40 : Int32) ≤ y
    · rw [if_pos c2]
    · rw [if_neg c2]
theorem ruE9 (r : Nat) (hr : r < 4) (g : Nat → Int32) (pl : Nat → Nat → Int64) (si : Nat → Int32) (m : Nat) (y a v l o om ov hl : Int32) (p o2 l2 : Nat → Int32) (h : hl ≠ 0 ∨ si r ≤ y) : fX9_runs_L21 (I r) g pl si (m + 1) y a v l o om ov hl p o2 l2 = some (a, v, l, o, om, ov, hl, p, o2, l2) := by
  rw [fX9_runs_L21]
  rw [clN (by omega)]
  simp only [if_neg (gR4' hr)]
  by_cases c : si r ≤ y
  · rw [if_pos c]
  · rw [if_neg c]
    have hh : hl ≠ 0 := by
      rcases h with h | h
      · exact h
      · exact absurd h c
    rw [if_neg hh]
theorem simR {N : Nat → Int} (hV : Vl N) {num g : Nat → Int32} (hn : ∀ j, j < 10 → num j = I (N j)) (hg : ∀ j, j < 10 → g j = I (N j)) {n : Nat} (hn40 : n ≤ 40) {pl1 : Nat → Int64} {pl2 : Nat → Nat → Int64} {r : Nat} (hr : r < 4) (hpl : ∀ j : Nat, j < n → pl2 r j = pl1 j) {si : Nat → Int32} (hsi : si r = I n) :
    ∀ d k : Nat, k + d = n → ∀ (m1 m2 : Nat) (ov : Nat) (hov : ov ≤ k) (W : Nat → Int) (hW : Wd N W) (w p : Nat → Int32) (hw : ∀ k, k < 3 → w k = I (W k)) (hp : ∀ k, k < 3 → p k = I (W k)) (o1 l1 o2 l2 : Nat → Int32) (hO : OK2 N k o1 l1 o2 l2) (hb a v l rr o ha hr a9 v9 l9 o9 : Int32),
    ∃ (len ov' : Nat) (h : Bool) (hb' a' v' l' r' o' ha' hr' a9' v9' l9' o9' : Int32) (o1' l1' o2' l2' w' p' : Nat → Int32) (W' : Nat → Int), fX2_follow_L17 num (I n) pl1 (m1 + d + 2) (I k) (I k) (I ov) (I 0) hb o1 l1 a v l rr o ha hr w = some (I len, I ov', bo h, hb', o1', l1', a', v', l', r', o', ha', hr', w') ∧
      fX9_runs_L21 (I r) g pl2 si (m2 + d + 2) (I k) a9 v9 l9 o9 (I k) (I ov) (I 0) p o2 l2 = some (a9', v9', l9', o9', I len, I ov', bo h, p', o2', l2') ∧ len ≤ n ∧ ov' ≤ n ∧ (h = true → v9' = hb') ∧ Wd N W' ∧ (∀ k, k < 3 → w' k = I (W' k)) ∧ (∀ k, k < 3 → p' k = I (W' k)) ∧ OK2 N len o1' l1' o2' l2'
  | 0, k, h, m1, m2, ov, hov, W, hW, w, p, hw, hp, o1, l1, o2, l2, hO, hb, a, v, l, rr, o, ha, hr', a9, v9, l9, o9 => by
    have e : k = n := by omega
    subst e
    have q : I k ≤ I k := by rw [I_le (by omega) (by omega) (by omega) (by omega)]; omega
    rw [show m1 + 0 + 2 = (m1 + 1) + 1 by omega, show m2 + 0 + 2 = (m2 + 1) + 1 by omega, foE8 _ _ _ _ _ _ _ _ _ _ _ _ _ _ _ _ _ _ _ (Or.inr q), ruE9 r hr g pl2 si _ _ _ _ _ _ _ _ _ _ _ _ (Or.inr (by rw [hsi]; exact q))]
    exact ⟨k, ov, false, _, _, _, _, _, _, _, _, _, _, _, _, _, _, _, _, _, _, W, rfl, rfl, by omega, by omega, fun q => absurd q (by decide), hW, hw, hp, hO⟩
  | d + 1, k, h, m1, m2, ov, hov, W, hW, w, p, hw, hp, o1, l1, o2, l2, hO, hb, a, v, l, rr, o, ha, hr', a9, v9, l9, o9 => by
    have hk : k < n := by omega
    obtain ⟨z, ez, z1, z2⟩ := clpI (pl1 k)
    obtain ⟨p2, e2, hH, hG⟩ := stp9 hV hW hg hp z1 z2 a9 v9 l9 o9
    have hsw := sS_w hV hW z
    have hh := hf_b hV
    have lb := lS_b hV hW z1 z2
    have ne1 : ¬ (I n ≤ I k) := by rw [I_le (by omega) (by omega) (by omega) (by omega)]; omega
    have ne2 : ¬ ((40 : Int32) ≤ I k) := by rw [L40, I_le (by omega) (by omega) (by omega) (by omega)]; omega
    have g2 : ¬ (I k < 0 ∨ 40 ≤ k) := by
      rw [L0, I_lt (by omega) (by omega) (by omega) (by omega)]; omega
    have eov : ∀ b : Bool, I ov + bo b = I (ov + (if b then 1 else 0) : Nat) := by
      intro b
      unfold bo
      cases b
      · rw [if_neg (by decide), if_neg (by decide), I_add]; rfl
      · rw [if_pos rfl, if_pos rfl, I_add]; rfl
    have ez2 : clp (pl2 r k) = I z := by rw [hpl k hk, ez]
    have ez2' := ez2
    unfold clp at ez2'
    rw [show m1 + (d + 1) + 2 = (m1 + d + 2) + 1 by omega, show m2 + (d + 1) + 2 = (m2 + d + 2) + 1 by omega, fX2_follow_L17, fX9_runs_L21, clN (by omega), clN (by omega)]
    simp only [if_neg (gR4' hr)]
    rw [hsi, if_neg ne1, if_neg ne2, if_neg ne1, if_pos (c := I 0 = 0) rfl, if_pos (c := I 0 = 0) rfl, if_neg g2, ina8 k n (by omega) (by omega), bnd1_some, ez, ez2', wei8 hV hW hn hw z1 z2, bnd7_some, e2, bnd6_some]
    have hXb : ∀ (F : Int32 → Option ((Int32) × (Int32) × (Int32) × (Int32) × (Nat → Int32) × (Nat → Int32) × (Int32) × (Int32) × (Int32) × (Int32) × (Int32) × (Int32) × (Int32) × (Nat → Int32))), (if bo (oS N W z) = 0 then F (I ov) else F (I ov + 1)) = F (I (ov + (if oS N W z then 1 else 0) : Nat)) := by
      intro F
      rw [← eov]
      unfold bo
      cases oS N W z
      · rw [if_neg (c := false = true) (by decide), if_pos (c := I 0 = 0) rfl, I_add, Int.add_zero]
      · rw [if_pos (c := true = true) rfl, if_neg (c := I 1 = 0) (by decide +kernel), L1]
    have hMb : ∀ (F : Int32 → Option ((Int32) × (Int32) × (Int32) × (Int32) × (Int32) × (Int32) × (Int32) × (Nat → Int32) × (Nat → Int32) × (Nat → Int32))), (if bo (oS N W z) = 0 then F 0 else F 1) = F (bo (oS N W z)) := by
      intro F
      unfold bo
      cases oS N W z
      · rw [if_neg (c := false = true) (by decide), if_pos (c := I 0 = 0) rfl, L0]
      · rw [if_pos (c := true = true) rfl, if_neg (c := I 1 = 0) (by decide +kernel), L1]
    rw [hXb (fun q => fX2_follow_j64 num (I n) pl1 (fX2_follow_L17 num (I n) pl1 (m1 + d + 2)) (I k) (I k) q (I 0) hb o1 l1 (I (aS N W z)) (I (vS N W z)) (I (lS N W z)) (I (sS N W z)) (bo (oS N W z)) (I (gA N W)) (I (gR N W)) w),
      hMb (fun q => fX9_runs_j81 (I r) g pl2 si (fX9_runs_L21 (I r) g pl2 si (m2 + d + 2)) (I k) (I (sS N W z)) (I ov) q (I (aS N W z)) (I (vS N W z)) (I (lS N W z)) (bo (oS N W z)) (I k) (I ov) (I 0) p2 o2 l2)]
    have hov' : ov + (if oS N W z then 1 else 0) ≤ k + 1 := by split <;> omega
    unfold fX2_follow_j64 fX9_runs_j81 fX9_runs_j98
    rw [L1005, I_neg, eov, L1, I_add]
    generalize ov + (if oS N W z then 1 else 0) = ov2 at hov'
    by_cases e : sS N W z = -1005
    · have pe := hH e
      rw [if_pos (by rw [e]), if_pos (by rw [e]), if_neg (by decide +kernel), if_neg (c := I 1 = 0) (by decide +kernel), show m1 + d + 2 = (m1 + d + 1) + 1 by omega, show m2 + d + 2 = (m2 + d + 1) + 1 by omega, foE8 _ _ _ _ _ _ _ _ _ _ _ _ _ _ _ _ _ _ _ (Or.inl (by decide +kernel)), ruE9 r hr g pl2 si _ _ _ _ _ _ _ _ _ _ _ _ (Or.inl (by decide +kernel))]
      exact ⟨k, ov2, true, _, _, _, _, _, _, _, _, _, _, _, _, _, _, _, _, _, _, W, rfl, rfl, by omega, by omega, fun _ => rfl, hW, hw, by rw [pe]; exact hp, hO⟩
    · have ne : ¬ I (sS N W z) = I (-1005) := fun q => e (I_inj (by omega) (by omega) (by omega) (by omega) q)
      obtain ⟨w', e3, hw'⟩ := psh8 hV hn hw (sS N W z)
      rw [if_neg ne, if_neg ne, e3, bnd1_some, if_neg (c := ¬ ((0 : Int32) = 0 ∨ (0 : Int32) = I 1)) (by decide +kernel), if_pos (c := (0 : Int32) = 0) rfl, clN (by omega)]
      simp only [if_neg g2]
      exact simR hV hn hg hn40 hr hpl hsi d (k + 1) (by omega) m1 m2 ov2 hov' (psh N W (sS N W z)) (psh_w hW (by omega)) w' p2 hw' (hG e) _ _ _ _ (OK2_up hO (by omega) lb) _ _ _ _ _ _ _ _ _ _ _ _
