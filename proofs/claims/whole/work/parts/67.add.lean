/-! a change comes to the changes; set -/
theorem fuelS (n : Nat) (h : n ≤ 99999) : FUEL = (99999 - n) + n + 1 := by
  show 100000 = _
  omega
theorem drp8 (dn : Int32) : ∀ d k : Nat, k + d = 12 → 1 ≤ k → ∀ (m : Nat) (a b c : Nat → Int32), ∃ a' b' c', fX1_dropEldest_L2 (m + d + 1) (I k) dn a b c = some (a', b', c') ∧ ∀ j, j < 11 → (a' j = if k ≤ j + 1 then a (j + 1) else a j) ∧ (b' j = if k ≤ j + 1 then b (j + 1) else b j) ∧ (c' j = if k ≤ j + 1 then c (j + 1) else c j)
  | 0, k, h, h1, m, a, b, c => by
    have e : k = 12 := by omega
    subst e
    rw [fX1_dropEldest_L2, if_pos (by decide +kernel)]
    refine ⟨_, _, _, rfl, fun j hj => ?_⟩
    rw [if_neg (by omega), if_neg (by omega), if_neg (by omega)]
    exact ⟨rfl, rfl, rfl⟩
  | d + 1, k, h, h1, m, a, b, c => by
    have i1 : ((k : Int) - 1).toNat = k - 1 := by omega
    have i2 : ((k : Int)).toNat = k := by omega
    have g1 : ¬ ((k : Int) < 0 ∨ 12 ≤ k) := by omega
    have g2 : ¬ ((k : Int) - 1 < 0 ∨ 12 ≤ k - 1) := by omega
    rw [show m + (d + 1) + 1 = (m + d + 1) + 1 by omega, fX1_dropEldest_L2]
    simp (disch := omega) only [L0, L1, L12, I_add, I_sub, I_mul, I_neg, I_lt, I_le, I_eq, I_cl, i1, i2]
    simp only [if_neg g1, if_neg g2]
    rw [if_neg (by omega)]
    obtain ⟨a', b', c', e, hj⟩ := drp8 dn d (k + 1) (by omega) (by omega) m (upd a (k - 1) (a k)) (upd b (k - 1) (b k)) (upd c (k - 1) (c k))
    refine ⟨a', b', c', e, fun j hj2 => ?_⟩
    obtain ⟨q1, q2, q3⟩ := hj j hj2
    rw [q1, q2, q3]
    by_cases c1 : k + 1 ≤ j + 1
    · rw [if_pos c1, if_pos c1, if_pos c1, if_pos (by omega), if_pos (by omega), if_pos (by omega), upd_o _ _ (by omega), upd_o _ _ (by omega), upd_o _ _ (by omega)]
      exact ⟨rfl, rfl, rfl⟩
    · rw [if_neg c1, if_neg c1, if_neg c1]
      by_cases c2 : k ≤ j + 1
      · have ej : j = k - 1 := by omega
        rw [if_pos c2, if_pos c2, if_pos c2, ej, upd_s, upd_s, upd_s, show k - 1 + 1 = k by omega]
        exact ⟨rfl, rfl, rfl⟩
      · rw [if_neg c2, if_neg c2, if_neg c2, upd_o _ _ (by omega), upd_o _ _ (by omega), upd_o _ _ (by omega)]
        exact ⟨rfl, rfl, rfl⟩
theorem vup_s {α : Type} (f : Nat → α) (i : Nat) (v : α) : va_up f i v i = v := if_pos rfl
theorem vup_o {α : Type} (f : Nat → α) {i j : Nat} (v : α) (h : j ≠ i) : va_up f i v j = f j := if_neg h
theorem drS9 (x y z un re : Int32) (m k i : Nat) (hk : 1 ≤ k) (hk2 : k < 12) (hi : i < 3) (c : Nat → Nat → Int32) : fX9_changes_L22 x y z (m + 1) (I k) (I i) un re c = fX9_changes_L22 x y z m (I k) (I (i + 1 : Nat)) un re (va_up c (k - 1) (upd (c (k - 1)) i (c k i))) := by
  have i1 : ((k : Int) - 1).toNat = k - 1 := by omega
  have i2 : ((k : Int)).toNat = k := by omega
  have i3 : ((i : Int)).toNat = i := by omega
  have g1 : ¬ ((k : Int) < 0 ∨ 12 ≤ k) := by omega
  have g2 : ¬ ((k : Int) - 1 < 0 ∨ 12 ≤ k - 1) := by omega
  have g3 : ¬ ((i : Int) < 0 ∨ 3 ≤ i) := by omega
  rw [fX9_changes_L22]
  simp (disch := omega) only [L0, L1, L3, L12, I_add, I_sub, I_mul, I_neg, I_lt, I_le, I_eq, I_cl, i1, i2, i3]
  simp only [if_neg g1, if_neg g2, if_neg g3]
  rw [if_neg (by omega)]
  rfl
theorem drE9 (x y z un re k : Int32) (m : Nat) (c : Nat → Nat → Int32) : fX9_changes_L22 x y z (m + 1) k (I (3 : Nat)) un re c = some c := by
  rw [fX9_changes_L22, if_pos (by decide +kernel)]
theorem drp9 (x y z un re : Int32) : ∀ d k : Nat, k + d = 12 → 1 ≤ k → ∀ (m : Nat) (c : Nat → Nat → Int32), ∃ c', fX9_changes_L12 x y z (m + d + 1) (I k) un re c = some c' ∧ ∀ j i, j < 11 → i < 3 → c' j i = if k ≤ j + 1 then c (j + 1) i else c j i
  | 0, k, h, h1, m, c => by
    have e : k = 12 := by omega
    subst e
    rw [fX9_changes_L12, if_pos (by decide +kernel)]
    refine ⟨_, rfl, fun j i hj hi => ?_⟩
    rw [if_neg (by omega)]
  | d + 1, k, h, h1, m, c => by
    rw [show m + (d + 1) + 1 = (m + d + 1) + 1 by omega, fX9_changes_L12, if_neg (by rw [L12, I_le (by omega) (by omega) (by omega) (by omega)]; omega), L0, show FUEL = 99996 + 4 from rfl, show I (0 : Int) = I ((0 : Nat) : Int) from rfl, drS9 _ _ _ _ _ _ _ _ h1 (by omega) (by omega), drS9 _ _ _ _ _ _ _ _ h1 (by omega) (by omega), drS9 _ _ _ _ _ _ _ _ h1 (by omega) (by omega), drE9, bnd1_some, L1, I_add]
    obtain ⟨c', e, hj⟩ := drp9 x y z un re d (k + 1) (by omega) (by omega) m (va_up (va_up (va_up c (k - 1) (upd (c (k - 1)) 0 (c k 0))) (k - 1) (upd (va_up c (k - 1) (upd (c (k - 1)) 0 (c k 0)) (k - 1)) (0 + 1) (va_up c (k - 1) (upd (c (k - 1)) 0 (c k 0)) k (0 + 1)))) (k - 1) (upd (va_up (va_up c (k - 1) (upd (c (k - 1)) 0 (c k 0))) (k - 1) (upd (va_up c (k - 1) (upd (c (k - 1)) 0 (c k 0)) (k - 1)) (0 + 1) (va_up c (k - 1) (upd (c (k - 1)) 0 (c k 0)) k (0 + 1))) (k - 1)) (0 + 1 + 1) (va_up (va_up c (k - 1) (upd (c (k - 1)) 0 (c k 0))) (k - 1) (upd (va_up c (k - 1) (upd (c (k - 1)) 0 (c k 0)) (k - 1)) (0 + 1) (va_up c (k - 1) (upd (c (k - 1)) 0 (c k 0)) k (0 + 1))) k (0 + 1 + 1))))
    refine ⟨c', e, fun j i hj2 hi => ?_⟩
    rw [hj j i hj2 hi]
    have h3 : i = 0 ∨ i = 1 ∨ i = 2 := by omega
    by_cases c1 : k + 1 ≤ j + 1
    · rw [if_pos c1, if_pos (by omega), vup_o _ _ (by omega), vup_o _ _ (by omega), vup_o _ _ (by omega)]
    · rw [if_neg c1]
      by_cases c2 : k ≤ j + 1
      · have ej : j = k - 1 := by omega
        have ek : k - 1 + 1 = k := by omega
        have ne : k ≠ k - 1 := by omega
        rw [if_pos c2, ej, vup_s, ek]
        rcases h3 with rfl | rfl | rfl <;> simp [upd, va_up, ne]
      · rw [if_neg c2, vup_o _ _ (by omega), vup_o _ _ (by omega), vup_o _ _ (by omega)]
theorem adj8 (x y z un : Int32) (d : Nat) (hd : d < 12) (a b c : Nat → Int32) : fX1_add_j13 x y z (I d) un a b c = some (I (d + 1 : Nat), I 0, upd a d x, upd b d y, upd c d z) := by
  have i2 : ((d : Int)).toNat = d := by omega
  have g1 : ¬ ((d : Int) < 0 ∨ 12 ≤ d) := by omega
  unfold fX1_add_j13
  simp (disch := omega) only [L0, L1, L12, I_add, I_sub, I_mul, I_neg, I_lt, I_le, I_eq, I_cl, i2]
  simp only [if_neg g1]
  rw [if_neg (by omega), if_neg (by omega)]
  rfl
theorem adj9 (x y z re : Int32) (d : Nat) (hd : d < 12) (c : Nat → Nat → Int32) : ∃ c', fX9_changes_j72 x y z (I d) re c = some (I (d + 1 : Nat), I 0, c') ∧ c' d 0 = x ∧ c' d 1 = y ∧ c' d 2 = z ∧ ∀ j i, j ≠ d → c' j i = c j i := by
  have i2 : ((d : Int)).toNat = d := by omega
  have g1 : ¬ ((d : Int) < 0 ∨ 12 ≤ d) := by omega
  unfold fX9_changes_j72
  simp (disch := omega) only [L0, L1, L12, I_add, I_sub, I_mul, I_neg, I_lt, I_le, I_eq, I_cl, i2]
  simp only [if_neg g1]
  refine ⟨_, rfl, ?_, ?_, ?_, fun j i hj => ?_⟩
  · rw [vup_s]; simp [upd, va_up]
  · rw [vup_s]; simp [upd, va_up]
  · rw [vup_s]; simp [upd, va_up]
  · rw [vup_o _ _ hj, vup_o _ _ hj, vup_o _ _ hj]
/-- a change is added on both sides, and the numbers become so -/
theorem CH_add {num num' : Nat → Int32} {done undone : Int32} {slots olds news : Nat → Int32} {und red : Int32} {ch : Nat → Nat → Int32} (hC : CH num done undone slots olds news und red ch) {N : Nat → Int} (hV : Vl N) (hn : ∀ j, j < 10 → num j = I (N j)) {s : Nat} (hs : s < 10) {v : Int} (hV' : Vl (upI N s v)) (hn' : ∀ j, j < 10 → num' j = I (upI N s v j)) :
    ∃ d' u' sl' ol' ne' und' red' ch', fX1_add (I s) (I (N s)) (I v) done undone slots olds news = some (d', u', sl', ol', ne') ∧ fX9_changes (I s) (I (N s)) (I v) und red ch = some (und', red', ch') ∧ CH num' d' u' sl' ol' ne' und' red' ch' := by
  obtain ⟨rfl, rfl, hch, d, u, H, rfl, rfl, hdu, hVH, hnH, hst⟩ := hC
  have hNH := num_eq hV (hVH d (by omega)) hn hnH
  unfold fX1_add fX9_changes
  by_cases hd : d = 12
  · subst hd
    have hu : u = 0 := by omega
    subst hu
    rw [if_neg (by decide +kernel), if_pos (by decide +kernel)]
    unfold fX1_dropEldest
    obtain ⟨a', b', c', e1, h1⟩ := drp8 (I (12 : Nat)) 11 1 (by omega) (by omega) 99988 slots olds news
    obtain ⟨q', e2, h2⟩ := drp9 (I s) (I (N s)) (I v) (I (12 : Nat)) (I (0 : Nat)) 11 1 (by omega) (by omega) 99988 ch
    have e1' : fX1_dropEldest_L2 FUEL (1 : Int32) (I (12 : Nat)) slots olds news = some (a', b', c') := by
      rw [L1]; exact e1
    have e2' : fX9_changes_L12 (I s) (I (N s)) (I v) FUEL (1 : Int32) (I (12 : Nat)) (I (0 : Nat)) ch = some q' := by
      rw [L1]; exact e2
    rw [e1', e2', bnd3_some, bnd4_some, bnd1_some, L11, show I (11 : Int) = I ((11 : Nat) : Int) from rfl, adj8 _ _ _ _ _ (by omega), L1, I_sub, show ((12 : Nat) : Int) - 1 = ((11 : Nat) : Int) from rfl]
    obtain ⟨c2, e3, r0, r1, r2, r3⟩ := adj9 (I s) (I (N s)) (I v) (I (0 : Nat)) 11 (by omega) q'
    rw [e3]
    refine ⟨_, _, _, _, _, _, _, _, rfl, rfl, rfl, rfl, fun j hj => ?_, 12, 0, fun i => if i < 12 then H (i + 1) else upI N s v, rfl, rfl, by omega, fun i hi => ?_, fun j hj => ?_, fun i hi => ?_⟩
    · by_cases q : j = 11
      · subst q
        rw [r0, r1, r2, upd_s, upd_s, upd_s]
        exact ⟨rfl, rfl, rfl⟩
      · obtain ⟨p1, p2, p3⟩ := h1 j (by omega)
        have hh := hch (j + 1) (by omega)
        rw [r3 _ _ q, r3 _ _ q, r3 _ _ q, upd_o _ _ q, upd_o _ _ q, upd_o _ _ q, h2 j 0 (by omega) (by omega), h2 j 1 (by omega) (by omega), h2 j 2 (by omega) (by omega), p1, p2, p3, if_pos (by omega), if_pos (by omega), if_pos (by omega), if_pos (by omega), if_pos (by omega), if_pos (by omega)]
        exact hh
    · simp only
      by_cases q : i < 12
      · rw [if_pos q]; exact hVH _ (by omega)
      · rw [if_neg q]; exact hV'
    · simp only
      rw [if_neg (by omega)]
      exact hn' j hj
    · by_cases q : i = 11
      · subst q
        refine ⟨s, hs, by rw [upd_s], ?_, ?_, fun j hj hne => ?_⟩
        · simp only
          rw [upd_s, if_pos (by omega), hNH s hs]
        · simp only
          rw [upd_s, if_neg (by omega), upI, if_pos rfl]
        · simp only
          rw [if_neg (by omega), if_pos (by omega), upI, if_neg hne, hNH j hj]
      · obtain ⟨s2, hs2, f1, f2, f3, f4⟩ := hst (i + 1) (by omega)
        obtain ⟨p1, p2, p3⟩ := h1 i (by omega)
        refine ⟨s2, hs2, ?_, ?_, ?_, fun j hj hne => ?_⟩
        · rw [upd_o _ _ q, p1, if_pos (by omega), f1]
        · simp only
          rw [upd_o _ _ q, p2, if_pos (by omega), if_pos (by omega), f2]
        · simp only
          rw [upd_o _ _ q, p3, if_pos (by omega), if_pos (by omega), f3]
        · simp only
          rw [if_pos (by omega), if_pos (by omega)]
          exact f4 j hj hne
  · have lt1 : (I d < 12) := by
      rw [L12, I_lt (by omega) (by omega) (by omega) (by omega)]; omega
    have ne1 : ¬ (I d = 12) := by
      rw [L12, I_eq (by omega) (by omega) (by omega) (by omega)]; omega
    rw [if_pos lt1, if_neg ne1, adj8 _ _ _ _ _ (by omega)]
    obtain ⟨c2, e3, r0, r1, r2, r3⟩ := adj9 (I s) (I (N s)) (I v) (I u) d (by omega) ch
    rw [e3]
    refine ⟨_, _, _, _, _, _, _, _, rfl, rfl, rfl, rfl, fun j hj => ?_, d + 1, 0, fun i => if i < d + 1 then H i else upI N s v, rfl, rfl, by omega, fun i hi => ?_, fun j hj => ?_, fun i hi => ?_⟩
    · by_cases q : j = d
      · subst q
        rw [r0, r1, r2, upd_s, upd_s, upd_s]
        exact ⟨rfl, rfl, rfl⟩
      · rw [r3 _ _ q, r3 _ _ q, r3 _ _ q, upd_o _ _ q, upd_o _ _ q, upd_o _ _ q]
        exact hch j hj
    · simp only
      by_cases q : i < d + 1
      · rw [if_pos q]; exact hVH _ (by omega)
      · rw [if_neg q]; exact hV'
    · simp only
      rw [if_neg (by omega)]
      exact hn' j hj
    · by_cases q : i = d
      · subst q
        refine ⟨s, hs, by rw [upd_s], ?_, ?_, fun j hj hne => ?_⟩
        · simp only
          rw [upd_s, if_pos (by omega), hNH s hs]
        · simp only
          rw [upd_s, if_neg (by omega), upI, if_pos rfl]
        · simp only
          rw [if_neg (by omega), if_pos (by omega), upI, if_neg hne, hNH j hj]
      · obtain ⟨s2, hs2, f1, f2, f3, f4⟩ := hst i (by omega)
        refine ⟨s2, hs2, ?_, ?_, ?_, fun j hj hne => ?_⟩
        · rw [upd_o _ _ q, f1]
        · simp only
          rw [upd_o _ _ q, if_pos (by omega), f2]
        · simp only
          rw [upd_o _ _ q, if_pos (by omega), f3]
        · simp only
          rw [if_pos (by omega), if_pos (by omega)]
          exact f4 j hj hne
