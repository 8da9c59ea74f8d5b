/-! levels -/
def fs (L : Nat → Int32) (j : Nat) : Bool := decide (∀ i, i < j → L i ≠ L j)
def eqc (L : Nat → Int32) (x : Int32) (j : Nat) : Bool := decide (L j = x)
theorem fs_t {L : Nat → Int32} {j : Nat} : fs L j = true ↔ ∀ i, i < j → L i ≠ L j := by unfold fs; exact decide_eq_true_iff
theorem fs_f {L : Nat → Int32} {j : Nat} (h : ¬ fs L j = true) : ∃ i, i < j ∧ L i = L j := by
  refine Classical.byContradiction fun q => h (fs_t.mpr fun i hi e => q ⟨i, hi, e⟩)
theorem fsL (L : Nat → Int32) (j : Nat) (hj : j < 40) : ∀ d i : Nat, i + d = j → ∀ m : Nat, ((∃ q, i ≤ q ∧ q < j ∧ L q = L j) ∧ fX2_isFirstOfItsLevel_L2 (I j) L (m + d + 1) (I i) = some (.inl ())) ∨ (¬ (∃ q, i ≤ q ∧ q < j ∧ L q = L j) ∧ fX2_isFirstOfItsLevel_L2 (I j) L (m + d + 1) (I i) = some (.inr ()))
  | 0, i, h, m => by
    have e : i = j := by omega
    subst e
    rw [fX2_isFirstOfItsLevel_L2, if_pos (by rw [I_le (by omega) (by omega) (by omega) (by omega)]; omega)]
    exact Or.inr ⟨fun ⟨q, h1, h2, _⟩ => absurd h1 (by omega), rfl⟩
  | d + 1, i, h, m => by
    have g1 : ¬ (I i < 0 ∨ 40 ≤ i) := by rw [L0, I_lt (by omega) (by omega) (by omega) (by omega)]; omega
    have g2 : ¬ (I j < 0 ∨ 40 ≤ j) := by rw [L0, I_lt (by omega) (by omega) (by omega) (by omega)]; omega
    rw [show m + (d + 1) + 1 = (m + d + 1) + 1 by omega, fX2_isFirstOfItsLevel_L2, if_neg (by rw [I_le (by omega) (by omega) (by omega) (by omega)]; omega), if_neg (by rw [L40, I_le (by omega) (by omega) (by omega) (by omega)]; omega), clN (by omega), clN (by omega), if_neg g1, if_neg g2, L1, I_add]
    by_cases c : L i = L j
    · rw [if_pos c]
      exact Or.inl ⟨⟨i, by omega, by omega, c⟩, rfl⟩
    · rw [if_neg c]
      rcases fsL L j hj d (i + 1) (by omega) m with ⟨⟨q, h1, h2, h3⟩, h4⟩ | ⟨h1, h2⟩
      · exact Or.inl ⟨⟨q, by omega, h2, h3⟩, h4⟩
      · refine Or.inr ⟨fun ⟨q, q1, q2, q3⟩ => ?_, h2⟩
        by_cases e : q = i
        · subst e; exact c q3
        · exact h1 ⟨q, by omega, q2, q3⟩
theorem isF8 (L : Nat → Int32) (j : Nat) (hj : j < 40) : fX2_isFirstOfItsLevel (I j) L = some (if fs L j = true then 1 else 0) := by
  unfold fX2_isFirstOfItsLevel
  have h := fsL L j hj j 0 (by omega) (99999 - j)
  rw [show 99999 - j + j + 1 = FUEL by show _ = 100000; omega, show I ((0 : Nat) : Int) = 0 from rfl] at h
  rcases h with ⟨⟨q, h1, h2, h3⟩, h4⟩ | ⟨h1, h2⟩
  · rw [h4, bnd1_some, if_neg (fun w => (fs_t.mp w) q h2 h3)]; rfl
  · rw [h2, bnd1_some, if_pos (fs_t.mpr fun i hi e => h1 ⟨i, by omega, hi, e⟩)]; rfl
theorem hml8L (L : Nat → Int32) (len : Nat) (hl : len ≤ 40) : ∀ d k : Nat, k + d = len → ∀ m : Nat, fX2_howManyLevels_L4 (I len) L (m + d + 1) (I (fb_ct (fs L) k)) (I k) = some (I (fb_ct (fs L) len))
  | 0, k, h, m => by
    have e : k = len := by omega
    subst e
    rw [fX2_howManyLevels_L4, if_pos (by rw [I_le (by omega) (by omega) (by omega) (by omega)]; omega)]
  | d + 1, k, h, m => by
    have hs := fb_ct_succ (fs L) k
    have ih := hml8L L len hl d (k + 1) (by omega) m
    rw [hs] at ih
    rw [show m + (d + 1) + 1 = (m + d + 1) + 1 by omega, fX2_howManyLevels_L4, if_neg (by rw [I_le (by omega) (by omega) (by omega) (by omega)]; omega), if_neg (by rw [L40, I_le (by omega) (by omega) (by omega) (by omega)]; omega), isF8 L k (by omega), bnd1_some, L1, I_add, I_add]
    by_cases c : fs L k = true
    · rw [if_pos c] at ih ⊢
      rw [if_neg is1]
      exact ih
    · rw [if_neg c] at ih ⊢
      rw [if_pos (c := (0 : Int32) = 0) rfl]
      exact ih
theorem pol8L (L : Nat → Int32) (len : Nat) (hl : len ≤ 40) (x : Int) (x1 : -2147483648 ≤ x) (x2 : x < 2147483648) : ∀ d k : Nat, k + d = len → ∀ m : Nat, (∃ j, k ≤ j ∧ j < len ∧ fs L j = true ∧ (fb_ct (fs L) j : Int) = x ∧ fX2_placeOfLevel_L4 (I x) (I len) L (m + d + 1) (I ((fb_ct (fs L) k : Int) - 1)) (I k) = some (.inl (I j))) ∨ ((∀ j, k ≤ j → j < len → fs L j = true → (fb_ct (fs L) j : Int) ≠ x) ∧ fX2_placeOfLevel_L4 (I x) (I len) L (m + d + 1) (I ((fb_ct (fs L) k : Int) - 1)) (I k) = some (.inr ()))
  | 0, k, h, m => by
    have e : k = len := by omega
    subst e
    rw [fX2_placeOfLevel_L4, if_pos (by rw [I_le (by omega) (by omega) (by omega) (by omega)]; omega)]
    exact Or.inr ⟨fun j h1 h2 => absurd h1 (by omega), rfl⟩
  | d + 1, k, h, m => by
    have hs := fb_ct_succ (fs L) k
    have hle := fb_ct_le (fs L) k
    have ih := pol8L L len hl x x1 x2 d (k + 1) (by omega) m
    rw [hs] at ih
    rw [show m + (d + 1) + 1 = (m + d + 1) + 1 by omega, fX2_placeOfLevel_L4, if_neg (by rw [I_le (by omega) (by omega) (by omega) (by omega)]; omega), if_neg (by rw [L40, I_le (by omega) (by omega) (by omega) (by omega)]; omega), isF8 L k (by omega), bnd1_some, L1, I_add, I_add]
    have e1 : (fb_ct (fs L) k : Int) - 1 + 1 = fb_ct (fs L) k := by omega
    rw [e1]
    by_cases c : fs L k = true
    · rw [if_pos c] at ih ⊢
      rw [if_neg is1]
      by_cases c2 : (fb_ct (fs L) k : Int) = x
      · rw [if_pos (by rw [c2])]
        exact Or.inl ⟨k, by omega, by omega, c, c2, rfl⟩
      · rw [if_neg (by rw [I_eq (by omega) (by omega) (by omega) (by omega)]; exact c2)]
        have e2 : ((fb_ct (fs L) k + 1 : Nat) : Int) - 1 = fb_ct (fs L) k := by omega
        rw [e2] at ih
        rcases ih with ⟨j, j1, j2, j3, j4, j5⟩ | ⟨j1, j2⟩
        · exact Or.inl ⟨j, by omega, j2, j3, j4, j5⟩
        · refine Or.inr ⟨fun j q1 q2 q3 => ?_, j2⟩
          by_cases e : j = k
          · subst e; exact c2
          · exact j1 j (by omega) q2 q3
    · rw [if_neg c] at ih ⊢
      rw [if_pos (c := (0 : Int32) = 0) rfl]
      rw [Nat.add_zero] at ih
      rcases ih with ⟨j, j1, j2, j3, j4, j5⟩ | ⟨j1, j2⟩
      · exact Or.inl ⟨j, by omega, j2, j3, j4, j5⟩
      · refine Or.inr ⟨fun j q1 q2 q3 => ?_, j2⟩
        by_cases e : j = k
        · subst e; exact absurd q3 c
        · exact j1 j (by omega) q2 q3
theorem pol8 (L : Nat → Int32) (len : Nat) (hl : len ≤ 40) (x : Int) (x1 : -2147483648 ≤ x) (x2 : x < 2147483648) : (∃ j, j < len ∧ fs L j = true ∧ (fb_ct (fs L) j : Int) = x ∧ fX2_placeOfLevel (I x) (I len) L = some (I j)) ∨ ((∀ j, j < len → fs L j = true → (fb_ct (fs L) j : Int) ≠ x) ∧ fX2_placeOfLevel (I x) (I len) L = some (-1)) := by
  unfold fX2_placeOfLevel
  have h := pol8L L len hl x x1 x2 len 0 (by omega) (99999 - len)
  rw [show 99999 - len + len + 1 = FUEL by show _ = 100000; omega, show I ((0 : Nat) : Int) = 0 from rfl, show I ((fb_ct (fs L) 0 : Int) - 1) = -1 from rfl] at h
  rcases h with ⟨j, j1, j2, j3, j4, j5⟩ | ⟨j1, j2⟩
  · rw [j5, bnd1_some]
    exact Or.inl ⟨j, j2, j3, j4, rfl⟩
  · rw [j2, bnd1_some]
    exact Or.inr ⟨fun j q2 q3 => j1 j (by omega) q2 q3, rfl⟩
theorem hof8L (L : Nat → Int32) (x : Int32) (len : Nat) (hl : len ≤ 40) : ∀ d k : Nat, k + d = len → ∀ m : Nat, fX2_howOften_L4 x (I len) L (m + d + 1) (I (fb_ct (eqc L x) k)) (I k) = some (I (fb_ct (eqc L x) len))
  | 0, k, h, m => by
    have e : k = len := by omega
    subst e
    rw [fX2_howOften_L4, if_pos (by rw [I_le (by omega) (by omega) (by omega) (by omega)]; omega)]
  | d + 1, k, h, m => by
    have g1 : ¬ (I k < 0 ∨ 40 ≤ k) := by rw [L0, I_lt (by omega) (by omega) (by omega) (by omega)]; omega
    have hs := fb_ct_succ (eqc L x) k
    have ih := hof8L L x len hl d (k + 1) (by omega) m
    rw [hs] at ih
    rw [show m + (d + 1) + 1 = (m + d + 1) + 1 by omega, fX2_howOften_L4, if_neg (by rw [I_le (by omega) (by omega) (by omega) (by omega)]; omega), if_neg (by rw [L40, I_le (by omega) (by omega) (by omega) (by omega)]; omega), clN (by omega), if_neg g1, L1, I_add, I_add]
    by_cases c : L k = x
    · have ce : eqc L x k = true := by unfold eqc; exact decide_eq_true c
      rw [if_pos ce] at ih
      rw [if_pos c]
      exact ih
    · have ce : ¬ eqc L x k = true := by unfold eqc; rw [decide_eq_true_iff]; exact c
      rw [if_neg ce] at ih
      rw [if_neg c]
      exact ih
theorem hof8 (L : Nat → Int32) (x : Int32) (len : Nat) (hl : len ≤ 40) : fX2_howOften x (I len) L = some (I (fb_ct (eqc L x) len)) := by
  unfold fX2_howOften
  have h := hof8L L x len hl len 0 (by omega) (99999 - len)
  rw [show 99999 - len + len + 1 = FUEL by show _ = 100000; omega] at h
  rw [L0]
  exact (congrArg (fun z => bnd1 z fun o1 => some o1) h).trans (bnd1_some ..)
/-- the reference's levels, as far as k -/
def LV (L lof ofn : Nat → Int32) (k : Nat) : Prop := ∀ j, j < k → fs L j = true → lof (fb_ct (fs L) j) = L j ∧ ofn (fb_ct (fs L) j) = I (fb_ct (eqc L (L j)) k)
theorem ct_lt {p : Nat → Bool} {j n : Nat} (hj : j < n) (h : p j = true) : fb_ct p j < fb_ct p n := by
  have h1 := fb_ct_succ p j
  rw [if_pos h] at h1
  have h2 := fb_ct_mono p (m := j + 1) (n := n) hj
  omega
theorem srch9 (L l2 lof ofn : Nat → Int32) (c k t : Nat) (hc : c ≤ 40) (hk : k < 40) (hl : l2 k = L k) (ht : t ≤ c) (h1 : t = c ∨ lof t = L k) (h2 : ∀ q, q < t → lof q ≠ L k) (x1 : Int32) (g p o2 : Nat → Int32) (pl : Nat → Nat → Int64) (si : Nat → Int32) (a v l o om ov hh : Int32) : ∀ d i : Nat, i + d = t → ∀ m : Nat, fX9_findLevels_L22 x1 g pl si (m + d + 1) (I k) (I i) a v l o om ov hh (I c) p o2 l2 lof ofn = some (I t)
  | 0, i, h, m => by
    have e : i = t := by omega
    subst e
    rw [fX9_findLevels_L22]
    rcases h1 with h1 | h1
    · rw [if_pos (by rw [I_le (by omega) (by omega) (by omega) (by omega)]; omega)]
    · by_cases q : i = c
      · rw [if_pos (by rw [I_le (by omega) (by omega) (by omega) (by omega)]; omega)]
      · have g1 : ¬ (I i < 0 ∨ 40 ≤ i) := by rw [L0, I_lt (by omega) (by omega) (by omega) (by omega)]; omega
        have g2 : ¬ (I k < 0 ∨ 40 ≤ k) := by rw [L0, I_lt (by omega) (by omega) (by omega) (by omega)]; omega
        rw [if_neg (by rw [I_le (by omega) (by omega) (by omega) (by omega)]; omega), clN (by omega), clN (by omega), if_neg g1, if_neg g2, if_pos (by rw [h1, hl])]
  | d + 1, i, h, m => by
    have g1 : ¬ (I i < 0 ∨ 40 ≤ i) := by rw [L0, I_lt (by omega) (by omega) (by omega) (by omega)]; omega
    have g2 : ¬ (I k < 0 ∨ 40 ≤ k) := by rw [L0, I_lt (by omega) (by omega) (by omega) (by omega)]; omega
    rw [show m + (d + 1) + 1 = (m + d + 1) + 1 by omega, fX9_findLevels_L22, if_neg (by rw [I_le (by omega) (by omega) (by omega) (by omega)]; omega), clN (by omega), clN (by omega), if_neg g1, if_neg g2, if_neg (by rw [hl]; exact h2 i (by omega)), L1, I_add]
    exact srch9 L l2 lof ofn c k t hc hk hl ht h1 h2 x1 g p o2 pl si a v l o om ov hh d (i + 1) (by omega) m
theorem lev9L (L l2 : Nat → Int32) (len : Nat) (hlen : len ≤ 40) (hl : ∀ j, j < len → l2 j = L j) (x1 : Int32) (g p o2 : Nat → Int32) (pl : Nat → Nat → Int64) (si : Nat → Int32) (a v l o ov hh : Int32) : ∀ d k : Nat, k + d = len → ∀ (m : Nat) (lof ofn : Nat → Int32), LV L lof ofn k → ∃ lof' ofn', fX9_findLevels_L12 x1 g pl si (m + d + 1) (I k) a v l o (I len) ov hh (I (fb_ct (fs L) k)) p o2 l2 lof ofn = some (I (fb_ct (fs L) len), lof', ofn') ∧ LV L lof' ofn' len
  | 0, k, h, m, lof, ofn, hV => by
    have e : k = len := by omega
    subst e
    rw [fX9_findLevels_L12, if_pos (by rw [I_le (by omega) (by omega) (by omega) (by omega)]; omega)]
    exact ⟨_, _, rfl, hV⟩
  | d + 1, k, h, m, lof, ofn, hV => by
    have hs := fb_ct_succ (fs L) k
    have hle := fb_ct_le (fs L) k
    have g2 : ¬ (I k < 0 ∨ 40 ≤ k) := by rw [L0, I_lt (by omega) (by omega) (by omega) (by omega)]; omega
    rw [show m + (d + 1) + 1 = (m + d + 1) + 1 by omega, fX9_findLevels_L12, if_neg (by rw [I_le (by omega) (by omega) (by omega) (by omega)]; omega)]
    by_cases c : fs L k = true
    · rw [if_pos c] at hs
      have hno : ∀ q, q < fb_ct (fs L) k → lof q ≠ L k := by
        intro q hq e
        obtain ⟨j, j1, j2, j3⟩ := fb_ct_kth hq
        have := (hV j j1 j2).1
        rw [j3, e] at this
        exact (fs_t.mp c) j j1 this.symm
      have hsr := srch9 L l2 lof ofn (fb_ct (fs L) k) k (fb_ct (fs L) k) (by omega) (by omega) (hl k (by omega)) (Nat.le_refl _) (Or.inl rfl) hno x1 g p o2 pl si a v l o (I len) ov hh (fb_ct (fs L) k) 0 (by omega) (99999 - fb_ct (fs L) k)
      rw [show 99999 - fb_ct (fs L) k + fb_ct (fs L) k + 1 = FUEL by show _ = 100000; omega, show I ((0 : Nat) : Int) = 0 from rfl] at hsr
      have g1 : ¬ (I (fb_ct (fs L) k) < 0 ∨ 40 ≤ fb_ct (fs L) k) := by rw [L0, I_lt (by omega) (by omega) (by omega) (by omega)]; omega
      have ih := lev9L L l2 len hlen hl x1 g p o2 pl si a v l o ov hh d (k + 1) (by omega) m (upd lof (fb_ct (fs L) k) (L k)) (upd (upd ofn (fb_ct (fs L) k) 0) (fb_ct (fs L) k) (0 + 1)) (by
        intro j hj hfj
        by_cases e : j = k
        · subst e
          rw [upd_s, upd_s]
          refine ⟨rfl, ?_⟩
          rw [fb_ct_succ, if_pos (by unfold eqc; exact decide_eq_true rfl), fb_ct_zero.mpr (fun i hi => by unfold eqc; exact decide_eq_false ((fs_t.mp hfj) i hi)), L1, L0, I_add]
          rfl
        · have hlt := ct_lt (p := fs L) (n := k) (by omega) hfj
          obtain ⟨a1, a2⟩ := hV j (by omega) hfj
          rw [upd_o _ _ (by omega), upd_o _ _ (by omega), upd_o _ _ (by omega)]
          refine ⟨a1, ?_⟩
          rw [a2, fb_ct_succ, if_neg (by unfold eqc; rw [decide_eq_true_iff]; exact fun q => (fs_t.mp c) j (by omega) q.symm), Nat.add_zero])
      rw [hs] at ih
      rw [hsr, bnd1_some]
      unfold fX9_findLevels_j51 fX9_findLevels_j88
      rw [if_pos rfl, clN (by omega), clN (by omega)]
      simp only [if_neg g1, if_neg g2]
      rw [upd_s, hl k (by omega), L1, I_add, I_add]
      rw [L1] at ih
      exact ih
    · rw [if_neg c, Nat.add_zero] at hs
      have hp : ∃ i, i < k ∧ L i = L k := fs_f c
      obtain ⟨i, i1, i2, i3⟩ := fb_first (p := fun i => L i = L k) hp
      have hfi : fs L i = true := fs_t.mpr fun q hq e => i3 q hq (e.trans i2)
      have hlt := ct_lt (p := fs L) (n := k) i1 hfi
      have huq : ∀ j, j < k → fs L j = true → L j = L k → j = i := by
        intro j j1 j2 j3
        rcases Nat.lt_trichotomy j i with q | q | q
        · exact absurd j3 (i3 j q)
        · exact q
        · exact absurd (i2.trans j3.symm) ((fs_t.mp j2) i q)
      have hno : ∀ q, q < fb_ct (fs L) i → lof q ≠ L k := by
        intro q hq e
        obtain ⟨j, j1, j2, j3⟩ := fb_ct_kth hq
        have h1 := (hV j (by omega) j2).1
        rw [j3, e] at h1
        have := huq j (by omega) j2 h1.symm
        omega
      have hsr := srch9 L l2 lof ofn (fb_ct (fs L) k) k (fb_ct (fs L) i) (by omega) (by omega) (hl k (by omega)) (by omega) (Or.inr ((hV i i1 hfi).1.trans i2)) hno x1 g p o2 pl si a v l o (I len) ov hh (fb_ct (fs L) i) 0 (by omega) (99999 - fb_ct (fs L) i)
      rw [show 99999 - fb_ct (fs L) i + fb_ct (fs L) i + 1 = FUEL by show _ = 100000; omega, show I ((0 : Nat) : Int) = 0 from rfl] at hsr
      have g1 : ¬ (I (fb_ct (fs L) i) < 0 ∨ 40 ≤ fb_ct (fs L) i) := by rw [L0, I_lt (by omega) (by omega) (by omega) (by omega)]; omega
      have ih := lev9L L l2 len hlen hl x1 g p o2 pl si a v l o ov hh d (k + 1) (by omega) m lof (upd ofn (fb_ct (fs L) i) (ofn (fb_ct (fs L) i) + 1)) (by
        intro j hj hfj
        have hjk : j ≠ k := fun e => c (e ▸ hfj)
        obtain ⟨a1, a2⟩ := hV j (by omega) hfj
        refine ⟨a1, ?_⟩
        rw [fb_ct_succ]
        by_cases e : L j = L k
        · have ej := huq j (by omega) hfj e
          subst ej
          rw [upd_s, a2, if_pos (by unfold eqc; exact decide_eq_true e.symm), L1, I_add]
          rfl
        · have ne : fb_ct (fs L) j ≠ fb_ct (fs L) i := fun q => e (by
            have := fb_ct_kth_one hfj hfi q
            rw [this, i2])
          rw [upd_o _ _ ne, a2, if_neg (by unfold eqc; rw [decide_eq_true_iff]; exact fun q => e q.symm), Nat.add_zero])
      rw [hs] at ih
      rw [hsr, bnd1_some]
      unfold fX9_findLevels_j51 fX9_findLevels_j88
      rw [if_neg (by rw [I_eq (by omega) (by omega) (by omega) (by omega)]; omega), clN (by omega)]
      simp only [if_neg g1]
      rw [L1, I_add]
      rw [L1] at ih
      exact ih
