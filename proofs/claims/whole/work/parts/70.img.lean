/-! the image; next -/
def KI (hi : Int32) (kn kw : Nat → Int32) (hi2 : Int32) (kg : Nat → Int32) : Prop := hi2 = hi ∧ (hi ≠ 0 → FI kn kw kg)
theorem imL9 (g p : Nat → Int32) (ik : Int32) : ∀ d k : Nat, k + d = 13 → ∀ (m : Nat) (kp : Nat → Int32), ∃ kp', fX9_image_L2 g (m + d + 1) (I k) ik kp p = some kp' ∧ ∀ j, j < 13 → kp' j = if k ≤ j then g j else kp j
  | 0, k, h, m, kp => by
    have e : k = 13 := by omega
    subst e
    rw [fX9_image_L2, if_pos (by decide +kernel)]
    refine ⟨_, rfl, fun j hj => ?_⟩
    rw [if_neg (by omega)]
  | d + 1, k, h, m, kp => by
    have i2 : ((k : Int)).toNat = k := by omega
    have g1 : ¬ ((k : Int) < 0 ∨ 13 ≤ k) := by omega
    rw [show m + (d + 1) + 1 = (m + d + 1) + 1 by omega, fX9_image_L2]
    simp (disch := omega) only [L0, L1, L13, I_add, I_sub, I_mul, I_neg, I_lt, I_le, I_eq, I_cl, i2]
    simp only [if_neg g1]
    rw [if_neg (by omega)]
    obtain ⟨kp', e, hj⟩ := imL9 g p ik d (k + 1) (by omega) m (upd kp k (g k))
    refine ⟨kp', e, fun j hj2 => ?_⟩
    rw [hj j hj2]
    by_cases c1 : k + 1 ≤ j
    · rw [if_pos c1, if_pos (by omega)]
    · rw [if_neg c1]
      by_cases c2 : k ≤ j
      · have ej : j = k := by omega
        rw [if_pos c2, ej, upd_s]
      · rw [if_neg c2, upd_o _ _ (by omega)]
theorem bkL9 (kept p : Nat → Int32) (ik un re : Int32) : ∀ d k : Nat, k + d = 13 → ∀ (m : Nat) (kp : Nat → Int32), ∃ kp', fX9_back_L12 ik kept (m + d + 1) (I k) un re kp p = some kp' ∧ ∀ j, j < 13 → kp' j = if k ≤ j then kept j else kp j
  | 0, k, h, m, kp => by
    have e : k = 13 := by omega
    subst e
    rw [fX9_back_L12, if_pos (by decide +kernel)]
    refine ⟨_, rfl, fun j hj => ?_⟩
    rw [if_neg (by omega)]
  | d + 1, k, h, m, kp => by
    have i2 : ((k : Int)).toNat = k := by omega
    have g1 : ¬ ((k : Int) < 0 ∨ 13 ≤ k) := by omega
    rw [show m + (d + 1) + 1 = (m + d + 1) + 1 by omega, fX9_back_L12]
    simp (disch := omega) only [L0, L1, L13, I_add, I_sub, I_mul, I_neg, I_lt, I_le, I_eq, I_cl, i2]
    simp only [if_neg g1]
    rw [if_neg (by omega)]
    obtain ⟨kp', e, hj⟩ := bkL9 kept p ik un re d (k + 1) (by omega) m (upd kp k (kept k))
    refine ⟨kp', e, fun j hj2 => ?_⟩
    rw [hj j hj2]
    by_cases c1 : k + 1 ≤ j
    · rw [if_pos c1, if_pos (by omega)]
    · rw [if_neg c1]
      by_cases c2 : k ≤ j
      · have ej : j = k := by omega
        rw [if_pos c2, ej, upd_s]
      · rw [if_neg c2, upd_o _ _ (by omega)]
theorem p_image (hi hi2 : Int32) (num words kn kw g kg p : Nat → Int32) (hF : FI num words g) : ∃ r hi' kn' kw' hi2' kg' p', fX8_image hi num words kn kw = some (r, hi', kn', kw') ∧ fX9_image hi2 g kg p = some (r, hi2', kg', p') ∧ KI hi' kn' kw' hi2' kg' := by
  obtain ⟨N, W, hV, hW, hn, hw, hg, hp⟩ := hF
  obtain ⟨n', w', e1, a1, a2, -⟩ := tak8 kn kw num words
  obtain ⟨kg', e2, b1⟩ := imL9 g p hi2 13 0 (by omega) 99986 kg
  obtain ⟨p', e3⟩ := cod9 hV hg hp p
  have e2' : fX9_image_L2 g FUEL (0 : Int32) hi2 kg p = some kg' := by rw [L0]; exact e2
  unfold fX8_image fX9_image
  rw [e1, bnd2_some, pkd8 hV hn hw, bnd1_some, e2', bnd1_some, e3, bnd2_some]
  refine ⟨_, _, _, _, _, _, _, rfl, rfl, rfl, fun _ => ⟨N, W, hV, hW, fun j hj => (a1 j hj).trans (hn j hj), fun k hk => (a2 k hk).trans (hw k hk), fun j hj => ?_, fun k hk => ?_⟩⟩
  · rw [b1 j (by omega), if_pos (by omega)]; exact hg j hj
  · rw [b1 _ (by omega), if_pos (by omega)]; exact hp k hk
theorem p_back (hi hi2 : Int32) (num words kn kw g kg p : Nat → Int32) (done undone : Int32) (slots olds news : Nat → Int32) (und red : Int32) (ch : Nat → Nat → Int32) (hF : FI num words g) (hK : KI hi kn kw hi2 kg) (hC : CH num done undone slots olds news und red ch) : ∃ r n' w' d' u' und' red' g' p', fX8_back hi num words kn kw done undone = some (r, n', w', d', u') ∧ fX9_back hi2 und red g kg p = some (r, und', red', g', p') ∧ FI n' w' g' ∧ CH n' d' u' slots olds news und' red' ch := by
  obtain ⟨rfl, hK⟩ := hK
  unfold fX8_back fX9_back fX1_forget
  by_cases c : hi2 = 0
  · rw [if_pos c, if_pos c]
    exact ⟨_, _, _, _, _, _, _, _, _, rfl, rfl, hF, hC⟩
  · obtain ⟨N, W, hV, hW, hn, hw, hg, hp⟩ := hK c
    obtain ⟨n', w', e1, a1, a2, -⟩ := tak8 num words kn kw
    obtain ⟨g', e2, b1⟩ := bkL9 kg p hi2 und red 13 0 (by omega) 99986 g
    have e2' : fX9_back_L12 hi2 kg FUEL (0 : Int32) und red g p = some g' := by rw [L0]; exact e2
    have hn' : ∀ j, j < 10 → n' j = I (N j) := fun j hj => (a1 j hj).trans (hn j hj)
    have hw' : ∀ j, j < 3 → w' j = I (W j) := fun j hj => (a2 j hj).trans (hw j hj)
    have hg' : ∀ j, j < 10 → g' j = I (N j) := fun j hj => by rw [b1 j (by omega), if_pos (by omega)]; exact hg j hj
    have hp' : ∀ k, k < 3 → g' (10 + k) = I (W k) := fun k hk => by rw [b1 _ (by omega), if_pos (by omega)]; exact hp k hk
    obtain ⟨p', e3⟩ := cod9 hV hg' hp' p
    rw [if_neg c, if_neg c, e1, bnd2_some, bnd2_some, pkd8 hV hn' hw', bnd1_some, e2', bnd1_some, e3, bnd2_some]
    exact ⟨_, _, _, _, _, _, _, _, _, rfl, rfl, ⟨N, W, hV, hW, hn', hw', hg', hp'⟩, rfl, rfl, hC.2.2.1, 0, 0, fun _ => N, rfl, rfl, by omega, fun _ _ => hV, hn', fun i hi => absurd hi (by omega)⟩
theorem cmN8 (a b : Nat → Int32) : ∀ d k : Nat, k + d = 10 → ∀ m : Nat, ((∀ j, k ≤ j → j < 10 → a j = b j) ∧ fX3_hasNumbersOf_L2 a b (m + d + 1) (I k) = some (.inr ())) ∨ (¬ (∀ j, k ≤ j → j < 10 → a j = b j) ∧ fX3_hasNumbersOf_L2 a b (m + d + 1) (I k) = some (.inl ()))
  | 0, k, h, m => by
    have e : k = 10 := by omega
    subst e
    rw [fX3_hasNumbersOf_L2, if_pos (by decide +kernel)]
    exact Or.inl ⟨fun j h1 h2 => absurd h1 (by omega), rfl⟩
  | d + 1, k, h, m => by
    have i2 : ((k : Int)).toNat = k := by omega
    have g1 : ¬ ((k : Int) < 0 ∨ 10 ≤ k) := by omega
    rw [show m + (d + 1) + 1 = (m + d + 1) + 1 by omega, fX3_hasNumbersOf_L2]
    simp (disch := omega) only [L0, L1, L10, I_add, I_sub, I_mul, I_neg, I_lt, I_le, I_cl, i2]
    simp only [if_neg g1]
    rw [if_neg (by omega)]
    by_cases c : a k = b k
    · rw [if_pos c]
      rcases cmN8 a b d (k + 1) (by omega) m with ⟨h1, h2⟩ | ⟨h1, h2⟩
      · refine Or.inl ⟨fun j q1 q2 => ?_, h2⟩
        by_cases q : j = k
        · rw [q]; exact c
        · exact h1 j (by omega) q2
      · exact Or.inr ⟨fun q => h1 fun j q1 q2 => q j (by omega) q2, h2⟩
    · rw [if_neg c]
      exact Or.inr ⟨fun q => c (q k (by omega) (by omega)), rfl⟩
theorem cmW8 (a b : Nat → Int32) : ∀ d k : Nat, k + d = 3 → ∀ m : Nat, ((∀ j, k ≤ j → j < 3 → a j = b j) ∧ fX3_hasWordsOf_L2 a b (m + d + 1) (I k) = some (.inr ())) ∨ (¬ (∀ j, k ≤ j → j < 3 → a j = b j) ∧ fX3_hasWordsOf_L2 a b (m + d + 1) (I k) = some (.inl ()))
  | 0, k, h, m => by
    have e : k = 3 := by omega
    subst e
    rw [fX3_hasWordsOf_L2, if_pos (by decide +kernel)]
    exact Or.inl ⟨fun j h1 h2 => absurd h1 (by omega), rfl⟩
  | d + 1, k, h, m => by
    have i2 : ((k : Int)).toNat = k := by omega
    have g1 : ¬ ((k : Int) < 0 ∨ 3 ≤ k) := by omega
    rw [show m + (d + 1) + 1 = (m + d + 1) + 1 by omega, fX3_hasWordsOf_L2]
    simp (disch := omega) only [L0, L1, L3, I_add, I_sub, I_mul, I_neg, I_lt, I_le, I_cl, i2]
    simp only [if_neg g1]
    rw [if_neg (by omega)]
    by_cases c : a k = b k
    · rw [if_pos c]
      rcases cmW8 a b d (k + 1) (by omega) m with ⟨h1, h2⟩ | ⟨h1, h2⟩
      · refine Or.inl ⟨fun j q1 q2 => ?_, h2⟩
        by_cases q : j = k
        · rw [q]; exact c
        · exact h1 j (by omega) q2
      · exact Or.inr ⟨fun q => h1 fun j q1 q2 => q j (by omega) q2, h2⟩
    · rw [if_neg c]
      exact Or.inr ⟨fun q => c (q k (by omega) (by omega)), rfl⟩
theorem cmG9 (ik : Int32) (g kg : Nat → Int32) : ∀ d k : Nat, k + d = 13 → ∀ m : Nat, ((∀ j, k ≤ j → j < 13 → g j = kg j) ∧ fX9_alike_L12 ik g kg (m + d + 1) (I k) = some (.inr ())) ∨ (¬ (∀ j, k ≤ j → j < 13 → g j = kg j) ∧ fX9_alike_L12 ik g kg (m + d + 1) (I k) = some (.inl ()))
  | 0, k, h, m => by
    have e : k = 13 := by omega
    subst e
    rw [fX9_alike_L12, if_pos (by decide +kernel)]
    exact Or.inl ⟨fun j h1 h2 => absurd h1 (by omega), rfl⟩
  | d + 1, k, h, m => by
    have i2 : ((k : Int)).toNat = k := by omega
    have g1 : ¬ ((k : Int) < 0 ∨ 13 ≤ k) := by omega
    rw [show m + (d + 1) + 1 = (m + d + 1) + 1 by omega, fX9_alike_L12]
    simp (disch := omega) only [L0, L1, L13, I_add, I_sub, I_mul, I_neg, I_lt, I_le, I_cl, i2]
    simp only [if_neg g1]
    rw [if_neg (by omega)]
    by_cases c : kg k = g k
    · rw [if_pos c]
      rcases cmG9 ik g kg d (k + 1) (by omega) m with ⟨h1, h2⟩ | ⟨h1, h2⟩
      · refine Or.inl ⟨fun j q1 q2 => ?_, h2⟩
        by_cases q : j = k
        · rw [q]; exact c.symm
        · exact h1 j (by omega) q2
      · exact Or.inr ⟨fun q => h1 fun j q1 q2 => q j (by omega) q2, h2⟩
    · rw [if_neg c]
      exact Or.inr ⟨fun q => c (q k (by omega) (by omega)).symm, rfl⟩
theorem hsN8 (a b : Nat → Int32) : ((∀ j, j < 10 → a j = b j) ∧ fX3_hasNumbersOf a b = some 1) ∨ (¬ (∀ j, j < 10 → a j = b j) ∧ fX3_hasNumbersOf a b = some 0) := by
  unfold fX3_hasNumbersOf
  rw [L0, show FUEL = 99989 + 10 + 1 from rfl, show I (0 : Int) = I ((0 : Nat) : Int) from rfl]
  rcases cmN8 a b 10 0 (by omega) 99989 with ⟨h1, h2⟩ | ⟨h1, h2⟩
  · rw [h2, bnd1_some]
    exact Or.inl ⟨fun j hj => h1 j (by omega) hj, rfl⟩
  · rw [h2, bnd1_some]
    exact Or.inr ⟨fun q => h1 fun j _ hj => q j hj, rfl⟩
theorem hsW8 (a b : Nat → Int32) : ((∀ j, j < 3 → a j = b j) ∧ fX3_hasWordsOf a b = some 1) ∨ (¬ (∀ j, j < 3 → a j = b j) ∧ fX3_hasWordsOf a b = some 0) := by
  unfold fX3_hasWordsOf
  rw [L0, show FUEL = 99996 + 3 + 1 from rfl, show I (0 : Int) = I ((0 : Nat) : Int) from rfl]
  rcases cmW8 a b 3 0 (by omega) 99996 with ⟨h1, h2⟩ | ⟨h1, h2⟩
  · rw [h2, bnd1_some]
    exact Or.inl ⟨fun j hj => h1 j (by omega) hj, rfl⟩
  · rw [h2, bnd1_some]
    exact Or.inr ⟨fun q => h1 fun j _ hj => q j hj, rfl⟩
theorem p_alike (hi hi2 : Int32) (num words kn kw g kg : Nat → Int32) (hF : FI num words g) (hK : KI hi kn kw hi2 kg) : ∃ r, fX8_alike hi num words kn kw = some r ∧ fX9_alike hi2 g kg = some r := by
  obtain ⟨rfl, hK⟩ := hK
  unfold fX8_alike fX9_alike
  by_cases c : hi2 = 0
  · rw [if_pos c, if_pos c]
    exact ⟨_, rfl, rfl⟩
  · obtain ⟨N, W, hV, hW, hn, hw, hg, hp⟩ := hF
    obtain ⟨N2, W2, hV2, hW2, hn2, hw2, hg2, hp2⟩ := hK c
    have hl : ∀ P : Prop, (¬ P → fX9_alike_L12 hi2 g kg FUEL (0 : Int32) = some (.inl ())) → (P → fX9_alike_L12 hi2 g kg FUEL (0 : Int32) = some (.inr ())) → True := fun _ _ _ => trivial
    have iff1 : (∀ j, 0 ≤ j → j < 13 → g j = kg j) ↔ (∀ j, j < 10 → num j = kn j) ∧ ∀ j, j < 3 → words j = kw j := by
      constructor
      · intro h
        refine ⟨fun j hj => ?_, fun j hj => ?_⟩
        · rw [hn j hj, hn2 j hj, ← hg j hj, ← hg2 j hj]; exact h j (by omega) (by omega)
        · rw [hw j hj, hw2 j hj, ← hp j hj, ← hp2 j hj]; exact h _ (by omega) (by omega)
      · rintro ⟨h1, h2⟩ j - hj
        by_cases q : j < 10
        · rw [hg j q, hg2 j q, ← hn j q, ← hn2 j q]; exact h1 j q
        · have e : j = 10 + (j - 10) := by omega
          rw [e, hp _ (by omega), hp2 _ (by omega), ← hw _ (by omega), ← hw2 _ (by omega)]; exact h2 _ (by omega)
    rw [if_neg c, if_neg c]
    have e9 : fX9_alike_L12 hi2 g kg FUEL (0 : Int32) = fX9_alike_L12 hi2 g kg (99986 + 13 + 1) (I (0 : Nat)) := by rw [L0]; rfl
    rw [e9]
    rcases cmG9 hi2 g kg 13 0 (by omega) 99986 with ⟨h1, h2⟩ | ⟨h1, h2⟩
    · obtain ⟨q1, q2⟩ := iff1.mp h1
      rw [h2]
      rcases hsN8 num kn with ⟨-, h3⟩ | ⟨h3, -⟩
      · rcases hsW8 words kw with ⟨-, h4⟩ | ⟨h4, -⟩
        · rw [h3, h4, bnd1_some, bnd1_some, bnd1_some]
          exact ⟨_, rfl, rfl⟩
        · exact absurd q2 h4
      · exact absurd q1 h3
    · rw [h2]
      rcases hsN8 num kn with ⟨h5, h3⟩ | ⟨-, h3⟩
      · rcases hsW8 words kw with ⟨h6, -⟩ | ⟨-, h4⟩
        · exact absurd (iff1.mpr ⟨h5, h6⟩) h1
        · rw [h3, h4, bnd1_some, bnd1_some, bnd1_some]
          exact ⟨_, rfl, rfl⟩
      · rw [h3, bnd1_some, bnd1_some]
        exact ⟨_, rfl, rfl⟩
