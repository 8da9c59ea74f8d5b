/-! texts: the class's automaton and the reference's reading -/
def ix (t : Nat) : Int := if t = 110 then 0 else if t = 98 then 1 else if t = 99 then 2 else if t = 105 then 3 else if t = 115 then 4 else if t = 114 then 5 else if t = 111 then 6 else if t = 112 then 7 else if t = 121 then 8 else if t = 120 then 9 else -1
def mn (t : Nat) : Nat := if ix t = -1 then 0 else if t = 99 ∨ t = 121 then 2 else 1
theorem ixX : ∀ t : Nat, t < 127 → 32 ≤ t → fJ0_indexOf_0f7a4 (((I t).toUInt32 % 65536).toInt32) = some (I (ix t)) := by decide +kernel
theorem mnM : ∀ t : Nat, t < 127 → 32 ≤ t → fX9_numbersOf (I t) = some (I (mn t)) := by decide +kernel
theorem mnm1 : fX9_numbersOf (I (-1)) = some (I 0) := by decide +kernel
theorem ix_b (t : Nat) : -1 ≤ ix t ∧ ix t ≤ 9 := by unfold ix; (repeat' split) <;> omega
theorem mn2 (t : Nat) (h : ix t ≠ -1) : (mn t = 2 ∧ (ix t = 2 ∨ ix t = 8)) ∨ (mn t = 1 ∧ ix t ≠ 2 ∧ ix t ≠ 8) := by
  unfold mn
  rw [if_neg h]
  by_cases c : t = 99 ∨ t = 121
  · rw [if_pos c]
    refine Or.inl ⟨rfl, ?_⟩
    rcases c with rfl | rfl
    · exact Or.inl rfl
    · exact Or.inr rfl
  · rw [if_neg c]
    refine Or.inr ⟨rfl, ?_, ?_⟩ <;> unfold ix <;> (repeat' split) <;> omega
/-- the byte at a place; -1 behind the last -/
def hre (T : Nat → Nat) (n i : Nat) : Int := if i < n then (T i : Int) else -1
def fig (T : Nat → Nat) (n i : Nat) : Prop := 48 ≤ hre T n i ∧ hre T n i ≤ 57
def TOK (T : Nat → Nat) (n : Nat) (tp : Nat → Int32) : Prop := n ≤ 80 ∧ ∀ j, j < n → 32 ≤ T j ∧ T j ≤ 126 ∧ tp j = I (T j)
theorem hre_b {T : Nat → Nat} {n : Nat} {tp : Nat → Int32} (h : TOK T n tp) (i : Nat) : hre T n i = -1 ∨ (i < n ∧ hre T n i = T i ∧ 32 ≤ T i ∧ T i ≤ 126) := by
  unfold hre
  by_cases c : i < n
  · rw [if_pos c]
    obtain ⟨h1, h2, -⟩ := h.2 i c
    exact Or.inr ⟨c, rfl, h1, h2⟩
  · rw [if_neg c]
    exact Or.inl rfl
theorem g80 {i : Nat} (hi : i < 80) : ¬ (I i < 0 ∨ 80 ≤ i) := by rw [L0, I_lt (by omega) (by omega) (by omega) (by omega)]; omega
theorem her9 {T : Nat → Nat} {n : Nat} {tp : Nat → Int32} (h : TOK T n tp) {i : Nat} (hi : i ≤ n) : fX9_here (I n) (I i) tp = some (I (hre T n i)) := by
  have hn := h.1
  unfold fX9_here hre
  by_cases c : i < n
  · rw [if_neg (by rw [I_le (by omega) (by omega) (by omega) (by omega)]; omega), clN (by omega), if_neg (g80 (by omega)), if_pos c, (h.2 i c).2.2]
  · rw [if_pos (by rw [I_le (by omega) (by omega) (by omega) (by omega)]; omega), if_neg c]; rfl
theorem sgn9 {T : Nat → Nat} {n : Nat} {tp : Nat → Int32} (h : TOK T n tp) {i : Nat} (hi : i ≤ n) {c : Int} (c1 : 0 ≤ c) (c2 : c ≤ 200) : fX9_isSign (I c) (I n) (I i) tp = some (if hre T n i = c then ((1 : Int32), I (i + 1 : Nat)) else ((0 : Int32), I i)) := by
  have hb := hre_b h i
  unfold fX9_isSign fX9_isSign_j13
  rw [her9 h hi, bnd1_some]
  by_cases e : hre T n i = c
  · rw [if_pos (by rw [e]), if_pos e, if_neg (c := (1 : Int32) = 0) (by decide), if_neg (c := ¬ _) (by decide), L1, I_add]; rfl
  · rw [if_neg (fun q => e (I_inj (by omega) (by omega) (by omega) (by omega) q)), if_neg e, if_pos (c := (0 : Int32) = 0) rfl, if_neg (c := ¬ _) (by decide), L0, I_add, Int.add_zero]
theorem fig9 {T : Nat → Nat} {n : Nat} {tp : Nat → Int32} (h : TOK T n tp) {i : Nat} (hi : i ≤ n) : (fig T n i ∧ fX9_isFigure (I n) (I i) tp = some 1) ∨ (¬ fig T n i ∧ fX9_isFigure (I n) (I i) tp = some 0) := by
  have hb := hre_b h i
  have e48 : (48 : Int64) = J 48 := by decide +kernel
  have e57 : (57 : Int64) = J 57 := by decide +kernel
  unfold fX9_isFigure
  rw [her9 h hi, bnd1_some, e48, e57, inR9 _ 48 57 (by omega) (by omega) (by omega) (by omega) (by omega) (by omega), bnd1_some]
  by_cases c : 48 ≤ hre T n i ∧ hre T n i ≤ 57
  · rw [if_pos c, if_neg (c := ¬ _) (by decide +kernel)]
    exact Or.inl ⟨c, by rw [L1]⟩
  · rw [if_neg c, if_neg (c := ¬ _) (by decide +kernel)]
    exact Or.inr ⟨c, by rw [L0]⟩
theorem fig_lt {T : Nat → Nat} {n i : Nat} (h : fig T n i) : i < n ∧ hre T n i = T i := by
  unfold fig hre at h
  unfold hre
  by_cases c : i < n
  · exact ⟨c, if_pos c⟩
  · rw [if_neg c] at h; omega
noncomputable def tldR (x1 tpd : Int32) (tape : Nat → Int32) (told : Nat → Int32) (r1 o2 : Int32) : Option (Int32 × Int32 × (Nat → Int32)) := bnd1 (fX9_isFigure tpd o2 tape) fun r3 => if r3 = 0 then (some ((0:Int32), o2, told)) else (bnd1 (fX9_here tpd o2 tape) fun r4 => if x1 < 0 ∨ 2 ≤ x1.toNatClampNeg then none else (bnd1 (fX9_isFigure tpd (o2 + (1:Int32)) tape) fun r5 => if r5 = 0 then (fX9_isTold_j79 x1 tpd tape r1 (o2 + (1:Int32)) (upd told x1.toNatClampNeg (r4 - (48:Int32)))) else (if x1 < 0 ∨ 2 ≤ x1.toNatClampNeg then none else (bnd1 (fX9_here tpd (o2 + (1:Int32)) tape) fun r6 => if x1 < 0 ∨ 2 ≤ x1.toNatClampNeg then none else (fX9_isTold_j79 x1 tpd tape r1 ((o2 + (1:Int32)) + (1:Int32)) (upd (upd told x1.toNatClampNeg (r4 - (48:Int32))) x1.toNatClampNeg ((((10:Int32) * ((upd told x1.toNatClampNeg (r4 - (48:Int32))) x1.toNatClampNeg)) + r6) - (48:Int32))))))))
/-- a number at a place, as the reference tells it -/
theorem tld9 {T : Nat → Nat} {n : Nat} {tp : Nat → Int32} (h : TOK T n tp) {i : Nat} (hi : i ≤ n) (k : Nat) (hk : k < 2) (told : Nat → Int32) :
    ∃ s : Nat, ((s = 1 ∧ hre T n i = 45) ∨ (s = 0 ∧ hre T n i ≠ 45)) ∧ i + s ≤ n ∧ ((¬ fig T n (i + s) ∧ fX9_isTold (I k) (I n) (I i) tp told = some (0, I (i + s : Nat), told)) ∨
      (fig T n (i + s) ∧ ∃ (m : Nat) (v : Int) (told' : Nat → Int32), ((m = 1 ∧ ¬ fig T n (i + s + 1) ∧ v = hre T n (i + s) - 48) ∨ (m = 2 ∧ fig T n (i + s + 1) ∧ v = 10 * (hre T n (i + s) - 48) + hre T n (i + s + 1) - 48)) ∧ fX9_isTold (I k) (I n) (I i) tp told = some (1, I (i + s + m : Nat), told') ∧ told' k = I (if s = 1 then -v else v) ∧ ∀ j, j ≠ k → told' j = told j)) := by
  have e45 : (45 : Int32) = I 45 := by decide +kernel
  have e48 : (48 : Int32) = I 48 := by decide +kernel
  have gk : ¬ (I k < 0 ∨ 2 ≤ k) := by rw [L0, I_lt (by omega) (by omega) (by omega) (by omega)]; omega
  have hb := hre_b h i
  have rest : ∀ s : Nat, i + s ≤ n → (s = 0 ∨ s = 1) → ∀ X : Option (Int32 × Int32 × (Nat → Int32)), X = tldR (I k) (I n) tp told (I s) (I (i + s : Nat)) →
      ((¬ fig T n (i + s) ∧ X = some (0, I (i + s : Nat), told)) ∨
      (fig T n (i + s) ∧ ∃ (m : Nat) (v : Int) (told' : Nat → Int32), ((m = 1 ∧ ¬ fig T n (i + s + 1) ∧ v = hre T n (i + s) - 48) ∨ (m = 2 ∧ fig T n (i + s + 1) ∧ v = 10 * (hre T n (i + s) - 48) + hre T n (i + s + 1) - 48)) ∧ X = some (1, I (i + s + m : Nat), told') ∧ told' k = I (if s = 1 then -v else v) ∧ ∀ j, j ≠ k → told' j = told j)) := by
    intro s hs s01 X hX
    have fin : ∀ (u : Int) (a : Int32) (f : Nat → Int32), f k = I u → (∀ j, j ≠ k → f j = told j) → ∃ told', fX9_isTold_j79 (I k) (I n) tp (I s) a f = some (1, a, told') ∧ told' k = I (if s = 1 then -u else u) ∧ ∀ j, j ≠ k → told' j = told j := by
      intro u a f hf hj
      unfold fX9_isTold_j79
      rw [clN (by omega)]
      simp only [if_neg gk]
      rcases s01 with rfl | rfl
      · rw [if_pos (c := I ((0 : Nat) : Int) = 0) rfl]
        refine ⟨_, rfl, by rw [upd_s, hf, if_neg (by decide)], fun j hne => by rw [upd_o _ _ hne, hj j hne]⟩
      · rw [if_neg (c := I ((1 : Nat) : Int) = 0) (by decide +kernel)]
        refine ⟨_, rfl, by rw [upd_s, hf, if_pos rfl, I_neg], fun j hne => by rw [upd_o _ _ hne, hj j hne]⟩
    rw [hX]
    unfold tldR
    rcases fig9 h hs with ⟨f1, f2⟩ | ⟨f1, f2⟩
    · have hlt := fig_lt f1
      have h1 : I (i + s : Nat) + (1 : Int32) = I (i + s + 1 : Nat) := by rw [L1, I_add]; rfl
      rw [f2, bnd1_some, if_neg (c := (1 : Int32) = 0) (by decide), her9 h hs, bnd1_some, clN (show k < 100000 by omega), h1]
      simp only [if_neg gk]
      rcases fig9 h (show i + s + 1 ≤ n by omega) with ⟨g1, g2⟩ | ⟨g1, g2⟩
      · have hlt2 := fig_lt g1
        have h2 : I (i + s + 1 : Nat) + (1 : Int32) = I (i + s + 2 : Nat) := by rw [L1, I_add]; rfl
        rw [g2, bnd1_some, if_neg (c := (1 : Int32) = 0) (by decide), her9 h (show i + s + 1 ≤ n by omega), bnd1_some, upd_s, h2, e48, I_sub, L10, I_mul, I_add, I_sub]
        obtain ⟨t', t1, t2, t3⟩ := fin (10 * (hre T n (i + s) - 48) + hre T n (i + s + 1) - 48) (I (i + s + 2 : Nat)) (upd (upd told k (I (hre T n (i + s) - 48))) k (I (10 * (hre T n (i + s) - 48) + hre T n (i + s + 1) - 48))) (by rw [upd_s]) (fun j hj => by rw [upd_o _ _ hj, upd_o _ _ hj])
        exact Or.inr ⟨f1, 2, _, t', Or.inr ⟨rfl, g1, rfl⟩, t1, t2, t3⟩
      · rw [g2, bnd1_some, if_pos (c := (0 : Int32) = 0) rfl, e48, I_sub]
        obtain ⟨t', t1, t2, t3⟩ := fin (hre T n (i + s) - 48) (I (i + s + 1 : Nat)) (upd told k (I (hre T n (i + s) - 48))) (by rw [upd_s]) (fun j hj => by rw [upd_o _ _ hj])
        exact Or.inr ⟨f1, 1, _, t', Or.inl ⟨rfl, g1, rfl⟩, t1, t2, t3⟩
    · rw [f2, bnd1_some, if_pos (c := (0 : Int32) = 0) rfl]
      exact Or.inl ⟨f1, rfl⟩
  unfold fX9_isTold
  rw [e45, sgn9 h hi (by omega) (by omega)]
  by_cases c : hre T n i = 45
  · have hlt : i < n := by
      rcases hb with hb | hb
      · omega
      · exact hb.1
    rw [if_pos c, bnd2_some, L1]
    refine ⟨1, Or.inl ⟨rfl, c⟩, by omega, ?_⟩
    have := rest 1 (by omega) (Or.inr rfl) _ rfl
    rw [L1] at this
    exact this
  · rw [if_neg c, bnd2_some, L0]
    refine ⟨0, Or.inr ⟨rfl, c⟩, by omega, ?_⟩
    have := rest 0 (by omega) (Or.inl rfl) _ rfl
    rw [L0] at this
    exact this
