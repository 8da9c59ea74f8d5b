/-! the WORD that comes of a number -/
def oI (o h w x : Int) : Int := if o = 1 then (if 0 ≤ x then h - 1 else -h) else if o = 2 then 0 else if o = 3 then w else if o = 4 then -1005 else (x + h) % (2 * h) - h
def bI9 (o h w x : Int) : Int := if x < -h ∨ h ≤ x then oI o h w x else x
theorem pw_hf {b : Int} (h2 : 2 ≤ b) (h5 : b ≤ 5) : (b = 2 ∧ pw (b - 1) = 2) ∨ (b = 3 ∧ pw (b - 1) = 4) ∨ (b = 4 ∧ pw (b - 1) = 8) ∨ (b = 5 ∧ pw (b - 1) = 16) := by
  have h : b = 2 ∨ b = 3 ∨ b = 4 ∨ b = 5 := by omega
  rcases h with h | h | h | h <;> subst h <;> decide
theorem hf8 {num : Nat → Int32} {b : Int} (e1 : num 1 = I b) (h2 : 2 ≤ b) (h5 : b ≤ 5) : fX3_half num = some (I (pw (b - 1))) := by
  unfold fX3_half
  simp (disch := omega) only [e1, L0, L1, L2, L3, L4, L5, L6, L7, L10, L11, L12, L13, L20, L24, L40, L80, L99, L100, L200, L1005, L1024, I_add, I_sub, I_mul, I_neg, pw_shl, Int.one_mul]
theorem hf9 {g : Nat → Int32} {b : Int} (e1 : g 1 = I b) (h2 : 2 ≤ b) (h5 : b ≤ 5) : fX9_half g = some (I (pw (b - 1))) := by
  unfold fX9_half
  simp (disch := omega) only [e1, L0, L1, L2, L3, L4, L5, L6, L7, L10, L11, L12, L13, L20, L24, L40, L80, L99, L100, L200, L1005, L1024, I_add, I_sub, I_mul, I_neg, pw_shl, Int.one_mul]
theorem hl8 {num : Nat → Int32} {b x : Int} (e1 : num 1 = I b) (h2 : 2 ≤ b) (h5 : b ≤ 5) (hx : -2147483648 ≤ x) (hx' : x < 2147483648) : fX3_holds (I x) num = some (if x < -(pw (b - 1)) ∨ pw (b - 1) ≤ x then I 0 else I 1) := by
  unfold fX3_holds
  rw [hf8 e1 h2 h5]
  rcases pw_hf h2 h5 with ⟨rfl, e⟩ | ⟨rfl, e⟩ | ⟨rfl, e⟩ | ⟨rfl, e⟩ <;>
  simp (disch := omega) only [e, L0, L1, L2, L3, L4, L5, L6, L7, L10, L11, L12, L13, L20, L24, L40, L80, L99, L100, L200, L1005, L1024, I_add, I_sub, I_mul, I_neg, I_lt, I_le, I_eq, I_cl, bnd1_some] <;> grind
theorem hl9 {g : Nat → Int32} {b x : Int} (e1 : g 1 = I b) (h2 : 2 ≤ b) (h5 : b ≤ 5) (hx : -2147483648 ≤ x) (hx' : x < 2147483648) : fX9_isWord (I x).toInt64 g = some (if x < -(pw (b - 1)) ∨ pw (b - 1) ≤ x then I 0 else I 1) := by
  unfold fX9_isWord
  rw [hf9 e1 h2 h5]
  rcases pw_hf h2 h5 with ⟨rfl, e⟩ | ⟨rfl, e⟩ | ⟨rfl, e⟩ | ⟨rfl, e⟩ <;>
  simp (disch := omega) only [e, L0, L1, L2, L3, L4, L5, L6, L7, L10, L11, L12, L13, L20, L24, L40, L80, L99, L100, L200, L1005, L1024, I_add, I_sub, I_mul, I_neg, bnd1_some, inI, IJ, J_le, b01, not_true, if_false] <;> grind
theorem wd8 {num words : Nat → Int32} {b o x w : Int} (e1 : num 1 = I b) (h2 : 2 ≤ b) (h5 : b ≤ 5) (hw : words 0 = I w) (ho : 0 ≤ o) (ho' : o ≤ 4) (hx : -1000000 ≤ x) (hx' : x ≤ 1000000) : fX3_toWord (I o) (I x) num words = some (I (bI9 o (pw (b - 1)) w x)) := by
  unfold fX3_toWord bI9
  have hj : fX3_toWord_j18 (I o) (I x) num words (I (pw (b - 1))) = some (I (oI o (pw (b - 1)) w x)) := by
    unfold fX3_toWord_j18 oI
    rw [hw]
    have am : ∀ (z : Int), (I z &&& I 3 = I (z % 4)) ∧ (I z &&& I 7 = I (z % 8)) ∧ (I z &&& I 15 = I (z % 16)) ∧ (I z &&& I 31 = I (z % 32)) := fun z => ⟨I_andm z 2 (by decide), I_andm z 3 (by decide), I_andm z 4 (by decide), I_andm z 5 (by decide)⟩
    rcases pw_hf h2 h5 with ⟨rfl, e⟩ | ⟨rfl, e⟩ | ⟨rfl, e⟩ | ⟨rfl, e⟩ <;>
    rw [e] <;>
    simp (disch := omega) only [L0, L1, L2, L3, L4, L5, L6, L7, L10, L11, L12, L13, L20, L24, L40, L80, L99, L100, L200, L1005, L1024, I_add, I_sub, I_mul, I_neg, I_lt, I_le, I_eq, I_cl, Int.reduceMul, Int.reduceSub, (am _).1, (am _).2.1, (am _).2.2.1, (am _).2.2.2, apply_ite some, apply_ite I]
  have hp : 2 ≤ pw (b - 1) ∧ pw (b - 1) ≤ 16 := by
    rcases pw_hf h2 h5 with ⟨rfl, e⟩ | ⟨rfl, e⟩ | ⟨rfl, e⟩ | ⟨rfl, e⟩ <;> omega
  rw [hf8 e1 h2 h5]
  simp (disch := omega) only [I_add, I_sub, I_mul, I_neg, I_lt, I_le, I_eq, I_cl, bnd1_some, hj]
  by_cases c : x < -pw (b - 1)
  · simp [c]
  · by_cases c2 : pw (b - 1) ≤ x
    · simp [c, c2]
    · simp [c, c2]
theorem bI9_w {b o w x : Int} (h2 : 2 ≤ b) (h5 : b ≤ 5) (ho : 0 ≤ o) (ho' : o ≤ 4) (hw : -pw (b - 1) ≤ w ∧ w < pw (b - 1)) : (-pw (b - 1) ≤ bI9 o (pw (b - 1)) w x ∧ bI9 o (pw (b - 1)) w x < pw (b - 1)) ∨ bI9 o (pw (b - 1)) w x = -1005 := by
  unfold bI9 oI
  rcases pw_hf h2 h5 with ⟨rfl, e⟩ | ⟨rfl, e⟩ | ⟨rfl, e⟩ | ⟨rfl, e⟩ <;> rw [e] at hw ⊢ <;> (repeat' split) <;> omega
theorem fmd9 {b y : Int} (h2 : 2 ≤ b) (h5 : b ≤ 5) (hx : -2000000 ≤ y) (hx' : y ≤ 2000000) : fJ9_floorMod_7cf53 (I y) (I (2 * pw (b - 1))) = some (I (y % (2 * pw (b - 1)))) := by
  unfold fJ9_floorMod_7cf53
  rcases pw_hf h2 h5 with ⟨rfl, e⟩ | ⟨rfl, e⟩ | ⟨rfl, e⟩ | ⟨rfl, e⟩ <;>
  simp (disch := omega) only [e, Int.reduceMul, I_xsg, L0, L1, L2, L3, L4, L5, L6, L7, L10, L11, L12, L13, L20, L24, L40, L80, L99, L100, L200, L1005, L1024, I_div, I_tdiv, I_add, I_sub, I_mul, I_neg] <;>
  by_cases c : 0 ≤ y <;> simp only [c, true_or, false_or, if_true, if_false] <;> grind [I_eq]
theorem wd9 {g : Nat → Int32} {b o x w : Int} (e1 : g 1 = I b) (h2 : 2 ≤ b) (h5 : b ≤ 5) (ho : 0 ≤ o) (ho' : o ≤ 4) (hx : -1000000 ≤ x) (hx' : x ≤ 1000000) : fX9_boundedBy (I o) (I x) (I w) g = some (I (oI o (pw (b - 1)) w x)) := by
  unfold fX9_boundedBy oI
  have hp : 2 ≤ pw (b - 1) ∧ pw (b - 1) ≤ 16 := by
    rcases pw_hf h2 h5 with ⟨rfl, e⟩ | ⟨rfl, e⟩ | ⟨rfl, e⟩ | ⟨rfl, e⟩ <;> omega
  rw [hf9 e1 h2 h5]
  simp (disch := omega) only [L0, L1, L2, L3, L4, L5, L6, L7, L10, L11, L12, L13, L20, L24, L40, L80, L99, L100, L200, L1005, L1024, I_add, I_sub, I_mul, I_neg, I_lt, I_le, I_eq, I_cl, bnd1_some, fmd9 h2 h5]
  have o5 : o = 0 ∨ o = 1 ∨ o = 2 ∨ o = 3 ∨ o = 4 := by omega
  rcases o5 with rfl | rfl | rfl | rfl | rfl
  · simp only [if_true]; rfl
  · by_cases c : 0 ≤ x
    · simp [c]
    · simp [c]
  · simp
  · simp
  · simp
