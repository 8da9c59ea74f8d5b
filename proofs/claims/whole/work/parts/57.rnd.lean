/-! ROUNDED, and the WORD that comes of a number -/
def rI (r P x : Int) : Int := if x - x / P * P = 0 then x / P else if r = 1 then (if 0 ≤ x then x / P else x / P + 1) else if r = 2 then (if 2 * (x - x / P * P) - P < 0 then x / P else x / P + 1) else if r = 3 then (if 2 * (x - x / P * P) - P = 0 then x / P + x / P % 2 else if 2 * (x - x / P * P) - P ≤ 0 then x / P else x / P + 1) else if r = 4 then (if 0 ≤ x then x / P + 1 else x / P) else x / P
theorem rI_b (r x : Int) {s : Int} (h0 : 0 ≤ s) (h6 : s ≤ 6) {K : Int} (hx : -K ≤ x) (hx' : x ≤ K) (hK : 0 ≤ K) : -K - 1 ≤ rI r (pw s) x ∧ rI r (pw s) x ≤ K + 1 := by
  unfold rI
  rcases pw_cs h0 h6 with ⟨-, e⟩ | ⟨-, e⟩ | ⟨-, e⟩ | ⟨-, e⟩ | ⟨-, e⟩ | ⟨-, e⟩ | ⟨-, e⟩ <;> rw [e] <;> grind
theorem rnd8 {r s x : Int} (hr : 0 ≤ r) (hr' : r ≤ 4) (h0 : 0 ≤ s) (h6 : s ≤ 6) (hx : -1000000 ≤ x) (hx' : x ≤ 1000000) : fX3_toWhole (I r) (I s) (I x) = some (I (rI r (pw s) x)) := by
  unfold fX3_toWhole rI
  rcases pw_cs h0 h6 with ⟨rfl, e⟩ | ⟨rfl, e⟩ | ⟨rfl, e⟩ | ⟨rfl, e⟩ | ⟨rfl, e⟩ | ⟨rfl, e⟩ | ⟨rfl, e⟩ <;>
  simp (disch := omega) only [pw_shr, pw_shl, e, I_and1, L0, L1, L2, L3, L4, L5, L6, L7, L10, L11, L12, L13, L20, L24, L40, L80, L99, L100, L200, L1005, L1024, I_add, I_sub, I_mul, I_neg, I_lt, I_le, I_eq, I_cl, apply_ite some, apply_ite I, Int.one_mul]
theorem fdv9 {s x : Int} (h0 : 0 ≤ s) (h6 : s ≤ 6) (hx : -1000000 ≤ x) (hx' : x ≤ 1000000) : fJ9_floorDiv_7cf53 (I x) (I (pw s)) = some (I (x / pw s)) := by
  unfold fJ9_floorDiv_7cf53
  rcases pw_cs h0 h6 with ⟨rfl, e⟩ | ⟨rfl, e⟩ | ⟨rfl, e⟩ | ⟨rfl, e⟩ | ⟨rfl, e⟩ | ⟨rfl, e⟩ | ⟨rfl, e⟩ <;>
  simp (disch := omega) only [e, I_xsg, L0, L1, L2, L3, L4, L5, L6, L7, L10, L11, L12, L13, L20, L24, L40, L80, L99, L100, L200, L1005, L1024, I_div, I_tdiv, I_add, I_sub, I_mul, I_neg] <;>
  by_cases c : 0 ≤ x <;> simp only [c, true_or, false_or, if_true, if_false] <;> grind [I_eq]
theorem rnd9 {r s x : Int} (hr : 0 ≤ r) (hr' : r ≤ 4) (h0 : 0 ≤ s) (h6 : s ≤ 6) (hx : -1000000 ≤ x) (hx' : x ≤ 1000000) : fX9_roundedBy (I r) (I s) (I x) = some (I (rI r (pw s) x)) := by
  unfold fX9_roundedBy
  rw [L1, pw_shl _ _ h0 (by omega), Int.one_mul, fdv9 h0 h6 hx hx', bnd1_some]
  unfold rI
  rcases pw_cs h0 h6 with ⟨rfl, e⟩ | ⟨rfl, e⟩ | ⟨rfl, e⟩ | ⟨rfl, e⟩ | ⟨rfl, e⟩ | ⟨rfl, e⟩ | ⟨rfl, e⟩ <;>
  simp (disch := omega) only [e, I_xsg, L0, L1, L2, L3, L4, L5, L6, L7, L10, L11, L12, L13, L20, L24, L40, L80, L99, L100, L200, L1005, L1024, I_div, I_tdiv, I_add, I_sub, I_mul, I_neg, I_lt, I_le, I_eq, I_cl] <;> grind
