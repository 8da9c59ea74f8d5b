/-! codes of pasts -/
def stN (N : Nat → Int) : Int := pw (N 0 * N 1)
def cd (N W : Nat → Int) : Int := if N 0 = 1 then W 0 + hf N else if N 0 = 2 then (W 0 + hf N) * pw (N 1) + (W 1 + hf N) else ((W 0 + hf N) * pw (N 1) + (W 1 + hf N)) * pw (N 1) + (W 2 + hf N)
def unW (N : Nat → Int) (c : Int) : Nat → Int := fun k => if (k : Int) + 1 = N 0 then c % pw (N 1) - hf N else if (k : Int) + 2 = N 0 then c / pw (N 1) % pw (N 1) - hf N else if (k : Int) + 3 = N 0 then c / pw (N 1) / pw (N 1) % pw (N 1) - hf N else 0
theorem tenN {N : Nat → Int} (hV : Vl N) : ∃ a b B h S T : Int, N 0 = a ∧ N 1 = b ∧ pw (N 1) = B ∧ hf N = h ∧ stN N = S ∧ pw (N 1 * (N 0 - 1)) = T ∧ 0 ≤ N 0 * N 1 ∧ N 0 * N 1 ≤ 10 ∧ 0 ≤ N 1 * (N 0 - 1) ∧ N 1 * (N 0 - 1) ≤ 10 ∧ ((a = 1 ∧ b = 2 ∧ B = 4 ∧ h = 2 ∧ S = 4 ∧ T = 1) ∨ (a = 1 ∧ b = 3 ∧ B = 8 ∧ h = 4 ∧ S = 8 ∧ T = 1) ∨ (a = 1 ∧ b = 4 ∧ B = 16 ∧ h = 8 ∧ S = 16 ∧ T = 1) ∨ (a = 1 ∧ b = 5 ∧ B = 32 ∧ h = 16 ∧ S = 32 ∧ T = 1) ∨ (a = 2 ∧ b = 2 ∧ B = 4 ∧ h = 2 ∧ S = 16 ∧ T = 4) ∨ (a = 2 ∧ b = 3 ∧ B = 8 ∧ h = 4 ∧ S = 64 ∧ T = 8) ∨ (a = 2 ∧ b = 4 ∧ B = 16 ∧ h = 8 ∧ S = 256 ∧ T = 16) ∨ (a = 2 ∧ b = 5 ∧ B = 32 ∧ h = 16 ∧ S = 1024 ∧ T = 32) ∨ (a = 3 ∧ b = 2 ∧ B = 4 ∧ h = 2 ∧ S = 64 ∧ T = 16) ∨ (a = 3 ∧ b = 3 ∧ B = 8 ∧ h = 4 ∧ S = 512 ∧ T = 64)) := by
  obtain ⟨h0, h1, h10, -⟩ := hV
  have e0 : N 0 = 1 ∨ N 0 = 2 ∨ N 0 = 3 := by omega
  have e1 : N 1 = 2 ∨ N 1 = 3 ∨ N 1 = 4 ∨ N 1 = 5 := by omega
  refine ⟨_, _, _, _, _, _, rfl, rfl, rfl, rfl, rfl, rfl, ?_⟩
  unfold hf stN
  rcases e0 with e0 | e0 | e0 <;> rcases e1 with e1 | e1 | e1 | e1 <;> rw [e0, e1] at h10 ⊢ <;> first | omega | decide +kernel
theorem st_b {N : Nat → Int} (hV : Vl N) : 4 ≤ stN N ∧ stN N ≤ 1024 := by
  obtain ⟨a, b, B, h, S, T, e0, e1, eB, eh, eS, eT, -, -, -, -, c⟩ := tenN hV
  rw [eS]
  omega
theorem cd_b {N W : Nat → Int} (hV : Vl N) (hW : Wd N W) : 0 ≤ cd N W ∧ cd N W < stN N := by
  have w0 := hW 0 (by omega)
  have w1 := hW 1 (by omega)
  have w2 := hW 2 (by omega)
  obtain ⟨a, b, B, h, S, T, e0, e1, eB, eh, eS, eT, -, -, -, -, c⟩ := tenN hV
  unfold cd
  rw [e0, eB, eh, eS]
  rw [eh] at w0 w1 w2
  rcases c with ⟨rfl, rfl, rfl, rfl, rfl, rfl⟩ | ⟨rfl, rfl, rfl, rfl, rfl, rfl⟩ | ⟨rfl, rfl, rfl, rfl, rfl, rfl⟩ | ⟨rfl, rfl, rfl, rfl, rfl, rfl⟩ | ⟨rfl, rfl, rfl, rfl, rfl, rfl⟩ | ⟨rfl, rfl, rfl, rfl, rfl, rfl⟩ | ⟨rfl, rfl, rfl, rfl, rfl, rfl⟩ | ⟨rfl, rfl, rfl, rfl, rfl, rfl⟩ | ⟨rfl, rfl, rfl, rfl, rfl, rfl⟩ | ⟨rfl, rfl, rfl, rfl, rfl, rfl⟩ <;> simp <;> omega
theorem unW_w {N : Nat → Int} (hV : Vl N) (c : Int) : Wd N (unW N c) := by
  intro k hk
  obtain ⟨a, b, B, h, S, T, e0, e1, eB, eh, eS, eT, -, -, -, -, cc⟩ := tenN hV
  unfold unW
  rw [e0, eB, eh]
  rcases cc with ⟨rfl, rfl, rfl, rfl, rfl, rfl⟩ | ⟨rfl, rfl, rfl, rfl, rfl, rfl⟩ | ⟨rfl, rfl, rfl, rfl, rfl, rfl⟩ | ⟨rfl, rfl, rfl, rfl, rfl, rfl⟩ | ⟨rfl, rfl, rfl, rfl, rfl, rfl⟩ | ⟨rfl, rfl, rfl, rfl, rfl, rfl⟩ | ⟨rfl, rfl, rfl, rfl, rfl, rfl⟩ | ⟨rfl, rfl, rfl, rfl, rfl, rfl⟩ | ⟨rfl, rfl, rfl, rfl, rfl, rfl⟩ | ⟨rfl, rfl, rfl, rfl, rfl, rfl⟩ <;> (repeat' split) <;> omega
theorem cdB {N : Nat → Int} (hV : Vl N) {c r : Int} (h0 : 0 ≤ c) (h1 : c < stN N) : cd N (psh N (unW N c) r) = (r + hf N) * pw (N 1 * (N 0 - 1)) + c / pw (N 1) := by
  obtain ⟨a, b, B, h, S, T, e0, e1, eB, eh, eS, eT, -, -, -, -, cc⟩ := tenN hV
  unfold cd psh unW
  rw [eS] at h1
  rw [eT, e0, eB, eh]
  rcases cc with ⟨rfl, rfl, rfl, rfl, rfl, rfl⟩ | ⟨rfl, rfl, rfl, rfl, rfl, rfl⟩ | ⟨rfl, rfl, rfl, rfl, rfl, rfl⟩ | ⟨rfl, rfl, rfl, rfl, rfl, rfl⟩ | ⟨rfl, rfl, rfl, rfl, rfl, rfl⟩ | ⟨rfl, rfl, rfl, rfl, rfl, rfl⟩ | ⟨rfl, rfl, rfl, rfl, rfl, rfl⟩ | ⟨rfl, rfl, rfl, rfl, rfl, rfl⟩ | ⟨rfl, rfl, rfl, rfl, rfl, rfl⟩ | ⟨rfl, rfl, rfl, rfl, rfl, rfl⟩ <;> simp <;> omega
theorem lat_e {N : Nat → Int} (hV : Vl N) {c : Int} (h0 : 0 ≤ c) (h1 : c < stN N) : c / pw (N 1 * (N 0 - 1)) - hf N = unW N c 0 := by
  obtain ⟨a, b, B, h, S, T, e0, e1, eB, eh, eS, eT, -, -, -, -, cc⟩ := tenN hV
  unfold unW
  rw [eS] at h1
  rw [eT, e0, eB, eh]
  rcases cc with ⟨rfl, rfl, rfl, rfl, rfl, rfl⟩ | ⟨rfl, rfl, rfl, rfl, rfl, rfl⟩ | ⟨rfl, rfl, rfl, rfl, rfl, rfl⟩ | ⟨rfl, rfl, rfl, rfl, rfl, rfl⟩ | ⟨rfl, rfl, rfl, rfl, rfl, rfl⟩ | ⟨rfl, rfl, rfl, rfl, rfl, rfl⟩ | ⟨rfl, rfl, rfl, rfl, rfl, rfl⟩ | ⟨rfl, rfl, rfl, rfl, rfl, rfl⟩ | ⟨rfl, rfl, rfl, rfl, rfl, rfl⟩ | ⟨rfl, rfl, rfl, rfl, rfl, rfl⟩ <;> simp <;> omega
theorem sta8 {N : Nat → Int} (hV : Vl N) {num : Nat → Int32} (hn : ∀ j, j < 10 → num j = I (N j)) : fX3_howManyPasts num = some (I (stN N)) := by
  obtain ⟨a, b, B, h, S, T, e0, e1, eB, eh, eS, eT, q1, q2, -, -, cc⟩ := tenN hV
  unfold fX3_howManyPasts
  rw [hn 0 (by omega), hn 1 (by omega), I_mul, L1, pw_shl _ _ q1 (by omega), Int.one_mul]
  rfl
theorem sta9 {N : Nat → Int} (hV : Vl N) {g : Nat → Int32} (hg : ∀ j, j < 10 → g j = I (N j)) : fX9_starts g = some (I (stN N)) := by
  obtain ⟨a, b, B, h, S, T, e0, e1, eB, eh, eS, eT, q1, q2, -, -, cc⟩ := tenN hV
  unfold fX9_starts
  rw [hg 0 (by omega), hg 1 (by omega), I_mul, L1, pw_shl _ _ q1 (by omega), Int.one_mul]
  rfl
theorem hfN8 {N : Nat → Int} (hV : Vl N) {num : Nat → Int32} (hn : ∀ j, j < 10 → num j = I (N j)) : fX3_half num = some (I (hf N)) := hf8 (hn 1 (by omega)) hV.2.1.1 hV.2.1.2
theorem hfN9 {N : Nat → Int} (hV : Vl N) {g : Nat → Int32} (hg : ∀ j, j < 10 → g j = I (N j)) : fX9_half g = some (I (hf N)) := hf9 (hg 1 (by omega)) hV.2.1.1 hV.2.1.2
theorem pkS8 {N W : Nat → Int} (hV : Vl N) {num words : Nat → Int32} (hn : ∀ j, j < 10 → num j = I (N j)) (hw : ∀ k, k < 3 → words k = I (W k)) (n k : Nat) (hk : (k : Int) < N 0) (c : Int) : fX3_packed_L4 num words (n + 1) (I c) (I k) = fX3_packed_L4 num words n (I (c * pw (N 1) + W k + hf N)) (I (k + 1 : Nat)) := by
  have h0 := hV.1
  have h1 := hV.2.1
  have i2 : ((k : Int)).toNat = k := by omega
  rw [fX3_packed_L4, hn 0 (by omega), hn 1 (by omega), hfN8 hV hn, pw_shl _ _ (by omega) (by omega)]
  simp (disch := omega) only [L0, L1, L3, I_add, I_sub, I_mul, I_neg, I_lt, I_le, I_eq, I_cl, i2, bnd1_some]
  rw [if_neg (by omega), if_neg (by omega), if_neg (by omega), hw k (by omega), I_add, I_add]
  rfl
theorem pkE8 {N : Nat → Int} (hV : Vl N) {num words : Nat → Int32} (hn : ∀ j, j < 10 → num j = I (N j)) (n k : Nat) (hk : (k : Int) = N 0) (c : Int32) : fX3_packed_L4 num words (n + 1) c (I k) = some c := by
  have h0 := hV.1
  rw [fX3_packed_L4, hn 0 (by omega), if_pos ((I_le (by omega) (by omega) (by omega) (by omega)).mpr (by omega))]
theorem pkd8 {N W : Nat → Int} (hV : Vl N) {num words : Nat → Int32} (hn : ∀ j, j < 10 → num j = I (N j)) (hw : ∀ k, k < 3 → words k = I (W k)) : fX3_packed num words = some (I (cd N W)) := by
  unfold fX3_packed
  have key : ∀ n, fX3_packed_L4 num words (n + 4) (I 0) (I (0 : Nat)) = some (I (cd N W)) := by
    intro n
    unfold cd
    rcases N012 hV with e | e | e
    · rw [pkS8 hV hn hw _ 0 (by omega), pkE8 hV hn _ _ (by omega), if_pos e]
      congr 2; omega
    · rw [pkS8 hV hn hw _ 0 (by omega), pkS8 hV hn hw _ 1 (by omega), pkE8 hV hn _ _ (by omega), if_neg (by omega), if_pos e]
      congr 2; simp only [Int.zero_mul, Int.zero_add]; omega
    · rw [pkS8 hV hn hw _ 0 (by omega), pkS8 hV hn hw _ 1 (by omega), pkS8 hV hn hw _ 2 (by omega), pkE8 hV hn _ _ (by omega), if_neg (by omega), if_neg (by omega)]
      congr 2; simp only [Int.zero_mul, Int.zero_add, Int.add_assoc]
  rw [L0]
  exact (congrArg (fun z => bnd1 z fun o2 => some o2) (key 99996)).trans (bnd1_some ..)
theorem pkS9 {N W : Nat → Int} (hV : Vl N) {g p : Nat → Int32} (hg : ∀ j, j < 10 → g j = I (N j)) (hp : ∀ k, k < 3 → p k = I (W k)) (n k : Nat) (hk : (k : Int) < N 0) (c : Int) : fX9_codeOfPast_L4 g p (n + 1) (I c) (I k) = fX9_codeOfPast_L4 g p n (I (c * pw (N 1) + W k + hf N)) (I (k + 1 : Nat)) := by
  have h0 := hV.1
  have h1 := hV.2.1
  have i2 : ((k : Int)).toNat = k := by omega
  rw [fX9_codeOfPast_L4, hg 0 (by omega), hg 1 (by omega), hfN9 hV hg, pw_shl _ _ (by omega) (by omega)]
  simp (disch := omega) only [L0, L1, L3, I_add, I_sub, I_mul, I_neg, I_lt, I_le, I_eq, I_cl, i2, bnd1_some]
  rw [if_neg (by omega), if_neg (by omega), hp k (by omega), I_add, I_add]
  rfl
theorem pkE9 {N : Nat → Int} (hV : Vl N) {g p : Nat → Int32} (hg : ∀ j, j < 10 → g j = I (N j)) (n k : Nat) (hk : (k : Int) = N 0) (c : Int32) : fX9_codeOfPast_L4 g p (n + 1) c (I k) = some c := by
  have h0 := hV.1
  rw [fX9_codeOfPast_L4, hg 0 (by omega), if_pos ((I_le (by omega) (by omega) (by omega) (by omega)).mpr (by omega))]
theorem pkd9 {N W : Nat → Int} (hV : Vl N) {g p : Nat → Int32} (hg : ∀ j, j < 10 → g j = I (N j)) (hp : ∀ k, k < 3 → p k = I (W k)) : fX9_codeOfPast g p = some (I (cd N W)) := by
  unfold fX9_codeOfPast
  have key : ∀ n, fX9_codeOfPast_L4 g p (n + 4) (I 0) (I (0 : Nat)) = some (I (cd N W)) := by
    intro n
    unfold cd
    rcases N012 hV with e | e | e
    · rw [pkS9 hV hg hp _ 0 (by omega), pkE9 hV hg _ _ (by omega), if_pos e]
      congr 2; omega
    · rw [pkS9 hV hg hp _ 0 (by omega), pkS9 hV hg hp _ 1 (by omega), pkE9 hV hg _ _ (by omega), if_neg (by omega), if_pos e]
      congr 2; simp only [Int.zero_mul, Int.zero_add]; omega
    · rw [pkS9 hV hg hp _ 0 (by omega), pkS9 hV hg hp _ 1 (by omega), pkS9 hV hg hp _ 2 (by omega), pkE9 hV hg _ _ (by omega), if_neg (by omega), if_neg (by omega)]
      congr 2; simp only [Int.zero_mul, Int.zero_add, Int.add_assoc]
  rw [L0]
  exact (congrArg (fun z => bnd1 z fun o2 => some o2) (key 99996)).trans (bnd1_some ..)
