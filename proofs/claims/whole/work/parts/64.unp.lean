theorem pwB {N : Nat → Int} (hV : Vl N) : 2 * hf N = pw (N 1) ∧ pw (N 1) = ((2 ^ (N 1).toNat : Nat) : Int) ∧ 4 ≤ pw (N 1) ∧ pw (N 1) ≤ 32 := by
  obtain ⟨a, b, B, h, S, T, e0, e1, eB, eh, eS, eT, -, -, -, -, cc⟩ := tenN hV
  refine ⟨by rw [eB, eh]; omega, rfl, by rw [eB]; omega, by rw [eB]; omega⟩
theorem andB {N : Nat → Int} (hV : Vl N) (z : Int) : I z &&& I (2 * hf N - 1) = I (z % pw (N 1)) := by
  obtain ⟨h1, h2, -, -⟩ := pwB hV
  have hb := hV.2.1
  rw [h1, h2]
  exact I_andm z _ (by omega)
theorem unS8 {N : Nat → Int} (hV : Vl N) {num : Nat → Int32} (hn : ∀ j, j < 10 → num j = I (N j)) (x : Int32) (n k : Nat) (hk : k < 3) (c : Int) (h0 : 0 ≤ c) (h1 : c < 2000) (w : Nat → Int32) : fX3_unpack_L15 x num (n + 1) (I c) (I k) w = fX3_unpack_L15 x num n (I (c / pw (N 1))) (I ((k : Int) - 1)) (upd w k (I (c % pw (N 1) - hf N))) := by
  have hb := hV.2.1
  have i2 : ((k : Int)).toNat = k := by omega
  rw [fX3_unpack_L15, hn 1 (by omega), hfN8 hV hn, bnd1_some, bnd1_some, L2, L1, L0, I_mul, I_sub, andB hV, pw_shr _ _ (by omega) (by omega) (by omega) (by omega)]
  simp (disch := omega) only [I_neg, I_sub, I_add, I_lt, I_cl, i2]
  rw [if_neg (by omega), if_neg (by omega)]
  rfl
theorem unE8 (x c : Int32) (num : Nat → Int32) (n : Nat) (w : Nat → Int32) : fX3_unpack_L15 x num (n + 1) c (I ((0 : Nat) - 1 : Int)) w = some w := by
  rw [fX3_unpack_L15, if_pos (by decide +kernel)]
theorem unp8 {N : Nat → Int} (hV : Vl N) {num : Nat → Int32} (hn : ∀ j, j < 10 → num j = I (N j)) (c : Int) (h0 : 0 ≤ c) (h1 : c < 2000) (w : Nat → Int32) : ∃ w', fX3_unpack (I c) num w = some w' ∧ ∀ k, k < 3 → w' k = if (k : Int) < N 0 then I (unW N c k) else w k := by
  have hN := hV.1
  obtain ⟨-, -, b1, b2⟩ := pwB hV
  have em : (if (3 : Int32) < num 0 then (3 : Int32) else num 0) - (1 : Int32) = I (N 0 - 1) := by
    rw [hn 0 (by omega), L3, L1, if_neg (by rw [I_lt (by omega) (by omega) (by omega) (by omega)]; omega), I_sub]
  have d1 : 0 ≤ c / pw (N 1) ∧ c / pw (N 1) < 2000 := by
    obtain ⟨a, b, B, h, S, T, e0, e1, eB, eh, eS, eT, -, -, -, -, cc⟩ := tenN hV
    rw [eB]
    rcases cc with ⟨rfl, rfl, rfl, rfl, rfl, rfl⟩ | ⟨rfl, rfl, rfl, rfl, rfl, rfl⟩ | ⟨rfl, rfl, rfl, rfl, rfl, rfl⟩ | ⟨rfl, rfl, rfl, rfl, rfl, rfl⟩ | ⟨rfl, rfl, rfl, rfl, rfl, rfl⟩ | ⟨rfl, rfl, rfl, rfl, rfl, rfl⟩ | ⟨rfl, rfl, rfl, rfl, rfl, rfl⟩ | ⟨rfl, rfl, rfl, rfl, rfl, rfl⟩ | ⟨rfl, rfl, rfl, rfl, rfl, rfl⟩ | ⟨rfl, rfl, rfl, rfl, rfl, rfl⟩ <;> omega
  have d2 : 0 ≤ c / pw (N 1) / pw (N 1) ∧ c / pw (N 1) / pw (N 1) < 2000 := by
    obtain ⟨a, b, B, h, S, T, e0, e1, eB, eh, eS, eT, -, -, -, -, cc⟩ := tenN hV
    rw [eB]
    rcases cc with ⟨rfl, rfl, rfl, rfl, rfl, rfl⟩ | ⟨rfl, rfl, rfl, rfl, rfl, rfl⟩ | ⟨rfl, rfl, rfl, rfl, rfl, rfl⟩ | ⟨rfl, rfl, rfl, rfl, rfl, rfl⟩ | ⟨rfl, rfl, rfl, rfl, rfl, rfl⟩ | ⟨rfl, rfl, rfl, rfl, rfl, rfl⟩ | ⟨rfl, rfl, rfl, rfl, rfl, rfl⟩ | ⟨rfl, rfl, rfl, rfl, rfl, rfl⟩ | ⟨rfl, rfl, rfl, rfl, rfl, rfl⟩ | ⟨rfl, rfl, rfl, rfl, rfl, rfl⟩ <;> omega
  unfold fX3_unpack
  rw [show FUEL = 99996 + 4 from rfl, em]
  rcases N012 hV with e | e | e
  · rw [e, show ((1 : Int) - 1) = ((0 : Nat) : Int) from rfl, unS8 hV hn _ _ _ (by omega) _ h0 h1, unE8, bnd1_some]
    refine ⟨_, rfl, fun k hk => ?_⟩
    have h : k = 0 ∨ k = 1 ∨ k = 2 := by omega
    unfold unW
    rcases h with rfl | rfl | rfl <;> simp [upd, e]
  · rw [e, show ((2 : Int) - 1) = ((1 : Nat) : Int) from rfl, unS8 hV hn _ _ _ (by omega) _ h0 h1, show ((1 : Nat) : Int) - 1 = ((0 : Nat) : Int) from rfl, unS8 hV hn _ _ _ (by omega) _ d1.1 d1.2, unE8, bnd1_some]
    refine ⟨_, rfl, fun k hk => ?_⟩
    have h : k = 0 ∨ k = 1 ∨ k = 2 := by omega
    unfold unW
    rcases h with rfl | rfl | rfl <;> simp [upd, e]
  · rw [e, show ((3 : Int) - 1) = ((2 : Nat) : Int) from rfl, unS8 hV hn _ _ _ (by omega) _ h0 h1, show ((2 : Nat) : Int) - 1 = ((1 : Nat) : Int) from rfl, unS8 hV hn _ _ _ (by omega) _ d1.1 d1.2, show ((1 : Nat) : Int) - 1 = ((0 : Nat) : Int) from rfl, unS8 hV hn _ _ _ (by omega) _ d2.1 d2.2, unE8, bnd1_some]
    refine ⟨_, rfl, fun k hk => ?_⟩
    have h : k = 0 ∨ k = 1 ∨ k = 2 := by omega
    unfold unW
    rcases h with rfl | rfl | rfl <;> simp [upd, e]
theorem tkS9 {N : Nat → Int} (hV : Vl N) {g : Nat → Int32} (hg : ∀ j, j < 10 → g j = I (N j)) (x : Int32) (n k : Nat) (hk : (k : Int) < N 0) (c : Int) (h0 : 0 ≤ c) (h1 : c < 2000) (p : Nat → Int32) : fX9_takes_L4 x g (n + 1) (I c) (I k) p = fX9_takes_L4 x g n (I (c / pw (N 1))) (I ((k : Int) - 1)) (upd (upd p k (I 0)) k (I (c % pw (N 1) - hf N))) := by
  have hb := hV.2.1
  have hN := hV.1
  have i2 : ((k : Int)).toNat = k := by omega
  rw [fX9_takes_L4, hg 0 (by omega), hg 1 (by omega), hfN9 hV hg, bnd1_some, bnd1_some, L2, L1, L0, I_mul, I_sub, andB hV, pw_shr _ _ (by omega) (by omega) (by omega) (by omega)]
  simp (disch := omega) only [I_neg, I_sub, I_add, I_lt, I_le, I_cl, i2]
  rw [if_neg (by omega), if_neg (by omega), if_neg (by omega), if_neg (by omega)]
  rfl
theorem tkZ9 {N : Nat → Int} (hV : Vl N) {g : Nat → Int32} (hg : ∀ j, j < 10 → g j = I (N j)) (x : Int32) (n k : Nat) (hk : N 0 ≤ (k : Int)) (hk3 : k < 3) (c : Int32) (p : Nat → Int32) : fX9_takes_L4 x g (n + 1) c (I k) p = fX9_takes_L4 x g n c (I ((k : Int) - 1)) (upd p k (I 0)) := by
  have hN := hV.1
  have i2 : ((k : Int)).toNat = k := by omega
  rw [fX9_takes_L4, hg 0 (by omega), L1, L0]
  simp (disch := omega) only [I_neg, I_sub, I_add, I_lt, I_le, I_cl, i2]
  rw [if_neg (by omega), if_neg (by omega), if_pos (by omega)]
  rfl
theorem tkE9 (x c : Int32) (g : Nat → Int32) (n : Nat) (w : Nat → Int32) : fX9_takes_L4 x g (n + 1) c (I ((0 : Nat) - 1 : Int)) w = some w := by
  rw [fX9_takes_L4, if_pos (by decide +kernel)]
theorem tak9 {N : Nat → Int} (hV : Vl N) {g : Nat → Int32} (hg : ∀ j, j < 10 → g j = I (N j)) (c : Int) (h0 : 0 ≤ c) (h1 : c < 2000) (p : Nat → Int32) : ∃ p', fX9_takes (I c) g p = some p' ∧ ∀ k, k < 3 → p' k = I (unW N c k) := by
  have hN := hV.1
  have d1 : 0 ≤ c / pw (N 1) ∧ c / pw (N 1) < 2000 := by
    obtain ⟨a, b, B, h, S, T, e0, e1, eB, eh, eS, eT, -, -, -, -, cc⟩ := tenN hV
    rw [eB]
    rcases cc with ⟨rfl, rfl, rfl, rfl, rfl, rfl⟩ | ⟨rfl, rfl, rfl, rfl, rfl, rfl⟩ | ⟨rfl, rfl, rfl, rfl, rfl, rfl⟩ | ⟨rfl, rfl, rfl, rfl, rfl, rfl⟩ | ⟨rfl, rfl, rfl, rfl, rfl, rfl⟩ | ⟨rfl, rfl, rfl, rfl, rfl, rfl⟩ | ⟨rfl, rfl, rfl, rfl, rfl, rfl⟩ | ⟨rfl, rfl, rfl, rfl, rfl, rfl⟩ | ⟨rfl, rfl, rfl, rfl, rfl, rfl⟩ | ⟨rfl, rfl, rfl, rfl, rfl, rfl⟩ <;> omega
  have d2 : 0 ≤ c / pw (N 1) / pw (N 1) ∧ c / pw (N 1) / pw (N 1) < 2000 := by
    obtain ⟨a, b, B, h, S, T, e0, e1, eB, eh, eS, eT, -, -, -, -, cc⟩ := tenN hV
    rw [eB]
    rcases cc with ⟨rfl, rfl, rfl, rfl, rfl, rfl⟩ | ⟨rfl, rfl, rfl, rfl, rfl, rfl⟩ | ⟨rfl, rfl, rfl, rfl, rfl, rfl⟩ | ⟨rfl, rfl, rfl, rfl, rfl, rfl⟩ | ⟨rfl, rfl, rfl, rfl, rfl, rfl⟩ | ⟨rfl, rfl, rfl, rfl, rfl, rfl⟩ | ⟨rfl, rfl, rfl, rfl, rfl, rfl⟩ | ⟨rfl, rfl, rfl, rfl, rfl, rfl⟩ | ⟨rfl, rfl, rfl, rfl, rfl, rfl⟩ | ⟨rfl, rfl, rfl, rfl, rfl, rfl⟩ <;> omega
  unfold fX9_takes
  rw [show FUEL = 99996 + 4 from rfl, L2, show I (2 : Int) = I ((2 : Nat) : Int) from rfl]
  rcases N012 hV with e | e | e
  · rw [tkZ9 hV hg _ _ _ (by omega) (by omega), show ((2 : Nat) : Int) - 1 = ((1 : Nat) : Int) from rfl, tkZ9 hV hg _ _ _ (by omega) (by omega), show ((1 : Nat) : Int) - 1 = ((0 : Nat) : Int) from rfl, tkS9 hV hg _ _ _ (by omega) _ h0 h1, tkE9, bnd1_some]
    refine ⟨_, rfl, fun k hk => ?_⟩
    have h : k = 0 ∨ k = 1 ∨ k = 2 := by omega
    unfold unW
    rcases h with rfl | rfl | rfl <;> simp [upd, e]
  · rw [tkZ9 hV hg _ _ _ (by omega) (by omega), show ((2 : Nat) : Int) - 1 = ((1 : Nat) : Int) from rfl, tkS9 hV hg _ _ _ (by omega) _ h0 h1, show ((1 : Nat) : Int) - 1 = ((0 : Nat) : Int) from rfl, tkS9 hV hg _ _ _ (by omega) _ d1.1 d1.2, tkE9, bnd1_some]
    refine ⟨_, rfl, fun k hk => ?_⟩
    have h : k = 0 ∨ k = 1 ∨ k = 2 := by omega
    unfold unW
    rcases h with rfl | rfl | rfl <;> simp [upd, e]
  · rw [tkS9 hV hg _ _ _ (by omega) _ h0 h1, show ((2 : Nat) : Int) - 1 = ((1 : Nat) : Int) from rfl, tkS9 hV hg _ _ _ (by omega) _ d1.1 d1.2, show ((1 : Nat) : Int) - 1 = ((0 : Nat) : Int) from rfl, tkS9 hV hg _ _ _ (by omega) _ d2.1 d2.2, tkE9, bnd1_some]
    refine ⟨_, rfl, fun k hk => ?_⟩
    have h : k = 0 ∨ k = 1 ∨ k = 2 := by omega
    unfold unW
    rcases h with rfl | rfl | rfl <;> simp [upd, e]
/-- what a step is of words 1 .. order alone -/
theorem agrA {N W V : Nat → Int} (hV : Vl N) (h : ∀ k : Nat, (k : Int) < N 0 → W k = V k) : gA N W = gA N V ∧ gR N W = gR N V := by
  have hN := hV.1
  have a0 := h 0 (by omega)
  have a1 : 2 ≤ N 0 → W 1 = V 1 := fun q => h 1 (by omega)
  have a2 : 3 ≤ N 0 → W 2 = V 2 := fun q => h 2 (by omega)
  unfold gA gR
  rcases N012 hV with e | e | e
  · simp [e, a0]
  · simp [e, a0, a1 (by omega)]
  · simp [e, a0, a1 (by omega), a2 (by omega)]
theorem agrS {N W V : Nat → Int} (hV : Vl N) (h : ∀ k : Nat, (k : Int) < N 0 → W k = V k) (x : Int) : aS N W x = aS N V x ∧ vS N W x = vS N V x ∧ lS N W x = lS N V x ∧ oS N W x = oS N V x ∧ sS N W x = sS N V x := by
  have hN := hV.1
  obtain ⟨e1, e2⟩ := agrA hV h
  have ea : aS N W x = aS N V x := by unfold aS; rw [e1]
  have ev : vS N W x = vS N V x := by unfold vS; rw [e2, ea]
  refine ⟨ea, ev, by unfold lS; rw [ea, ev], by unfold oS; rw [ev], by unfold sS; rw [ev, h 0 (by omega)]⟩
/-- the code behind a step from the start of a code; -1: it halts -/
def nx (N : Nat → Int) (x c : Int) : Int := if sS N (unW N c) x = -1005 then -1 else (sS N (unW N c) x + hf N) * pw (N 1 * (N 0 - 1)) + c / pw (N 1)
theorem nx_b {N : Nat → Int} (hV : Vl N) (x : Int) {c : Int} (h0 : 0 ≤ c) (h1 : c < stN N) : nx N x c = -1 ∨ (0 ≤ nx N x c ∧ nx N x c < stN N) := by
  unfold nx
  by_cases e : sS N (unW N c) x = -1005
  · rw [if_pos e]; exact Or.inl rfl
  · rw [if_neg e, ← cdB hV h0 h1]
    have hh := hf_b hV
    have hw := sS_w hV (unW_w hV c) x
    exact Or.inr (cd_b hV (psh_w (unW_w hV c) (by omega)))
theorem cbh8 {N : Nat → Int} (hV : Vl N) {num : Nat → Int32} (hn : ∀ j, j < 10 → num j = I (N j)) (c s : Int) (h0 : 0 ≤ c) (h1 : c < 2000) : fX3_codeBehind (I c) (I s) num = some (I ((s + hf N) * pw (N 1 * (N 0 - 1)) + c / pw (N 1))) := by
  obtain ⟨a, b, B, h, S, T, e0, e1, eB, eh, eS, eT, -, -, q1, q2, cc⟩ := tenN hV
  have hb := hV.2.1
  unfold fX3_codeBehind
  rw [hfN8 hV hn, bnd1_some, hn 0 (by omega), hn 1 (by omega), L1, I_sub, I_mul, I_add, pw_shl _ _ q1 (by omega), pw_shr _ _ (by omega) (by omega) (by omega) (by omega), I_add]
theorem ltn8 {N : Nat → Int} (hV : Vl N) {num : Nat → Int32} (hn : ∀ j, j < 10 → num j = I (N j)) (c : Int) (h0 : 0 ≤ c) (h1 : c < stN N) : fX3_latestIn (I c) num = some (I (unW N c 0)) := by
  have hs := st_b hV
  obtain ⟨a, b, B, h, S, T, e0, e1, eB, eh, eS, eT, -, -, q1, q2, cc⟩ := tenN hV
  unfold fX3_latestIn
  rw [hfN8 hV hn, bnd1_some, hn 0 (by omega), hn 1 (by omega), L1, I_sub, I_mul, pw_shr _ _ q1 (by omega) (by omega) (by omega), I_sub, lat_e hV h0 h1]
theorem bhd9 {N : Nat → Int} (hV : Vl N) {g : Nat → Int32} (hg : ∀ j, j < 10 → g j = I (N j)) {c x : Int} (h0 : 0 ≤ c) (h1 : c < stN N) (x1 : -99 ≤ x) (x2 : x ≤ 99) (a v l o : Int32) (p : Nat → Int32) : ∃ p' a', fX9_behind (I c) (I x) a v l o g p = some (I (nx N x c), a', I (vS N (unW N c) x), I (lS N (unW N c) x), bo (oS N (unW N c) x), p') := by
  have hs := st_b hV
  unfold fX9_behind
  obtain ⟨p1, e1, hp1⟩ := tak9 hV hg c h0 (by omega) p
  have hW := unW_w hV c
  obtain ⟨p2, e2, hH, hG⟩ := stp9 hV hW hg hp1 x1 x2 a v l o
  have hw := sS_w hV hW x
  have hh := hf_b hV
  rw [e1, bnd1_some, e2, bnd6_some, L1005, I_neg, L1, I_neg]
  by_cases e : sS N (unW N c) x = -1005
  · rw [if_pos (by rw [e])]
    unfold nx
    rw [if_pos e]
    exact ⟨_, _, rfl⟩
  · rw [if_neg (fun q => e (by rw [I_eq (by omega) (by omega) (by omega) (by omega)] at q; exact q)), pkd9 hV hg (hG e), bnd1_some, cdB hV h0 h1]
    unfold nx
    rw [if_neg e]
    exact ⟨_, _, rfl⟩
