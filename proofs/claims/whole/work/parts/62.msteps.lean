/-! the reference's STEP -/
theorem prd0 (g p : Nat → Int32) {N : Nat → Int} (hg : ∀ j, j < 10 → g j = I (N j)) (x : Int) : fX9_product (I (0 : Nat)) (I x) g p = some (I (N 5 * x)) := by
  unfold fX9_product
  rw [L0, if_pos (show I ((0 : Nat) : Int) = I 0 from rfl), hg 5 (by omega), I_mul]
theorem prd1 (g p : Nat → Int32) {N W : Nat → Int} (hg : ∀ j, j < 10 → g j = I (N j)) (hp : ∀ k, k < 3 → p k = I (W k)) (x : Int) (k : Nat) (hk : k < 3) : fX9_product (I (k + 1 : Nat)) (I x) g p = some (I (pr N W k)) := by
  unfold fX9_product
  have i1 : ((2 : Int) + ((k + 1 : Nat) : Int) - 1).toNat = 2 + k := by omega
  have i2 : (((k + 1 : Nat) : Int) - 1).toNat = k := by omega
  simp (disch := omega) only [L0, L1, L2, I_add, I_sub, I_mul, I_neg, I_lt, I_le, I_eq, I_cl, i1, i2]
  rw [if_neg (by omega), if_neg (by omega), if_neg (by omega), hg (2 + k) (by omega), hp k hk, I_mul]
  rfl
theorem mst {N : Nat → Int} (hV : Vl N) {g p : Nat → Int32} (hg : ∀ j, j < 10 → g j = I (N j)) (x z : Int) (k n : Nat) (hk : (k : Int) ≤ N 0) (hz : -1000000 ≤ z ∧ z ≤ 1000000) (hp : fX9_product (I k) (I x) g p = some (I z)) (a b : Int) (v l o : Int32) : fX9_steps_L9 (I x) g (n + 1) (I b) (I k) (I a) v l o p = fX9_steps_L9 (I x) g n (I (b + (if N 9 = 1 then rr N z else 0))) (I (k + 1 : Nat)) (I (a + z)) v l o p := by
  have h0 := hV.1
  have h9 := n9c hV
  have n0 := hg 0 (by omega)
  have n9 := hg 9 (by omega)
  have r0 := rr9 hV hg (x := z) (by omega) (by omega)
  rw [fX9_steps_L9, hp, bnd1_some]
  simp (disch := omega) only [n0, n9, L0, L1, I_add, I_sub, I_mul, I_neg, I_lt, I_le, I_eq, I_cl, r0, bnd1_some]
  rw [if_neg (by omega)]
  rcases h9 with e | e
  · rw [if_neg (by omega), if_neg (by omega)]; rfl
  · rw [if_pos (by omega), if_pos (by omega)]; rfl
theorem men {N : Nat → Int} (hV : Vl N) {g p : Nat → Int32} (hg : ∀ j, j < 10 → g j = I (N j)) (x : Int32) (k n : Nat) (hk : (k : Int) = N 0 + 1) (a b : Int32) (v l o : Int32) : fX9_steps_L9 x g (n + 1) b (I k) a v l o p = some (b, a) := by
  have h0 := hV.1
  have n0 := hg 0 (by omega)
  rw [fX9_steps_L9, n0, if_pos ((I_lt (by omega) (by omega) (by omega) (by omega)).mpr (by omega))]
theorem mgath {N W : Nat → Int} (hV : Vl N) (hW : Wd N W) {g p : Nat → Int32} (hg : ∀ j, j < 10 → g j = I (N j)) (hp : ∀ k, k < 3 → p k = I (W k)) {x : Int} (h1 : -99 ≤ x) (h2 : x ≤ 99) (v l o : Int32) : fX9_steps_L9 (I x) g FUEL (I 0) (I (0 : Nat)) (I 0) v l o p = some (I ((if N 9 = 1 then rr N (N 5 * x) else 0) + gR N W), I (aS N W x)) := by
  have q := prodi hV h1 h2
  have key : ∀ n, fX9_steps_L9 (I x) g (n + 5) (I 0) (I (0 : Nat)) (I 0) v l o p = some (I ((if N 9 = 1 then rr N (N 5 * x) else 0) + gR N W), I (aS N W x)) := by
    intro n
    have p0 := pr_b hV hW (k := 0) (by omega)
    have p1 := pr_b hV hW (k := 1) (by omega)
    have p2 := pr_b hV hW (k := 2) (by omega)
    rw [mst hV hg x (N 5 * x) 0 _ (by have := hV.1; omega) (by omega) (prd0 g p hg x), mst hV hg x (pr N W 0) 1 _ (by have := hV.1; omega) (by omega) (prd1 g p hg hp x 0 (by omega))]
    unfold aS gA gR
    rcases N012 hV with e | e | e
    · rw [men hV hg _ _ _ (by omega)]
      simp only [e, pr]
      rcases n9c hV with e9 | e9 <;> simp [e9] <;> (try constructor) <;> congr 1 <;> omega
    · rw [mst hV hg x (pr N W 1) 2 _ (by omega) (by omega) (prd1 g p hg hp x 1 (by omega)), men hV hg _ _ _ (by omega)]
      simp only [e, pr]
      rcases n9c hV with e9 | e9 <;> simp [e9] <;> (try constructor) <;> congr 1 <;> omega
    · rw [mst hV hg x (pr N W 1) 2 _ (by omega) (by omega) (prd1 g p hg hp x 1 (by omega)), mst hV hg x (pr N W 2) 3 _ (by omega) (by omega) (prd1 g p hg hp x 2 (by omega)), men hV hg _ _ _ (by omega)]
      simp only [e, pr]
      rcases n9c hV with e9 | e9 <;> simp [e9] <;> (try constructor) <;> congr 1 <;> omega
  exact key 99995
theorem psS9 (x z r a v l o : Int32) (g : Nat → Int32) (n k : Nat) (hk : k < 2) (w : Nat → Int32) : fX9_steps_L216 x g (n + 1) r (I (k + 1 : Nat)) a v l o w = fX9_steps_L216 x g n r (I k) a v l o (upd w (k + 1) (w k)) := by
  have i1 : (((k + 1 : Nat) : Int) - 1).toNat = k := by omega
  have i2 : (((k + 1 : Nat) : Int)).toNat = k + 1 := by omega
  have i3 : ((k + 1 : Nat) : Int) + -1 = k := by omega
  rw [fX9_steps_L216]
  simp (disch := omega) only [L0, L1, I_add, I_sub, I_mul, I_neg, I_lt, I_le, I_eq, I_cl, i1, i2, i3]
  rw [if_neg (by omega), if_neg (by omega), if_neg (by omega)]
theorem psE9 (x r a v l o : Int32) (g : Nat → Int32) (n : Nat) (w : Nat → Int32) : fX9_steps_L216 x g (n + 1) r (I (0 : Nat)) a v l o w = some w := by
  rw [fX9_steps_L216, if_pos (by decide +kernel)]
theorem psh9 {N W : Nat → Int} (hV : Vl N) {g p : Nat → Int32} (hg : ∀ j, j < 10 → g j = I (N j)) (hp : ∀ k, k < 3 → p k = I (W k)) (r : Int) (x a v l o : Int32) : ∃ p', fX9_steps_L216 x g FUEL (I r) (g 0 - 1) a v l o p = some p' ∧ ∀ k, k < 3 → (upd p' 0 (I r)) k = I (psh N W r k) := by
  have h0 := hV.1
  have n0 := hg 0 (by omega)
  rw [show FUEL = 99997 + 3 from rfl, n0, L1, I_sub]
  have w0 := hp 0 (by omega)
  have w1 := hp 1 (by omega)
  have w2 := hp 2 (by omega)
  rcases N012 hV with e | e | e
  · rw [e, show ((1 : Int) - 1) = ((0 : Nat) : Int) from rfl, psE9]
    refine ⟨_, rfl, fun k hk => ?_⟩
    have h : k = 0 ∨ k = 1 ∨ k = 2 := by omega
    unfold psh
    rcases h with rfl | rfl | rfl <;> simp [upd, e, w0, w1, w2]
  · rw [e, show ((2 : Int) - 1) = ((0 + 1 : Nat) : Int) from rfl, psS9 _ 0 _ _ _ _ _ _ _ _ (by omega), psE9]
    refine ⟨_, rfl, fun k hk => ?_⟩
    have h : k = 0 ∨ k = 1 ∨ k = 2 := by omega
    unfold psh
    rcases h with rfl | rfl | rfl <;> simp [upd, e, w0, w1, w2]
  · rw [e, show ((3 : Int) - 1) = ((1 + 1 : Nat) : Int) from rfl, psS9 _ 0 _ _ _ _ _ _ _ _ (by omega), psS9 _ 0 _ _ _ _ _ _ _ 0 (by omega), psE9]
    refine ⟨_, rfl, fun k hk => ?_⟩
    have h : k = 0 ∨ k = 1 ∨ k = 2 := by omega
    unfold psh
    rcases h with rfl | rfl | rfl <;> simp [upd, e, w0, w1, w2]
theorem stp9 {N W : Nat → Int} (hV : Vl N) (hW : Wd N W) {g p : Nat → Int32} (hg : ∀ j, j < 10 → g j = I (N j)) (hp : ∀ k, k < 3 → p k = I (W k)) {x : Int} (h1 : -99 ≤ x) (h2 : x ≤ 99) (a v l o : Int32) : ∃ p', fX9_steps (I x) a v l o g p = some (I (sS N W x), I (aS N W x), I (vS N W x), I (lS N W x), bo (oS N W x), p') ∧ (sS N W x = -1005 → p' = p) ∧ (sS N W x ≠ -1005 → ∀ k, k < 3 → p' k = I (psh N W (sS N W x) k)) := by
  have ab := aS_b hV hW h1 h2
  have vb := vS_b hV hW h1 h2
  have n6 := hg 6 (by omega)
  have n8 := hg 8 (by omega)
  have n9 := hg 9 (by omega)
  have h9 := n9c hV
  have h6 := hV.2.2.2.2.2.2.2.1
  have hb := hV.2.1
  have ho := hV.2.2.2.2.2.2.2.2.2.1
  have hh := hf_b hV
  have key : ∃ p', fX9_steps_j118 (I x) g (I (vS N W x)) (I (aS N W x)) v l o p = some (I (sS N W x), I (aS N W x), I (vS N W x), I (lS N W x), bo (oS N W x), p') ∧ (sS N W x = -1005 → p' = p) ∧ (sS N W x ≠ -1005 → ∀ k, k < 3 → p' k = I (psh N W (sS N W x) k)) := by
    have kl : ∀ s : Int, s = sS N W x → ∃ p', fX9_steps_j198 (I x) g (I s) (I (aS N W x)) (I (vS N W x)) (I (lS N W x)) (bo (oS N W x)) p = some (I (sS N W x), I (aS N W x), I (vS N W x), I (lS N W x), bo (oS N W x), p') ∧ (sS N W x = -1005 → p' = p) ∧ (sS N W x ≠ -1005 → ∀ k, k < 3 → p' k = I (psh N W (sS N W x) k)) := by
      intro s hs
      subst hs
      have hw := sS_w hV hW x
      unfold fX9_steps_j198
      rw [L1005, I_neg]
      by_cases c : sS N W x = -1005
      · rw [if_pos (by rw [c])]
        exact ⟨p, rfl, fun _ => rfl, fun q => absurd c q⟩
      · rw [if_neg (fun q => c (by rw [I_eq (by omega) (by omega) (by omega) (by omega)] at q; exact q))]
        obtain ⟨p', e, hk⟩ := psh9 hV hg hp (sS N W x) (I x) (I (aS N W x)) (I (vS N W x)) (I (lS N W x)) (bo (oS N W x))
        rw [e, bnd1_some]
        exact ⟨_, rfl, fun q => absurd q c, fun _ => hk⟩
    unfold fX9_steps_j118 fX9_steps_j160
    rw [hl9 (hg 1 (by omega)) hb.1 hb.2 (by omega) (by omega), n6, n8, pw_shl _ _ h6.1 (by omega), I_sub, bnd1_some, L0, L1, hp 0 (by omega), wd9 (hg 1 (by omega)) hb.1 hb.2 ho.1 ho.2 (by omega) (by omega)]
    have el : I (vS N W x * pw (N 6) - aS N W x) = I (lS N W x) := rfl
    rw [el]
    by_cases c : vS N W x < -pw (N 1 - 1) ∨ pw (N 1 - 1) ≤ vS N W x
    · have eo : bo (oS N W x) = I 1 := by
        unfold bo oS hf
        simp [c]
      have es : oI (N 8) (pw (N 1 - 1)) (W 0) (vS N W x) = sS N W x := by
        unfold sS bI9 hf
        rw [if_pos c]
      rw [if_pos c, if_pos rfl, if_neg (by decide +kernel), if_neg (by decide +kernel), bnd1_some, ← eo]
      exact kl _ es
    · have eo : bo (oS N W x) = I 0 := by
        unfold bo oS hf
        simp [c]
      have es : vS N W x = sS N W x := by
        unfold sS bI9 hf
        rw [if_neg c]
      rw [if_neg c, if_neg (by decide +kernel), if_neg (by decide +kernel), if_pos rfl, ← eo]
      exact kl _ es
  unfold fX9_steps
  have e0 : (0 : Int32) = I (0 : Nat) := L0
  have mg := mgath hV hW hg hp h1 h2 v l o
  rw [L0] 
  rw [show (I 0) = I ((0 : Nat) : Int) from rfl] at mg ⊢
  rw [mg, bnd2_some, n9, L1]
  rcases h9 with e | e
  · have e2 : rr N (aS N W x) = vS N W x := by
      unfold vS
      rw [if_neg (by omega)]
    rw [if_neg (fun q => by rw [I_eq (by omega) (by omega) (by omega) (by omega)] at q; omega), rr9 hV hg (by omega) (by omega), bnd1_some, e2]
    exact key
  · have e2 : (if N 9 = 1 then rr N (N 5 * x) else 0) + gR N W = vS N W x := by
      unfold vS
      rw [if_pos e, if_pos e]
      omega
    rw [if_pos (by rw [e]), e2]
    exact key
