theorem bo0 (b : Bool) : ¬ (¬ (bo b = I 0 ∨ bo b = I 1)) := by
  intro h
  apply h
  unfold bo
  cases b
  · exact Or.inl rfl
  · exact Or.inr rfl
theorem wgh8 {N W : Nat → Int} (hV : Vl N) (hW : Wd N W) {num words : Nat → Int32} (hn : ∀ j, j < 10 → num j = I (N j)) (hw : ∀ k, k < 3 → words k = I (W k)) {x : Int} (h1 : -99 ≤ x) (h2 : x ≤ 99) (a v l r o : Int32) : fX3_weighGathered (I x) a v l r o (I (gA N W)) (I (gR N W)) num words = some (I (aS N W x), I (vS N W x), I (lS N W x), I (sS N W x), bo (oS N W x)) := by
  have p := prodi hV h1 h2
  have ab := aS_b hV hW h1 h2
  have vb := vS_b hV hW h1 h2
  have r0 := rr8 hV hn (x := N 5 * x) (by omega) (by omega)
  have r1 := rr8 hV hn (x := gA N W + N 5 * x) (by unfold aS at ab; omega) (by unfold aS at ab; omega)
  have n5 := hn 5 (by omega)
  have n6 := hn 6 (by omega)
  have n8 := hn 8 (by omega)
  have n9 := hn 9 (by omega)
  have h9 := n9c hV
  have h6 := hV.2.2.2.2.2.2.2.1
  have hb := hV.2.1
  have ho := hV.2.2.2.2.2.2.2.2.2.1
  have key : ∀ l r o, fX3_weighGathered_j85 (I x) (I (gA N W)) (I (gR N W)) num words (I (aS N W x)) (I (vS N W x)) l r o = some (I (aS N W x), I (vS N W x), I (lS N W x), I (sS N W x), bo (oS N W x)) := by
    intro l r o
    unfold fX3_weighGathered_j85 fX3_weighGathered_j120 fX3_unit
    rw [hl8 (hn 1 (by omega)) hb.1 hb.2 (by omega) (by omega), n6, n8, wd8 (hn 1 (by omega)) hb.1 hb.2 (hw 0 (by omega)) ho.1 ho.2 (by omega) (by omega), L1, pw_shl _ _ h6.1 (by omega), Int.one_mul, bnd1_some, bnd1_some]
    unfold oS bo lS sS hf
    by_cases c : vS N W x < -pw (N 1 - 1) ∨ pw (N 1 - 1) ≤ vS N W x
    · simp only [c, if_true, L0, not_true, if_false, bnd1_some, I_mul, I_sub, or_true, decide_true]
    · simp only [c, if_false, L0, not_true, bnd1_some, I_mul, I_sub, true_or, decide_false]
      rw [if_neg (by decide +kernel)]
      rfl
  unfold fX3_weighGathered
  rw [n9, L1, n5, I_mul, I_add, r0, r1, bnd1_some, bnd1_some, I_add]
  have e1 : I (gA N W + N 5 * x) = I (aS N W x) := rfl
  rcases h9 with e | e
  · rw [if_neg (fun q => by rw [I_eq (by omega) (by omega) (by omega) (by omega)] at q; omega), e1]
    have e2 : rr N (gA N W + N 5 * x) = vS N W x := by
      unfold vS
      rw [if_neg (by omega)]
      rfl
    rw [e2]
    exact key ..
  · rw [if_pos (by rw [e]), e1]
    have e2 : gR N W + rr N (N 5 * x) = vS N W x := by
      unfold vS
      rw [if_pos e]
    rw [e2]
    exact key ..
theorem wei8 {N W : Nat → Int} (hV : Vl N) (hW : Wd N W) {num words : Nat → Int32} (hn : ∀ j, j < 10 → num j = I (N j)) (hw : ∀ k, k < 3 → words k = I (W k)) {x : Int} (h1 : -99 ≤ x) (h2 : x ≤ 99) (a v l r o ha hr : Int32) : fX3_weigh (I x) a v l r o ha hr num words = some (I (aS N W x), I (vS N W x), I (lS N W x), I (sS N W x), bo (oS N W x), I (gA N W), I (gR N W)) := by
  unfold fX3_weigh
  rw [gath8 hV hW hn hw, bnd2_some, wgh8 hV hW hn hw h1 h2, bnd5_some]
/-- the past behind a step -/
def psh (N W : Nat → Int) (r : Int) : Nat → Int := fun k => if k = 0 then r else if (k : Int) < N 0 then W (k - 1) else W k
theorem psh_w {N W : Nat → Int} (hW : Wd N W) {r : Int} (hr : -hf N ≤ r ∧ r < hf N) : Wd N (psh N W r) := by
  intro k hk
  unfold psh
  by_cases c : k = 0
  · rw [if_pos c]; exact hr
  · rw [if_neg c]
    by_cases c2 : (k : Int) < N 0
    · rw [if_pos c2]; exact hW _ (by omega)
    · rw [if_neg c2]; exact hW _ hk
theorem upd_s (f : Nat → Int32) (i : Nat) (v : Int32) : upd f i v i = v := if_pos rfl
theorem upd_o (f : Nat → Int32) {i j : Nat} (v : Int32) (h : j ≠ i) : upd f i v j = f j := if_neg h
theorem psS8 (r : Int32) (num : Nat → Int32) (n k : Nat) (hk : k < 2) (w : Nat → Int32) : fX3_push_L13 r num (n + 1) (I (k + 1 : Nat)) w = fX3_push_L13 r num n (I k) (upd w (k + 1) (w k)) := by
  have i1 : (((k + 1 : Nat) : Int) - 1).toNat = k := by omega
  have i2 : (((k + 1 : Nat) : Int)).toNat = k + 1 := by omega
  have i3 : ((k + 1 : Nat) : Int) + -1 = k := by omega
  rw [fX3_push_L13]
  simp (disch := omega) only [L0, L1, I_add, I_sub, I_mul, I_neg, I_lt, I_le, I_eq, I_cl, i1, i2, i3]
  rw [if_neg (by omega), if_neg (by omega), if_neg (by omega)]
theorem psE8 (r : Int32) (num : Nat → Int32) (n : Nat) (w : Nat → Int32) : fX3_push_L13 r num (n + 1) (I (0 : Nat)) w = some w := by
  rw [fX3_push_L13, if_pos (by decide +kernel)]
theorem psh8 {N W : Nat → Int} (hV : Vl N) {num words : Nat → Int32} (hn : ∀ j, j < 10 → num j = I (N j)) (hw : ∀ k, k < 3 → words k = I (W k)) (r : Int) : ∃ w', fX3_push (I r) num words = some w' ∧ ∀ k, k < 3 → w' k = I (psh N W r k) := by
  have h0 := hV.1
  have n0 := hn 0 (by omega)
  unfold fX3_push
  rw [show FUEL = 99997 + 3 from rfl]
  have em : (if (3 : Int32) < num 0 then (3 : Int32) else num 0) - (1 : Int32) = I (N 0 - 1) := by
    rw [n0, L3, L1, if_neg (by rw [I_lt (by omega) (by omega) (by omega) (by omega)]; omega), I_sub]
  rw [em]
  have w0 := hw 0 (by omega)
  have w1 := hw 1 (by omega)
  have w2 := hw 2 (by omega)
  rcases N012 hV with e | e | e
  · rw [e, show ((1 : Int) - 1) = ((0 : Nat) : Int) from rfl, psE8, bnd1_some]
    refine ⟨_, rfl, fun k hk => ?_⟩
    have h : k = 0 ∨ k = 1 ∨ k = 2 := by omega
    unfold psh
    rcases h with rfl | rfl | rfl <;> simp [upd, e, w0, w1, w2]
  · rw [e, show ((2 : Int) - 1) = ((0 + 1 : Nat) : Int) from rfl, psS8 _ _ _ _ (by omega), psE8, bnd1_some]
    refine ⟨_, rfl, fun k hk => ?_⟩
    have h : k = 0 ∨ k = 1 ∨ k = 2 := by omega
    unfold psh
    rcases h with rfl | rfl | rfl <;> simp [upd, e, w0, w1, w2]
  · rw [e, show ((3 : Int) - 1) = ((1 + 1 : Nat) : Int) from rfl, psS8 _ _ _ _ (by omega), psS8 _ _ _ 0 (by omega), psE8, bnd1_some]
    refine ⟨_, rfl, fun k hk => ?_⟩
    have h : k = 0 ∨ k = 1 ∨ k = 2 := by omega
    unfold psh
    rcases h with rfl | rfl | rfl <;> simp [upd, e, w0, w1, w2]
