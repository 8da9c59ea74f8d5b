theorem n9c {N : Nat → Int} (hV : Vl N) : N 9 = 0 ∨ N 9 = 1 := by
  have := hV.2.2.2.2.2.2.2.2.2.2
  omega
/-- one product, and what is gathered of it -/
def pr (N W : Nat → Int) (k : Nat) : Int := N (2 + k) * W k
def pq (N W : Nat → Int) (k : Nat) : Int := if N 9 = 1 then rr N (pr N W k) else 0
theorem pr_b {N W : Nat → Int} (hV : Vl N) (hW : Wd N W) {k : Nat} (hk : k < 3) : -1584 ≤ pr N W k ∧ pr N W k ≤ 1584 := by
  obtain ⟨p0, p1, p2⟩ := prods hV hW
  have h : k = 0 ∨ k = 1 ∨ k = 2 := by omega
  unfold pr
  rcases h with rfl | rfl | rfl <;> assumption
theorem gst8 {N W : Nat → Int} (hV : Vl N) (hW : Wd N W) {num words : Nat → Int32} (hn : ∀ j, j < 10 → num j = I (N j)) (hw : ∀ k, k < 3 → words k = I (W k)) (n k : Nat) (hk : (k : Int) < N 0) (a b : Int) : fX3_gather_L12 num words (n + 1) (I k) (I a) (I b) = fX3_gather_L12 num words n (I (k + 1 : Nat)) (I (a + pr N W k)) (I (b + pq N W k)) := by
  have h0 := hV.1
  have hk3 : k < 3 := by omega
  have h9 := n9c hV
  have r := pr_b hV hW hk3
  have r0 := rr8 hV hn (x := pr N W k) (by omega) (by omega)
  have n0 := hn 0 (by omega)
  have n9 := hn 9 (by omega)
  have nk : num (2 + k) = I (N (2 + k)) := hn (2 + k) (by omega)
  have wk := hw k hk3
  have i1 : ((2 : Int) + (k : Int)).toNat = 2 + k := by omega
  have i2 : ((k : Int)).toNat = k := by omega
  have pe : I (N (2 + k) * W k) = I (pr N W k) := rfl
  rw [fX3_gather_L12]
  simp (disch := omega) only [n0, n9, L0, L1, L2, L3, I_add, I_sub, I_mul, I_neg, I_lt, I_le, I_eq, I_cl, i1, i2, nk, wk, pe, r0, bnd1_some]
  rw [if_neg (by omega), if_neg (by omega), if_neg (by omega), if_neg (by omega)]
  unfold pq
  rcases n9c hV with e | e
  · rw [if_neg (by omega), if_neg (by omega), Int.add_zero]; rfl
  · rw [if_pos (by omega), if_pos (by omega)]; rfl
theorem gen8 {N : Nat → Int} (hV : Vl N) {num words : Nat → Int32} (hn : ∀ j, j < 10 → num j = I (N j)) (n k : Nat) (hk : (k : Int) = N 0) (a b : Int32) : fX3_gather_L12 num words (n + 1) (I k) a b = some (a, b) := by
  have h0 := hV.1
  have n0 := hn 0 (by omega)
  rw [fX3_gather_L12, n0, if_pos ((I_le (by omega) (by omega) (by omega) (by omega)).mpr (by omega))]
theorem gath8 {N W : Nat → Int} (hV : Vl N) (hW : Wd N W) {num words : Nat → Int32} (hn : ∀ j, j < 10 → num j = I (N j)) (hw : ∀ k, k < 3 → words k = I (W k)) (a b : Int32) : fX3_gather a b num words = some (I (gA N W), I (gR N W)) := by
  have key : ∀ n, fX3_gather_L12 num words (n + 4) (I (0 : Nat)) (I 0) (I 0) = some (I (gA N W), I (gR N W)) := by
    intro n
    have s0 := gst8 hV hW hn hw (n + 3) 0 (by have := hV.1; omega) 0 0
    rw [s0]
    unfold gA gR
    rcases N012 hV with e | e | e
    · rw [gen8 hV hn _ _ (by omega)]
      simp only [e, pq, pr]
      simp
    · rw [gst8 hV hW hn hw _ 1 (by omega), gen8 hV hn _ _ (by omega)]
      simp only [e, pq, pr]
      rcases n9c hV with e9 | e9 <;> simp [e9]
    · rw [gst8 hV hW hn hw _ 1 (by omega), gst8 hV hW hn hw _ 2 (by omega), gen8 hV hn _ _ (by omega)]
      simp only [e, pq, pr]
      rcases n9c hV with e9 | e9 <;> simp [e9]
  unfold fX3_gather
  rw [L0, show FUEL = 99996 + 4 from rfl]
  exact (congrArg (fun z => bnd2 z fun o2 o3 => some (o2, o3)) (key 99996)).trans (bnd2_some ..)
