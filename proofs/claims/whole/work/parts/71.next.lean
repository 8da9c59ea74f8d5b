theorem iss8 {N : Nat → Int} (hV : Vl N) {num : Nat → Int32} (hn : ∀ j, j < 10 → num j = I (N j)) {c : Int} (c1 : -2147483648 ≤ c) (c2 : c < 2147483648) : fX8_isStart (I c) num = some (if 0 ≤ c ∧ c < stN N then I 1 else I 0) := by
  have hs := st_b hV
  unfold fX8_isStart
  rw [sta8 hV hn, bnd1_some]
  simp (disch := omega) only [L0, L1, I_lt, I_le]
  (repeat' split) <;> first | rfl | omega
theorem iss9 {N : Nat → Int} (hV : Vl N) {g : Nat → Int32} (hg : ∀ j, j < 10 → g j = I (N j)) {c : Int} (c1 : -2147483648 ≤ c) (c2 : c < 2147483648) : fX9_isCode (I c) g = some (if 0 ≤ c ∧ c < stN N then I 1 else I 0) := by
  have hs := st_b hV
  unfold fX9_isCode
  rw [sta9 hV hg, bnd1_some]
  simp (disch := omega) only [L0, L1, M0, I_sub, IJ, inI, J_le, bnd1_some, b01, not_true, if_false]
  have e : (0 ≤ c ∧ c ≤ stN N - 1) ↔ (0 ≤ c ∧ c < stN N) := by omega
  simp only [e]
/-- words of a start, laid over others: X's -/
def ovW (N V : Nat → Int) (c : Int) : Nat → Int := fun k => if (k : Int) < N 0 then unW N c k else V k
theorem ovW_w {N V : Nat → Int} (hV : Vl N) (hW : Wd N V) (c : Int) : Wd N (ovW N V c) := by
  intro k hk
  unfold ovW
  by_cases q : (k : Int) < N 0
  · rw [if_pos q]; exact unW_w hV c k hk
  · rw [if_neg q]; exact hW k hk
theorem ovW_a {N V : Nat → Int} (c : Int) : ∀ k : Nat, (k : Int) < N 0 → ovW N V c k = unW N c k := by
  intro k hk
  unfold ovW
  rw [if_pos hk]
theorem unp8' {N V : Nat → Int} (hV : Vl N) {num words : Nat → Int32} (hn : ∀ j, j < 10 → num j = I (N j)) (hw : ∀ k, k < 3 → words k = I (V k)) (c : Int) (h0 : 0 ≤ c) (h1 : c < stN N) : ∃ w', fX3_unpack (I c) num words = some w' ∧ ∀ k, k < 3 → w' k = I (ovW N V c k) := by
  have hs := st_b hV
  obtain ⟨w', e, h⟩ := unp8 hV hn c h0 (by omega) words
  refine ⟨w', e, fun k hk => ?_⟩
  rw [h k hk]
  unfold ovW
  by_cases q : (k : Int) < N 0
  · rw [if_pos q, if_pos q]
  · rw [if_neg q, if_neg q]; exact hw k hk
theorem p_next (x y : Int32) (num words g p tn tw : Nat → Int32) (a v l r o ha hr a9 v9 l9 o9 : Int32) (hF : FI num words g) : ∃ R A V L RR O HA HR tn' tw' A9 V9 L9 O9 p', fX8_next x y num words a v l r o ha hr tn tw = some (R, A, V, L, RR, O, HA, HR, tn', tw') ∧ fX9_next x y a9 v9 l9 o9 g p = some (R, A9, V9, L9, O9, p') := by
  obtain ⟨c, rfl, c1, c2⟩ := I_ex x
  obtain ⟨z, rfl, z1, z2⟩ := I_ex y
  obtain ⟨N, W, hV, hW, hn, hw, hg, hp⟩ := hF
  have hs := st_b hV
  unfold fX8_next fX9_next
  rw [iss8 hV hn c1 c2, iss9 hV hg c1 c2, inp8 z1 z2, inp9 z1 z2]
  simp only [bnd1_some]
  rw [L0]
  by_cases q1 : 0 ≤ c ∧ c < stN N
  · rw [if_pos q1, if_neg i01, if_neg i01]
    by_cases q2 : -99 ≤ z ∧ z ≤ 99
    · obtain ⟨n', w', e1, a1, a2, -⟩ := tak8 tn tw num words
      have hn' : ∀ j, j < 10 → n' j = I (N j) := fun j hj => (a1 j hj).trans (hn j hj)
      have hw' : ∀ j, j < 3 → w' j = I (W j) := fun j hj => (a2 j hj).trans (hw j hj)
      obtain ⟨w2, e2, b1⟩ := unp8' hV hn' hw' c q1.1 q1.2
      obtain ⟨p', a', e3⟩ := bhd9 hV hg q1.1 q1.2 q2.1 q2.2 a9 v9 l9 o9 p
      have hsw := sS_w hV (unW_w hV c) z
      have hh := hf_b hV
      have hnx := nx_b hV z q1.1 q1.2
      rw [if_pos q2, if_neg i01, if_neg i01, e1, bnd2_some, e2, bnd1_some, wei8 hV (ovW_w hV hW c) hn' b1 q2.1 q2.2, bnd7_some, e3, bnd6_some, (agrS hV (ovW_a c) z).2.2.2.2, L1005, I_neg]
      unfold nx
      by_cases e : sS N (unW N c) z = -1005
      · rw [if_pos (by rw [e]), if_pos e, if_neg (show ¬ I 0 ≤ I (-1) by decide +kernel)]
        exact ⟨_, _, _, _, _, _, _, _, _, _, _, _, _, _, _, rfl, rfl⟩
      · have hnx2 : nx N z c = (sS N (unW N c) z + hf N) * pw (N 1 * (N 0 - 1)) + c / pw (N 1) := by
          unfold nx
          rw [if_neg e]
        have hb : 0 ≤ nx N z c ∧ nx N z c < stN N := by
          rw [hnx2, ← cdB hV q1.1 q1.2]
          exact cd_b hV (psh_w (unW_w hV c) (by omega))
        rw [if_neg (fun q => e (I_inj (by omega) (by omega) (by omega) (by omega) q)), if_neg e, cbh8 hV hn' c _ q1.1 (by omega), bnd1_some, ← hnx2, if_pos ((I_le (by omega) (by omega) (by omega) (by omega)).mpr hb.1)]
        exact ⟨_, _, _, _, _, _, _, _, _, _, _, _, _, _, _, rfl, rfl⟩
    · rw [if_neg q2, if_pos rfl, if_pos rfl]
      exact ⟨_, _, _, _, _, _, _, _, _, _, _, _, _, _, _, rfl, rfl⟩
  · rw [if_neg q1, if_pos rfl, if_pos rfl]
    exact ⟨_, _, _, _, _, _, _, _, _, _, _, _, _, _, _, rfl, rfl⟩
