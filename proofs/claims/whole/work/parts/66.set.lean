/-! numbers that are set; changes undone and done again -/
def LW (s : Nat) : Int := ([1, 2, -99, -99, -99, -99, 0, 0, 0, 0] : List Int).getD s 0
def HW (s : Nat) : Int := ([3, 5, 99, 99, 99, 99, 6, 4, 4, 1] : List Int).getD s 0
theorem k10 {s : Nat} (h : s < 10) : s = 0 ∨ s = 1 ∨ s = 2 ∨ s = 3 ∨ s = 4 ∨ s = 5 ∨ s = 6 ∨ s = 7 ∨ s = 8 ∨ s = 9 := by omega
theorem tbL : ∀ s, s < 10 → tb tLOW s = I (LW s) := by decide +kernel
theorem tbH : ∀ s, s < 10 → tb tHIGH s = I (HW s) := by decide +kernel
theorem LHb : ∀ s, s < 10 → -99 ≤ LW s ∧ HW s ≤ 99 := by decide +kernel
theorem Vl_iff (N : Nat → Int) : Vl N ↔ (∀ s, s < 10 → LW s ≤ N s ∧ N s ≤ HW s) ∧ N 0 * N 1 ≤ 10 := by
  constructor
  · rintro ⟨h0, h1, h10, h2, h3, h4, h5, h6, h7, h8, h9⟩
    refine ⟨fun s hs => ?_, h10⟩
    rcases k10 hs with rfl | rfl | rfl | rfl | rfl | rfl | rfl | rfl | rfl | rfl <;> assumption
  · rintro ⟨h, h10⟩
    exact ⟨h 0 (by omega), h 1 (by omega), h10, h 2 (by omega), h 3 (by omega), h 4 (by omega), h 5 (by omega), h 6 (by omega), h 7 (by omega), h 8 (by omega), h 9 (by omega)⟩
theorem Vl_cong {N M : Nat → Int} (h : ∀ j, j < 10 → N j = M j) (hV : Vl N) : Vl M := by
  rw [Vl_iff] at hV ⊢
  refine ⟨fun s hs => ?_, ?_⟩
  · rw [← h s hs]; exact hV.1 s hs
  · rw [← h 0 (by omega), ← h 1 (by omega)]; exact hV.2
theorem Vl_rng {N : Nat → Int} (hV : Vl N) {s : Nat} (hs : s < 10) : -99 ≤ N s ∧ N s ≤ 99 := by
  have h := ((Vl_iff N).mp hV).1 s hs
  have b := LHb s hs
  omega
def upI (N : Nat → Int) (s : Nat) (v : Int) : Nat → Int := fun j => if j = s then v else N j
/-- what becomes of a past, when a number becomes another -/
def zW (N W : Nat → Int) (s : Nat) (v : Int) : Nat → Int := if s ≤ 1 ∧ N s ≠ v then fun _ => 0 else W
theorem zW_w {N W : Nat → Int} {s : Nat} {v : Int} (hW : Wd N W) (hV : Vl (upI N s v)) : Wd (upI N s v) (zW N W s v) := by
  unfold zW
  by_cases c : s ≤ 1 ∧ N s ≠ v
  · rw [if_pos c]
    intro k hk
    have := hf_b hV
    simp only
    omega
  · rw [if_neg c]
    have e : hf (upI N s v) = hf N := by
      unfold hf upI
      by_cases q : 1 = s
      · rw [if_pos q]
        subst q
        rw [show N 1 = v from Classical.byContradiction fun z => c ⟨by omega, z⟩]
      · rw [if_neg q]
    intro k hk
    rw [e]
    exact hW k hk
theorem bcS8 (x v : Int32) (n k : Nat) (hk : k < 3) (num w : Nat → Int32) : fX3_become_L39 x v (n + 1) (I k) num w = fX3_become_L39 x v n (I (k + 1 : Nat)) num (upd w k (I 0)) := by
  have i2 : ((k : Int)).toNat = k := by omega
  rw [fX3_become_L39]
  simp (disch := omega) only [L0, L1, L3, I_add, I_sub, I_mul, I_neg, I_lt, I_le, I_eq, I_cl, i2]
  rw [if_neg (by omega), if_neg (by omega)]
  rfl
theorem bcE8 (x v : Int32) (n : Nat) (num w : Nat → Int32) : fX3_become_L39 x v (n + 1) (I (3 : Nat)) num w = some w := by
  rw [fX3_become_L39, if_pos (by decide +kernel)]
theorem bcj8 (x v : Int32) (num w : Nat → Int32) : ∃ w', fX3_become_j37 x v num w = some (num, w') ∧ ∀ k, k < 3 → w' k = I 0 := by
  unfold fX3_become_j37
  rw [show FUEL = 99996 + 4 from rfl, L0, show I (0 : Int) = I ((0 : Nat) : Int) from rfl, bcS8 _ _ _ 0 (by omega), bcS8 _ _ _ 1 (by omega), bcS8 _ _ _ 2 (by omega), bcE8, bnd1_some]
  refine ⟨_, rfl, fun k hk => ?_⟩
  have h : k = 0 ∨ k = 1 ∨ k = 2 := by omega
  rcases h with rfl | rfl | rfl <;> simp [upd]
theorem bec8 {N W : Nat → Int} (hV : Vl N) {num words : Nat → Int32} (hn : ∀ j, j < 10 → num j = I (N j)) (hw : ∀ k, k < 3 → words k = I (W k)) {s : Nat} (hs : s < 10) {v : Int} (v1 : -99 ≤ v) (v2 : v ≤ 99) : ∃ n' w', fX3_become (I s) (I v) num words = some (n', w') ∧ (∀ j, j < 10 → n' j = I (upI N s v j)) ∧ ∀ k, k < 3 → w' k = I (zW N W s v k) := by
  have i2 : ((s : Int)).toNat = s := by omega
  have hb := Vl_rng hV hs
  unfold fX3_become
  simp (disch := omega) only [L0, L1, L10, I_lt, I_le, I_eq, I_cl, i2]
  have gd : ¬ ((s : Int) < 0 ∨ 10 ≤ s) := by omega
  rw [if_neg (by omega), if_neg (by omega)]
  simp only [if_neg gd]
  rw [hn s hs]
  have hup : ∀ j, j < 10 → (upd num s (I v)) j = I (upI N s v j) := by
    intro j hj
    unfold upd upI
    by_cases q : j = s
    · rw [if_pos q, if_pos q]
    · rw [if_neg q, if_neg q]; exact hn j hj
  by_cases e : N s = v
  · rw [if_pos (by rw [e])]
    refine ⟨_, _, rfl, fun j hj => ?_, fun k hk => ?_⟩
    · unfold upI
      by_cases q : j = s
      · rw [if_pos q, q, ← e]; exact hn s hs
      · rw [if_neg q]; exact hn j hj
    · unfold zW
      rw [if_neg (fun q => q.2 e)]
      exact hw k hk
  · rw [if_neg (fun q => e (by rw [I_eq (by omega) (by omega) (by omega) (by omega)] at q; exact q))]
    by_cases q0 : (s : Int) = 0
    · obtain ⟨w', e1, e2⟩ := bcj8 (I s) (I v) (upd num s (I v)) words
      rw [if_pos q0, e1]
      refine ⟨_, _, rfl, hup, fun k hk => ?_⟩
      unfold zW
      rw [if_pos ⟨by omega, e⟩]
      exact e2 k hk
    · rw [if_neg q0]
      by_cases q1 : (s : Int) = 1
      · obtain ⟨w', e1, e2⟩ := bcj8 (I s) (I v) (upd num s (I v)) words
        rw [if_pos q1, e1]
        refine ⟨_, _, rfl, hup, fun k hk => ?_⟩
        unfold zW
        rw [if_pos ⟨by omega, e⟩]
        exact e2 k hk
      · rw [if_neg q1]
        refine ⟨_, _, rfl, hup, fun k hk => ?_⟩
        unfold zW
        rw [if_neg (by omega)]
        exact hw k hk
theorem bcS9 (x v : Int32) (n k : Nat) (hk : k < 3) (w : Nat → Int32) : fX9_becomes_L17 x v (n + 1) (I k) w = fX9_becomes_L17 x v n (I (k + 1 : Nat)) (upd w (10 + k) (I 0)) := by
  have i2 : ((10 : Int) + (k : Int)).toNat = 10 + k := by omega
  rw [fX9_becomes_L17]
  simp (disch := omega) only [L0, L1, L3, L10, I_add, I_sub, I_mul, I_neg, I_lt, I_le, I_eq, I_cl, i2]
  rw [if_neg (by omega), if_neg (by omega)]
  rfl
theorem bcE9 (x v : Int32) (n : Nat) (w : Nat → Int32) : fX9_becomes_L17 x v (n + 1) (I (3 : Nat)) w = some w := by
  rw [fX9_becomes_L17, if_pos (by decide +kernel)]
theorem bec9 {N W : Nat → Int} (hV : Vl N) {g : Nat → Int32} (hg : ∀ j, j < 10 → g j = I (N j)) (hp : ∀ k, k < 3 → g (10 + k) = I (W k)) {s : Nat} (hs : s < 10) {v : Int} (v1 : -99 ≤ v) (v2 : v ≤ 99) : ∃ g', fX9_becomes (I s) (I v) g = some g' ∧ (∀ j, j < 10 → g' j = I (upI N s v j)) ∧ ∀ k, k < 3 → g' (10 + k) = I (zW N W s v k) := by
  have i2 : ((s : Int)).toNat = s := by omega
  have hb := Vl_rng hV hs
  have hup : ∀ j, j < 10 → (upd g s (I v)) j = I (upI N s v j) := by
    intro j hj
    unfold upd upI
    by_cases q : j = s
    · rw [if_pos q, if_pos q]
    · rw [if_neg q, if_neg q]; exact hg j hj
  have hup2 : ∀ k, k < 3 → (upd g s (I v)) (10 + k) = I (W k) := by
    intro k hk
    rw [upd_o _ _ (by omega)]
    exact hp k hk
  unfold fX9_becomes
  simp (disch := omega) only [L0, L1, I_lt, I_le, I_eq, I_cl, i2]
  by_cases q : (1 : Int) < s
  · rw [if_pos q, if_neg (by omega)]
    refine ⟨_, rfl, hup, fun k hk => ?_⟩
    unfold zW
    rw [if_neg (by omega)]
    exact hup2 k hk
  · have gd : ¬ ((s : Int) < 0 ∨ 13 ≤ s) := by omega
    rw [if_neg q]
    simp only [if_neg gd]
    rw [hg s hs]
    by_cases e : N s = v
    · rw [if_pos (by rw [e])]
      refine ⟨_, rfl, hup, fun k hk => ?_⟩
      unfold zW
      rw [if_neg (fun q => q.2 e)]
      exact hup2 k hk
    · rw [if_neg (fun q => e (by rw [I_eq (by omega) (by omega) (by omega) (by omega)] at q; exact q))]
      rw [show FUEL = 99996 + 4 from rfl, show I (0 : Int) = I ((0 : Nat) : Int) from rfl, bcS9 _ _ _ 0 (by omega), bcS9 _ _ _ 1 (by omega), bcS9 _ _ _ 2 (by omega), bcE9, bnd1_some]
      refine ⟨_, rfl, fun j hj => ?_, fun k hk => ?_⟩
      · unfold upI
        by_cases q : j = s
        · rw [if_pos q, q, upd_s]
        · rw [if_neg q, upd_o _ _ q, upd_o _ _ (by omega), upd_o _ _ (by omega), upd_o _ _ (by omega)]; exact hg j hj
      · unfold zW
        rw [if_pos ⟨by omega, e⟩, upd_o _ _ (by omega)]
        have h : k = 0 ∨ k = 1 ∨ k = 2 := by omega
        rcases h with rfl | rfl | rfl <;> simp [upd]
theorem FR_up {N W : Nat → Int} {num words g : Nat → Int32} (h : FR N W num words g) {s : Nat} (hs : s < 10) {v : Int} (v1 : -99 ≤ v) (v2 : v ≤ 99) (hV : Vl (upI N s v)) : ∃ n' w' g', fX3_become (I s) (I v) num words = some (n', w') ∧ fX9_becomes (I s) (I v) g = some g' ∧ FR (upI N s v) (zW N W s v) n' w' g' := by
  obtain ⟨hV0, hW, hn, hw, hg, hp⟩ := h
  obtain ⟨n', w', e1, a1, a2⟩ := bec8 hV0 hn hw hs v1 v2
  obtain ⟨g', e2, b1, b2⟩ := bec9 hV0 hg hp hs v1 v2
  exact ⟨n', w', g', e1, e2, hV, zW_w hW hV, a1, a2, b1, b2⟩
theorem tlw8 {N : Nat → Int} (hV : Vl N) {num : Nat → Int32} (hn : ∀ j, j < 10 → num j = I (N j)) {s : Nat} (hs : s < 10) {v : Int} (v1 : -99 ≤ v) (v2 : v ≤ 99) : fX3_isTooLargeWith (I s) (I v) num = some (if upI N s v 0 * upI N s v 1 ≤ 10 then I 0 else I 1) := by
  have b0 := Vl_rng hV (s := 0) (by omega)
  have b1 := Vl_rng hV (s := 1) (by omega)
  have m : ∀ a b : Int, -99 ≤ a → a ≤ 99 → -99 ≤ b → b ≤ 99 → -9801 ≤ a * b ∧ a * b ≤ 9801 := fun a b h1 h2 h3 h4 => mulb (A := 99) (B := 99) h1 h2 h3 h4
  unfold fX3_isTooLargeWith fX3_isTooLargeWith_j14 fX3_isTooLargeWith_j30 upI
  rw [hn 0 (by omega), hn 1 (by omega)]
  have m1 := m v (N 1) v1 v2 b1.1 b1.2
  have m2 := m (N 0) v b0.1 b0.2 v1 v2
  have m3 := m (N 0) (N 1) b0.1 b0.2 b1.1 b1.2
  simp (disch := omega) only [L0, L1, L10, I_add, I_sub, I_mul, I_neg, I_lt, I_le, I_eq, I_cl]
  rcases k10 hs with rfl | rfl | rfl | rfl | rfl | rfl | rfl | rfl | rfl | rfl <;> simp [apply_ite some]
/-- changes: X's and the reference's, and the history that they tell -/
def CH (num : Nat → Int32) (done undone : Int32) (slots olds news : Nat → Int32) (und red : Int32) (ch : Nat → Nat → Int32) : Prop :=
  und = done ∧ red = undone ∧ (∀ j, j < 12 → ch j 0 = slots j ∧ ch j 1 = olds j ∧ ch j 2 = news j) ∧ ∃ (d u : Nat) (H : Nat → Nat → Int), done = I d ∧ undone = I u ∧ d + u ≤ 12 ∧ (∀ i, i ≤ d + u → Vl (H i)) ∧ (∀ j, j < 10 → num j = I (H d j)) ∧ ∀ i, i < d + u → ∃ s : Nat, s < 10 ∧ slots i = I s ∧ olds i = I (H i s) ∧ news i = I (H (i + 1) s) ∧ ∀ j, j < 10 → j ≠ s → H (i + 1) j = H i j
theorem upI_of {N M : Nat → Int} {s : Nat} {v : Int} (hv : M s = v) (h : ∀ j, j < 10 → j ≠ s → M j = N j) : ∀ j, j < 10 → upI N s v j = M j := by
  intro j hj
  unfold upI
  by_cases q : j = s
  · rw [if_pos q, q, hv]
  · rw [if_neg q, h j hj q]
theorem I_inj {a b : Int} (ha : -2147483648 ≤ a) (ha' : a < 2147483648) (hb : -2147483648 ≤ b) (hb' : b < 2147483648) (h : I a = I b) : a = b := (I_eq ha ha' hb hb').mp h
theorem num_eq {N M : Nat → Int} {num : Nat → Int32} (hV : Vl N) (hM : Vl M) (h1 : ∀ j, j < 10 → num j = I (N j)) (h2 : ∀ j, j < 10 → num j = I (M j)) : ∀ j, j < 10 → N j = M j := by
  intro j hj
  have a := Vl_rng hV hj
  have b := Vl_rng hM hj
  exact I_inj (by omega) (by omega) (by omega) (by omega) ((h1 j hj).symm.trans (h2 j hj))
theorem p_undo (num words g : Nat → Int32) (done undone : Int32) (slots olds news : Nat → Int32) (und red : Int32) (ch : Nat → Nat → Int32) (hF : FI num words g) (hC : CH num done undone slots olds news und red ch) :
    ∃ r n' w' d' u' und' red' g', fX8_undo num words done undone slots olds = some (r, n', w', d', u') ∧ fX9_undo und red g ch = some (r, und', red', g') ∧ FI n' w' g' ∧ CH n' d' u' slots olds news und' red' ch := by
  obtain ⟨N, W, hR⟩ := hF
  obtain ⟨rfl, rfl, hch, d, u, H, rfl, rfl, hdu, hVH, hnH, hst⟩ := hC
  unfold fX8_undo fX9_undo fX1_stepBack
  by_cases d0 : d = 0
  · subst d0
    rw [if_neg (by decide +kernel), bnd3_some, if_pos (by decide +kernel), if_pos (by decide +kernel)]
    exact ⟨_, _, _, _, _, _, _, _, rfl, rfl, ⟨N, W, hR⟩, ⟨rfl, rfl, hch, 0, u, H, rfl, rfl, hdu, hVH, hnH, hst⟩⟩
  · obtain ⟨s, hs, e1, e2, e3, e4⟩ := hst (d - 1) (by omega)
    have ed : d - 1 + 1 = d := by omega
    rw [ed] at e3 e4
    have hH := hVH (d - 1) (by omega)
    have hb := Vl_rng hH hs
    have hNH := num_eq hR.1 (hVH d (by omega)) hR.2.2.1 hnH
    have hup : ∀ j, j < 10 → upI N s (H (d - 1) s) j = H (d - 1) j := upI_of rfl (fun j hj hne => by rw [hNH j hj]; exact (e4 j hj hne).symm)
    have hV' : Vl (upI N s (H (d - 1) s)) := Vl_cong (fun j hj => (hup j hj).symm) hH
    obtain ⟨n', w', g', f1, f2, f3⟩ := FR_up hR hs hb.1 hb.2 hV'
    have i1 : ((d : Int) - 1).toNat = d - 1 := by omega
    simp (disch := omega) only [L0, L1, L12, I_add, I_sub, I_mul, I_neg, I_lt, I_le, I_eq, I_cl, i1, (hch (d - 1) (by omega)).1, (hch (d - 1) (by omega)).2.1]
    have gd : ¬ ((d : Int) - 1 < 0 ∨ 12 ≤ d - 1) := by omega
    rw [if_pos (by omega), bnd3_some]
    simp (disch := omega) only [I_lt, I_le, I_eq, I_cl, i1]
    rw [if_neg (by omega), if_pos (by omega), if_neg (by omega)]
    simp only [if_neg gd]
    rw [if_neg (by omega), e1, e2, f1, f2, bnd2_some, bnd1_some]
    refine ⟨_, _, _, _, _, _, _, _, rfl, rfl, ⟨_, _, f3⟩, ⟨rfl, rfl, hch, d - 1, u + 1, H, ?_, ?_, by omega, fun i hi => hVH i (by omega), fun j hj => ?_, fun i hi => hst i (by omega)⟩⟩
    · congr 1; omega
    · rfl
    · rw [f3.2.2.1 j hj, hup j hj]
theorem p_redo (num words g : Nat → Int32) (done undone : Int32) (slots olds news : Nat → Int32) (und red : Int32) (ch : Nat → Nat → Int32) (hF : FI num words g) (hC : CH num done undone slots olds news und red ch) :
    ∃ r n' w' d' u' und' red' g', fX8_redo num words done undone slots news = some (r, n', w', d', u') ∧ fX9_redo und red g ch = some (r, und', red', g') ∧ FI n' w' g' ∧ CH n' d' u' slots olds news und' red' ch := by
  obtain ⟨N, W, hR⟩ := hF
  obtain ⟨rfl, rfl, hch, d, u, H, rfl, rfl, hdu, hVH, hnH, hst⟩ := hC
  unfold fX8_redo fX9_redo fX1_stepOn
  by_cases d0 : u = 0
  · subst d0
    rw [if_neg (by decide +kernel), bnd3_some, if_pos (by decide +kernel), if_pos (by decide +kernel)]
    exact ⟨_, _, _, _, _, _, _, _, rfl, rfl, ⟨N, W, hR⟩, ⟨rfl, rfl, hch, d, 0, H, rfl, rfl, hdu, hVH, hnH, hst⟩⟩
  · obtain ⟨s, hs, e1, e2, e3, e4⟩ := hst d (by omega)
    have hH := hVH (d + 1) (by omega)
    have hb := Vl_rng hH hs
    have hNH := num_eq hR.1 (hVH d (by omega)) hR.2.2.1 hnH
    have hup : ∀ j, j < 10 → upI N s (H (d + 1) s) j = H (d + 1) j := upI_of rfl (fun j hj hne => by rw [hNH j hj]; exact (e4 j hj hne))
    have hV' : Vl (upI N s (H (d + 1) s)) := Vl_cong (fun j hj => (hup j hj).symm) hH
    obtain ⟨n', w', g', f1, f2, f3⟩ := FR_up hR hs hb.1 hb.2 hV'
    have i1 : ((d : Int) + 1 - 1).toNat = d := by omega
    have i2 : ((d : Int)).toNat = d := by omega
    have gd : ¬ ((d : Int) < 0 ∨ 12 ≤ d) := by omega
    simp (disch := omega) only [L0, L1, L12, I_add, I_sub, I_mul, I_neg, I_lt, I_le, I_eq, I_cl, i1, i2]
    rw [if_pos (by omega), bnd3_some]
    simp (disch := omega) only [I_lt, I_le, I_eq, I_cl, i1]
    rw [if_neg (by omega), if_pos (by omega)]
    have gd2 : ¬ ((d : Int) + 1 - 1 < 0 ∨ 12 ≤ d) := by omega
    simp only [if_neg gd, if_neg gd2]
    rw [if_neg (by omega), (hch d (by omega)).1, (hch d (by omega)).2.2, e1, e3, f1, f2, bnd2_some, bnd1_some]
    refine ⟨_, _, _, _, _, _, _, _, rfl, rfl, ⟨_, _, f3⟩, ⟨rfl, rfl, hch, d + 1, u - 1, H, ?_, ?_, by omega, fun i hi => hVH i (by omega), fun j hj => ?_, fun i hi => hst i (by omega)⟩⟩
    · rfl
    · congr 1; omega
    · rw [f3.2.2.1 j hj, hup j hj]
