/-! the class's automaton -/
noncomputable def XR (n m : Nat) (bs : Nat → Int32) (i : Nat) (acts st nl s b : Int32) (L F G : Nat → Int32) : Option (Int32 × Int32 × Int32 × Int32 × Int32 × Int32 × (Nat → Int32) × (Nat → Int32) × (Nat → Int32)) := bnd1 (fX6_findFault_L12 (I n) bs (m + (n - i) + 1) (I i) acts st nl s b L F G) (sumE (c9 (fun p0_0 p0_1 p0_2 p0_3 p0_4 p0_5 p0_6 p0_7 p0_8 => some (p0_0, p0_1, p0_2, p0_3, p0_4, p0_5, p0_6, p0_7, p0_8))) (c8 (fun p1_0 p1_1 p1_2 p1_3 p1_4 p1_5 p1_6 p1_7 => fX6_findFault_j47 (I n) bs p1_0 p1_1 p1_2 p1_3 p1_4 p1_5 p1_6 p1_7)))
theorem XRs {T : Nat → Nat} {n m : Nat} {bs : Nat → Int32} (h : TOK T n bs) {i : Nat} (hi : i < n) (acts st nl s b : Int32) (L F G : Nat → Int32) : XR n m bs i acts st nl s b L F G = bnd9 (fX6_goesOnWith (I (T i)) acts st nl s b L F G) fun r1 o2 o3 o4 o5 o6 o7 o8 o9 => if r1 = 0 then some (I i, o2, o3, o4, o5, o6, o7, o8, o9) else XR n m bs (i + 1) o2 o3 o4 o5 o6 o7 o8 o9 := by
  have hn := h.1
  unfold XR
  rw [show m + (n - i) + 1 = (m + (n - (i + 1)) + 1) + 1 by omega, fX6_findFault_L12, if_neg (by rw [I_le (by omega) (by omega) (by omega) (by omega)]; omega), if_neg (by rw [L80, I_le (by omega) (by omega) (by omega) (by omega)]; omega), clN (by omega), if_neg (g80 (by omega)), (h.2 i hi).2.2, L1, I_add]
  cases fX6_goesOnWith (I (T i)) acts st nl s b L F G with
  | none => rfl
  | some q =>
    obtain ⟨r1, o2, o3, o4, o5, o6, o7, o8, o9⟩ := q
    rw [bnd9_some, bnd9_some]
    by_cases c : r1 = 0
    · rw [if_pos c, if_pos c, bnd1_some]; rfl
    · rw [if_neg c, if_neg c]; rfl
theorem XRe (n m : Nat) (hn : n ≤ 80) (bs : Nat → Int32) (acts st nl s b : Int32) (L F G : Nat → Int32) : XR n m bs n acts st nl s b L F G = fX6_findFault_j47 (I n) bs acts st nl s b L F G := by
  unfold XR
  rw [show m + (n - n) + 1 = m + 1 by omega, fX6_findFault_L12, if_pos (by rw [I_le (by omega) (by omega) (by omega) (by omega)]; omega), bnd1_some]
  rfl
theorem XR_sign {T : Nat → Nat} {n m : Nat} {bs : Nat → Int32} (h : TOK T n bs) {i : Nat} (hi : hre T n i = 45) (acts nl s b : Int32) (L F G : Nat → Int32) : XR n m bs i acts 1 nl s b L F G = XR n m bs (i + 1) acts 2 nl s 1 L F G := by
  have hb := hre_b h i
  rcases hb with hb | ⟨hlt, hb, -, -⟩
  · omega
  · have et : T i = 45 := by omega
    rw [XRs h hlt, et]
    unfold fX6_goesOnWith fX6_beginsNumber
    rw [if_neg (c := (1 : Int32) = 0) (by decide), if_pos (c := (1 : Int32) = 1) rfl, if_pos (c := I ((45 : Nat) : Int) = (45 : Int32)) (by decide +kernel), bnd5_some, if_neg (c := ¬ _) (by decide), bnd9_some, if_neg (c := (1 : Int32) = 0) (by decide)]
theorem adf8 (t : Nat) (ht : t ≤ 126) (k : Nat) (hk : k < 80) (th st s b : Int32) (F G : Nat → Int32) : fX6_addsFigure (I t) th (I (k + 1 : Nat)) st s b F G = if 48 ≤ t ∧ t ≤ 57 then (if s = 0 then some (1, th, upd F k (F k * 10 + (if b = 0 then I ((t : Int) - 48) else I (48 - (t : Int)))), G) else some (1, th, F, upd G k (G k * 10 + (if b = 0 then I ((t : Int) - 48) else I (48 - (t : Int)))))) else some (0, st, F, G) := by
  have e48 : (48 : Int32) = I 48 := by decide +kernel
  have e57 : (57 : Int32) = I 57 := by decide +kernel
  have ek : I (k + 1 : Nat) - (1 : Int32) = I k := by rw [L1, I_sub]; congr 1; omega
  unfold fX6_addsFigure fX6_addsFigure_j49
  rw [e48, e57, ek, clN (show k < 100000 by omega)]
  by_cases c : 48 ≤ t ∧ t ≤ 57
  · rw [if_neg (c := I t < I 48) (by rw [I_lt (by omega) (by omega) (by omega) (by omega)]; omega), if_neg (c := I 57 < I t) (by rw [I_lt (by omega) (by omega) (by omega) (by omega)]; omega), if_neg (nK (show k < 100000 by omega)), if_pos (c := I k < (80 : Int32)) (by rw [L80, I_lt (by omega) (by omega) (by omega) (by omega)]; omega), if_pos c]
    simp only [if_neg (g80 hk), I_sub]
    by_cases cb : b = 0
    · simp only [if_pos cb]
    · simp only [if_neg cb]
  · rw [if_neg c]
    by_cases c1 : t < 48
    · rw [if_pos (c := I t < I 48) (by rw [I_lt (by omega) (by omega) (by omega) (by omega)]; omega)]
    · rw [if_neg (c := I t < I 48) (by rw [I_lt (by omega) (by omega) (by omega) (by omega)]; omega), if_pos (c := I 57 < I t) (by rw [I_lt (by omega) (by omega) (by omega) (by omega)]; omega)]
theorem XR_fig {T : Nat → Nat} {n m : Nat} {bs : Nat → Int32} (h : TOK T n bs) {i : Nat} (hi : fig T n i) {k : Nat} (hk : k < 80) (st st2 nl s b : Int32) (hst : ((st = 1 ∨ st = 2) ∧ st2 = 3) ∨ (st = 3 ∧ st2 = 4)) (L F G : Nat → Int32) : XR n m bs i (I (k + 1 : Nat)) st nl s b L F G = XR n m bs (i + 1) (I (k + 1 : Nat)) st2 nl s b L (if s = 0 then upd F k (F k * 10 + (if b = 0 then I (hre T n i - 48) else I (48 - hre T n i))) else F) (if s = 0 then G else upd G k (G k * 10 + (if b = 0 then I (hre T n i - 48) else I (48 - hre T n i)))) := by
  obtain ⟨hlt, ht⟩ := fig_lt hi
  unfold fig at hi
  have hT := h.2 i hlt
  have cc : 48 ≤ T i ∧ T i ≤ 57 := by omega
  rw [XRs h hlt, ht]
  unfold fX6_goesOnWith
  rcases hst with ⟨rfl | rfl, rfl⟩ | ⟨rfl, rfl⟩
  · rw [if_neg (c := (1 : Int32) = 0) (by decide), if_pos (c := (1 : Int32) = 1) rfl]
    unfold fX6_beginsNumber
    have e45 : (45 : Int32) = I 45 := by decide +kernel
    rw [e45, if_neg (c := I (T i) = I 45) (by rw [I_eq (by omega) (by omega) (by omega) (by omega)]; omega), adf8 _ (by omega) k hk, if_pos cc]
    by_cases cs : s = 0
    · simp only [if_pos cs]
      rw [bnd4_some, if_neg (c := ¬ _) (by decide), bnd5_some, if_neg (c := ¬ _) (by decide), bnd9_some, if_neg (c := (1 : Int32) = 0) (by decide)]
    · simp only [if_neg cs]
      rw [bnd4_some, if_neg (c := ¬ _) (by decide), bnd5_some, if_neg (c := ¬ _) (by decide), bnd9_some, if_neg (c := (1 : Int32) = 0) (by decide)]
  · rw [if_neg (c := (2 : Int32) = 0) (by decide), if_neg (c := (2 : Int32) = 1) (by decide), if_pos (c := (2 : Int32) = 2) rfl, adf8 _ (by omega) k hk, if_pos cc]
    by_cases cs : s = 0
    · simp only [if_pos cs]
      rw [bnd4_some, if_neg (c := ¬ _) (by decide), bnd9_some, if_neg (c := (1 : Int32) = 0) (by decide)]
    · simp only [if_neg cs]
      rw [bnd4_some, if_neg (c := ¬ _) (by decide), bnd9_some, if_neg (c := (1 : Int32) = 0) (by decide)]
  · rw [if_neg (c := (3 : Int32) = 0) (by decide), if_neg (c := (3 : Int32) = 1) (by decide), if_neg (c := (3 : Int32) = 2) (by decide), if_pos (c := (3 : Int32) = 3) rfl, adf8 _ (by omega) k hk, if_pos cc]
    by_cases cs : s = 0
    · simp only [if_pos cs]
      rw [bnd4_some, if_neg (c := (1 : Int32) = 0) (by decide), bnd9_some, if_neg (c := (1 : Int32) = 0) (by decide)]
    · simp only [if_neg cs]
      rw [bnd4_some, if_neg (c := (1 : Int32) = 0) (by decide), bnd9_some, if_neg (c := (1 : Int32) = 0) (by decide)]
theorem XR_bad {T : Nat → Nat} {n m : Nat} {bs : Nat → Int32} (h : TOK T n bs) {i : Nat} (hin : i ≤ n) (hi : ¬ fig T n i) {k : Nat} (hk : k < 80) (st nl s b : Int32) (hst : (st = 1 ∧ hre T n i ≠ 45) ∨ st = 2) (L F G : Nat → Int32) : ∃ q, XR n m bs i (I (k + 1 : Nat)) st nl s b L F G = some (I i, q) := by
  by_cases hlt : i < n
  · have hT := h.2 i hlt
    have ht : hre T n i = T i := by unfold hre; rw [if_pos hlt]
    have cc : ¬ (48 ≤ T i ∧ T i ≤ 57) := by
      unfold fig at hi
      omega
    rw [XRs h hlt]
    unfold fX6_goesOnWith
    rcases hst with ⟨rfl, h45⟩ | rfl
    · rw [if_neg (c := (1 : Int32) = 0) (by decide), if_pos (c := (1 : Int32) = 1) rfl]
      unfold fX6_beginsNumber
      have e45 : (45 : Int32) = I 45 := by decide +kernel
      rw [e45, if_neg (c := I (T i) = I 45) (by rw [I_eq (by omega) (by omega) (by omega) (by omega)]; omega), adf8 _ (by omega) k hk, if_neg cc, bnd4_some, if_neg (c := ¬ _) (by decide), bnd5_some, if_neg (c := ¬ _) (by decide), bnd9_some, if_pos (c := (0 : Int32) = 0) rfl]
      exact ⟨_, rfl⟩
    · rw [if_neg (c := (2 : Int32) = 0) (by decide), if_neg (c := (2 : Int32) = 1) (by decide), if_pos (c := (2 : Int32) = 2) rfl, adf8 _ (by omega) k hk, if_neg cc, bnd4_some, if_neg (c := ¬ _) (by decide), bnd9_some, if_pos (c := (0 : Int32) = 0) rfl]
      exact ⟨_, rfl⟩
  · have e : i = n := by omega
    subst e
    rw [XRe _ _ h.1]
    unfold fX6_findFault_j47 fX6_endsNumber
    rcases hst with ⟨rfl, -⟩ | rfl
    · rw [if_neg (c := (1 : Int32) = 3) (by decide), if_neg (c := (1 : Int32) = 4) (by decide), bnd1_some, if_pos (c := (0 : Int32) = 0) rfl]
      exact ⟨_, rfl⟩
    · rw [if_neg (c := (2 : Int32) = 3) (by decide), if_neg (c := (2 : Int32) = 4) (by decide), bnd1_some, if_pos (c := (0 : Int32) = 0) rfl]
      exact ⟨_, rfl⟩
theorem XR_end {T : Nat → Nat} {n m : Nat} {bs : Nat → Int32} (h : TOK T n bs) {i : Nat} (hin : i ≤ n) {k : Nat} (hk : k < 80) (st nl s b : Int32) (hst : (st = 3 ∧ ¬ fig T n i) ∨ st = 4) (hnl : nl = 0 ∨ nl = 1) (L F G : Nat → Int32) :
    (i = n ∧ nl = 0 ∧ XR n m bs i (I (k + 1 : Nat)) st nl s b L F G = some (-1, I (k + 1 : Nat), st, nl, s, b, L, F, G)) ∨ (hre T n i = 44 ∧ nl = 1 ∧ XR n m bs i (I (k + 1 : Nat)) st nl s b L F G = XR n m bs (i + 1) (I (k + 1 : Nat)) 1 0 1 0 L F G) ∨ (hre T n i = 59 ∧ nl = 0 ∧ XR n m bs i (I (k + 1 : Nat)) st nl s b L F G = XR n m bs (i + 1) (I (k + 1 : Nat)) 0 nl s b L F G) ∨ ((¬ (i = n ∧ nl = 0)) ∧ ¬ (hre T n i = 44 ∧ nl = 1) ∧ ¬ (hre T n i = 59 ∧ nl = 0) ∧ ∃ q, XR n m bs i (I (k + 1 : Nat)) st nl s b L F G = some (I i, q)) := by
  have e44 : (44 : Int32) = I 44 := by decide +kernel
  have e59 : (59 : Int32) = I 59 := by decide +kernel
  by_cases hlt : i < n
  · have hT := h.2 i hlt
    have ht : hre T n i = T i := by unfold hre; rw [if_pos hlt]
    have en : XR n m bs i (I (k + 1 : Nat)) st nl s b L F G = bnd5 (fX6_endsNumberWith (I (T i)) st nl s b) fun r o2 o3 o4 o5 => if r = 0 then some (I i, I (k + 1 : Nat), o2, o3, o4, o5, L, F, G) else (if r = 1 then XR n m bs (i + 1) (I (k + 1 : Nat)) o2 o3 o4 o5 L F G else none) := by
      rw [XRs h hlt]
      have hr : ∃ r o2 o3 o4 o5, fX6_endsNumberWith (I (T i)) st nl s b = some (r, o2, o3, o4, o5) ∧ (r = 0 ∨ r = 1) := by
        unfold fX6_endsNumberWith fX6_endsNumberWith_j35
        (repeat' split) <;> exact ⟨_, _, _, _, _, rfl, by decide⟩
      obtain ⟨r, o2, o3, o4, o5, er, r01⟩ := hr
      unfold fX6_goesOnWith
      rcases hst with ⟨rfl, hf⟩ | rfl
      · have cc : ¬ (48 ≤ T i ∧ T i ≤ 57) := by
          unfold fig at hf
          omega
        rw [if_neg (c := (3 : Int32) = 0) (by decide), if_neg (c := (3 : Int32) = 1) (by decide), if_neg (c := (3 : Int32) = 2) (by decide), if_pos (c := (3 : Int32) = 3) rfl, adf8 _ (by omega) k hk, if_neg cc, bnd4_some, if_pos (c := (0 : Int32) = 0) rfl, er, bnd5_some, bnd5_some]
        rcases r01 with rfl | rfl
        · rw [if_pos (c := (0 : Int32) = 0) rfl, bnd9_some, if_pos (c := (0 : Int32) = 0) rfl, if_pos (c := (0 : Int32) = 0) rfl]
        · rw [if_neg (c := (1 : Int32) = 0) (by decide), bnd9_some, if_neg (c := (1 : Int32) = 0) (by decide), if_neg (c := (1 : Int32) = 0) (by decide), if_pos (c := (1 : Int32) = 1) rfl]
      · rw [if_neg (c := (4 : Int32) = 0) (by decide), if_neg (c := (4 : Int32) = 1) (by decide), if_neg (c := (4 : Int32) = 2) (by decide), if_neg (c := (4 : Int32) = 3) (by decide), er, bnd5_some, bnd5_some]
        rcases r01 with rfl | rfl
        · rw [if_neg (c := ¬ _) (by decide), bnd9_some, if_pos (c := (0 : Int32) = 0) rfl, if_pos (c := (0 : Int32) = 0) rfl]
        · rw [if_neg (c := ¬ _) (by decide), bnd9_some, if_neg (c := (1 : Int32) = 0) (by decide), if_neg (c := (1 : Int32) = 0) (by decide), if_pos (c := (1 : Int32) = 1) rfl]
    rw [en]
    unfold fX6_endsNumberWith fX6_endsNumberWith_j35
    rw [e44, e59]
    by_cases c1 : T i = 44
    · rw [if_pos (c := I (T i) = I 44) (by rw [c1]; rfl), if_neg (c := I (T i) = I 59) (by rw [I_eq (by omega) (by omega) (by omega) (by omega)]; omega)]
      rcases hnl with rfl | rfl
      · rw [if_pos (c := (0 : Int32) ≤ 0) (by decide), bnd5_some, if_pos (c := (0 : Int32) = 0) rfl]
        exact Or.inr (Or.inr (Or.inr ⟨by omega, by rintro ⟨-, q⟩; exact absurd q (by decide), by omega, _, rfl⟩))
      · rw [if_neg (c := (1 : Int32) ≤ 0) (by decide), bnd5_some, if_neg (c := (1 : Int32) = 0) (by decide), if_pos (c := (1 : Int32) = 1) rfl]
        exact Or.inr (Or.inl ⟨by omega, rfl, rfl⟩)
    · rw [if_neg (c := I (T i) = I 44) (by rw [I_eq (by omega) (by omega) (by omega) (by omega)]; omega)]
      by_cases c2 : T i = 59
      · rw [if_pos (c := I (T i) = I 59) (by rw [c2]; rfl)]
        rcases hnl with rfl | rfl
        · rw [if_pos (c := (0 : Int32) = 0) rfl, bnd5_some, if_neg (c := (1 : Int32) = 0) (by decide), if_pos (c := (1 : Int32) = 1) rfl]
          exact Or.inr (Or.inr (Or.inl ⟨by omega, rfl, rfl⟩))
        · rw [if_neg (c := (1 : Int32) = 0) (by decide), bnd5_some, if_pos (c := (0 : Int32) = 0) rfl]
          exact Or.inr (Or.inr (Or.inr ⟨by omega, by omega, by rintro ⟨-, q⟩; exact absurd q (by decide), _, rfl⟩))
      · rw [if_neg (c := I (T i) = I 59) (by rw [I_eq (by omega) (by omega) (by omega) (by omega)]; omega), bnd5_some, if_pos (c := (0 : Int32) = 0) rfl]
        exact Or.inr (Or.inr (Or.inr ⟨by omega, by omega, by omega, _, rfl⟩))
  · have e : i = n := by omega
    subst e
    have hre1 : hre T i i = -1 := by unfold hre; rw [if_neg (by omega)]
    rw [XRe _ _ h.1]
    unfold fX6_findFault_j47 fX6_endsNumber
    have hx : (if st = (3 : Int32) then some (1 : Int32) else if st = (4 : Int32) then some (1 : Int32) else some (0 : Int32)) = some 1 := by
      rcases hst with ⟨rfl, -⟩ | rfl
      · rw [if_pos rfl]
      · rw [if_neg (by decide), if_pos rfl]
    rw [hx, bnd1_some, if_neg (c := (1 : Int32) = 0) (by decide)]
    rcases hnl with rfl | rfl
    · rw [if_pos (c := (0 : Int32) = 0) rfl]
      exact Or.inl ⟨rfl, rfl, rfl⟩
    · rw [if_neg (c := (1 : Int32) = 0) (by decide)]
      exact Or.inr (Or.inr (Or.inr ⟨by rintro ⟨-, q⟩; exact absurd q (by decide), by omega, by omega, _, rfl⟩))
theorem XR_let {T : Nat → Nat} {n m : Nat} {bs : Nat → Int32} (h : TOK T n bs) {i : Nat} (hin : i ≤ n) {k : Nat} (hk : k ≤ i) (nl s b : Int32) (L F G : Nat → Int32) : (i < n ∧ ix (T i) ≠ -1 ∧ XR n m bs i (I k) 0 nl s b L F G = XR n m bs (i + 1) (I (k + 1 : Nat)) 1 (if mn (T i) = 2 then 1 else 0) 0 0 (upd L k (I (ix (T i)))) (upd F k 0) (upd G k 0)) ∨ ((¬ (i < n ∧ ix (T i) ≠ -1)) ∧ ∃ q, XR n m bs i (I k) 0 nl s b L F G = some (I i, q)) := by
  have hn := h.1
  by_cases hlt : i < n
  · have hT := h.2 i hlt
    have hx := ix_b (T i)
    rw [XRs h hlt]
    unfold fX6_goesOnWith fX6_beginsAct fX6_beginsAct_j82 fX6_beginsAct_j87
    rw [if_pos (c := (0 : Int32) = 0) rfl, ixX _ (by omega) (by omega), bnd1_some, clN (show k < 100000 by omega)]
    by_cases c : ix (T i) = -1
    · rw [c, if_pos (c := I (-1) < 0) (by decide +kernel), bnd9_some, if_neg (c := ¬ _) (by decide), bnd9_some, if_pos (c := (0 : Int32) = 0) rfl]
      exact Or.inr ⟨fun q => q.2 rfl, _, rfl⟩
    · have hm := mn2 (T i) c
      rw [if_neg (c := I (ix (T i)) < 0) (by rw [L0, I_lt (by omega) (by omega) (by omega) (by omega)]; omega), if_neg (nK (show k < 100000 by omega)), if_pos (c := I k < (80 : Int32)) (by rw [L80, I_lt (by omega) (by omega) (by omega) (by omega)]; omega)]
      simp only [if_neg (g80 (show k < 80 by omega))]
      have e8 : (8 : Int32) = I 8 := by decide +kernel
      have ek : I k + (1 : Int32) = I (k + 1 : Nat) := by rw [L1, I_add]; rfl
      rw [ek]
      refine Or.inl ⟨hlt, c, ?_⟩
      rcases hm with ⟨m2, hi2⟩ | ⟨m1, hi2, hi8⟩
      · rw [if_pos m2]
        rcases hi2 with hi2 | hi2
        · rw [hi2, if_pos (c := I 2 = (2 : Int32)) rfl, bnd9_some, if_neg (c := ¬ _) (by decide), bnd9_some, if_neg (c := (1 : Int32) = 0) (by decide)]
        · rw [hi2, if_neg (c := I 8 = (2 : Int32)) (by decide +kernel), if_pos (c := I 8 = (8 : Int32)) (by rw [e8]), bnd9_some, if_neg (c := ¬ _) (by decide), bnd9_some, if_neg (c := (1 : Int32) = 0) (by decide)]
      · rw [if_neg (c := mn (T i) = 2) (by omega), L2, e8, if_neg (c := I (ix (T i)) = I 2) (by rw [I_eq (by omega) (by omega) (by omega) (by omega)]; omega), if_neg (c := I (ix (T i)) = I 8) (by rw [I_eq (by omega) (by omega) (by omega) (by omega)]; omega), bnd9_some, if_neg (c := ¬ _) (by decide), bnd9_some, if_neg (c := (1 : Int32) = 0) (by decide)]
  · have e : i = n := by omega
    subst e
    rw [XRe _ _ h.1]
    unfold fX6_findFault_j47 fX6_endsNumber
    rw [if_neg (c := (0 : Int32) = 3) (by decide), if_neg (c := (0 : Int32) = 4) (by decide), bnd1_some, if_pos (c := (0 : Int32) = 0) rfl]
    exact Or.inr ⟨by omega, _, rfl⟩
