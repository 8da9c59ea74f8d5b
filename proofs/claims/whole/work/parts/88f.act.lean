/-! a number, an act, a text: both sides -/
theorem numX {T : Nat → Nat} {n m : Nat} {bs tp : Nat → Int32} (h : TOK T n bs) (h9 : TOK T n tp) {i : Nat} (hi : i ≤ n) {k : Nat} (hk : k < 80) (kk : Nat) (hkk : kk < 2) (nl : Int32) (L F G : Nat → Int32) (hz : (if kk = 0 then F k else G k) = 0) :
    (∃ (f : Nat), ∃ q, f ≤ n ∧ XR n m bs i (I (k + 1 : Nat)) 1 nl (if kk = 0 then 0 else 1) 0 L F G = some (I f, q) ∧ ∀ told, ∃ told', fX9_isTold (I kk) (I n) (I i) tp told = some (0, I f, told')) ∨
    (∃ (e : Nat) (st b : Int32) (v : Int) (F' G' : Nat → Int32), i < e ∧ e ≤ n ∧ ((st = 3 ∧ ¬ fig T n e) ∨ st = 4) ∧ XR n m bs i (I (k + 1 : Nat)) 1 nl (if kk = 0 then 0 else 1) 0 L F G = XR n m bs e (I (k + 1 : Nat)) st nl (if kk = 0 then 0 else 1) b L F' G' ∧ (if kk = 0 then F' k = I v ∧ (∀ j, j ≠ k → F' j = F j) ∧ G' = G else G' k = I v ∧ (∀ j, j ≠ k → G' j = G j) ∧ F' = F) ∧ ∀ told, ∃ told', fX9_isTold (I kk) (I n) (I i) tp told = some (1, I e, told') ∧ told' kk = I v ∧ ∀ j, j ≠ kk → told' j = told j) := by
  obtain ⟨s, hs, hsn, hT⟩ := tld9 h9 hi kk hkk (fun _ => 0)
  have hMf : ¬ fig T n (i + s) → ∀ told, ∃ told', fX9_isTold (I kk) (I n) (I i) tp told = some (0, I (i + s : Nat), told') := by
    intro hf told
    obtain ⟨s2, hs2, -, hT2⟩ := tld9 h9 hi kk hkk told
    have e : s2 = s := by omega
    subst e
    rcases hT2 with ⟨-, q⟩ | ⟨q, -⟩
    · exact ⟨_, q⟩
    · exact absurd q hf
  have hMt : ∀ (m v), fig T n (i + s) → ((m = 1 ∧ ¬ fig T n (i + s + 1) ∧ v = hre T n (i + s) - 48) ∨ (m = 2 ∧ fig T n (i + s + 1) ∧ v = 10 * (hre T n (i + s) - 48) + hre T n (i + s + 1) - 48)) → ∀ told, ∃ told', fX9_isTold (I kk) (I n) (I i) tp told = some (1, I (i + s + m : Nat), told') ∧ told' kk = I (if s = 1 then -v else v) ∧ ∀ j, j ≠ kk → told' j = told j := by
    intro m v hf hm told
    obtain ⟨s2, hs2, -, hT2⟩ := tld9 h9 hi kk hkk told
    have e : s2 = s := by omega
    subst e
    rcases hT2 with ⟨q, -⟩ | ⟨-, m2, v2, told', q1, q2, q3, q4⟩
    · exact absurd hf q
    · have em : m2 = m ∧ v2 = v := by
        rcases hm with ⟨a1, a2, a3⟩ | ⟨a1, a2, a3⟩ <;> rcases q1 with ⟨b1, b2, b3⟩ | ⟨b1, b2, b3⟩
        · exact ⟨by omega, by omega⟩
        · exact absurd b2 a2
        · exact absurd a2 b2
        · exact ⟨by omega, by omega⟩
      obtain ⟨rfl, rfl⟩ := em
      exact ⟨told', q2, q3, q4⟩
  -- the class: over the sign
  have hX : ∃ b st : Int32, (b = (if s = 1 then 1 else 0)) ∧ ((st = 1 ∧ hre T n (i + s) ≠ 45) ∨ st = 2) ∧ XR n m bs i (I (k + 1 : Nat)) 1 nl (if kk = 0 then 0 else 1) 0 L F G = XR n m bs (i + s) (I (k + 1 : Nat)) st nl (if kk = 0 then 0 else 1) b L F G := by
    rcases hs with ⟨rfl, h45⟩ | ⟨rfl, h45⟩
    · exact ⟨1, 2, rfl, Or.inr rfl, XR_sign h h45 _ _ _ _ _ _ _⟩
    · exact ⟨0, 1, rfl, Or.inl ⟨rfl, h45⟩, rfl⟩
  obtain ⟨b, st, eb, hst, hX⟩ := hX
  by_cases hf : fig T n (i + s)
  · have hst2 : st = 1 ∨ st = 2 := by
      rcases hst with ⟨q, -⟩ | q
      · exact Or.inl q
      · exact Or.inr q
    have x1 := XR_fig (m := m) h hf hk st 3 nl (if kk = 0 then 0 else 1) b (Or.inl ⟨hst2, rfl⟩) L F G
    have hlt := fig_lt hf
    have val : ∀ d : Int, (if b = 0 then I (d - 48) else I (48 - d)) = I (if s = 1 then -(d - 48) else d - 48) := by
      intro d
      rcases hs with ⟨rfl, -⟩ | ⟨rfl, -⟩
      · rw [eb, if_pos rfl, if_neg (by decide), if_pos rfl]; congr 1; omega
      · rw [eb]; rfl
    rw [val] at x1
    by_cases hf2 : fig T n (i + s + 1)
    · have x2 := XR_fig (m := m) h hf2 hk 3 4 nl (if kk = 0 then 0 else 1) b (Or.inr ⟨rfl, rfl⟩) L (if (if kk = 0 then (0 : Int32) else 1) = 0 then upd F k (F k * 10 + I (if s = 1 then -(hre T n (i + s) - 48) else hre T n (i + s) - 48)) else F) (if (if kk = 0 then (0 : Int32) else 1) = 0 then G else upd G k (G k * 10 + I (if s = 1 then -(hre T n (i + s) - 48) else hre T n (i + s) - 48)))
      rw [val] at x2
      have hlt2 := fig_lt hf2
      refine Or.inr ⟨i + s + 2, 4, b, _, _, _, by omega, by omega, Or.inr rfl, (hX.trans x1).trans x2, ?_, hMt 2 _ hf (Or.inr ⟨rfl, hf2, rfl⟩)⟩
      have k2 : kk = 0 ∨ kk = 1 := by omega
      rcases k2 with rfl | rfl
      · rw [if_pos rfl] at hz ⊢
        simp only [if_pos]
        refine ⟨?_, fun j hj => by rw [upd_o _ _ hj, upd_o _ _ hj], trivial⟩
        rw [upd_s, upd_s, hz, L0, L10, I_mul, I_add, I_mul, I_add]
        congr 1
        split <;> omega
      · rw [if_neg (by decide)] at hz ⊢
        simp only [if_neg (show ¬ (1 = 0) by decide), if_neg (show ¬ ((1 : Int32) = 0) by decide)]
        refine ⟨?_, fun j hj => by rw [upd_o _ _ hj, upd_o _ _ hj], trivial⟩
        rw [upd_s, upd_s, hz, L0, L10, I_mul, I_add, I_mul, I_add]
        congr 1
        split <;> omega
    · refine Or.inr ⟨i + s + 1, 3, b, _, _, _, by omega, by omega, Or.inl ⟨rfl, hf2⟩, hX.trans x1, ?_, hMt 1 _ hf (Or.inl ⟨rfl, hf2, rfl⟩)⟩
      have k2 : kk = 0 ∨ kk = 1 := by omega
      rcases k2 with rfl | rfl
      · rw [if_pos rfl] at hz ⊢
        simp only [if_pos]
        refine ⟨?_, fun j hj => by rw [upd_o _ _ hj], trivial⟩
        rw [upd_s, hz, L0, L10, I_mul, I_add]
        congr 1
        split <;> omega
      · rw [if_neg (by decide)] at hz ⊢
        simp only [if_neg (show ¬ (1 = 0) by decide), if_neg (show ¬ ((1 : Int32) = 0) by decide)]
        refine ⟨?_, fun j hj => by rw [upd_o _ _ hj], trivial⟩
        rw [upd_s, hz, L0, L10, I_mul, I_add]
        congr 1
        split <;> omega
  · obtain ⟨q, x1⟩ := XR_bad (m := m) h hsn hf hk st nl (if kk = 0 then 0 else 1) b hst L F G
    exact Or.inl ⟨i + s, q, hsn, hX.trans x1, hMf hf⟩
/-- an act at a place, as the reference reads it -/
def actM (T : Nat → Nat) (n : Nat) (tp : Nat → Int32) (a e : Nat) (l f g : Int32) : Prop := a < n ∧ a < e ∧ e ≤ n ∧ ix (T a) ≠ -1 ∧ l = I (ix (T a)) ∧ ∀ told, ∃ told', fX9_isAct (I n) (I a) tp told = some (1, I e, told') ∧ told' 0 = f ∧ (mn (T a) = 2 → told' 1 = g)
theorem actJ {T : Nat → Nat} {n m : Nat} {bs tp : Nat → Int32} (h : TOK T n bs) (h9 : TOK T n tp) {a : Nat} (ha : a ≤ n) {k : Nat} (hk : k ≤ a) (nl s b : Int32) (L F G : Nat → Int32) :
    (∃ (f : Nat), ∃ q, f ≤ n ∧ XR n m bs a (I k) 0 nl s b L F G = some (I f, q) ∧ ∀ told, ∃ told', fX9_isAct (I n) (I a) tp told = some (0, I f, told')) ∨
    (∃ (e : Nat) (st s' b' : Int32) (L' F' G' : Nat → Int32), ((st = 3 ∧ ¬ fig T n e) ∨ st = 4) ∧ XR n m bs a (I k) 0 nl s b L F G = XR n m bs e (I (k + 1 : Nat)) st 0 s' b' L' F' G' ∧ (∀ j, j ≠ k → L' j = L j ∧ F' j = F j ∧ G' j = G j) ∧ actM T n tp a e (L' k) (F' k) (G' k)) := by
  have hn := h.1
  have hM0 : ∀ told, fX9_isAct (I n) (I a) tp told = bnd1 (fX9_numbersOf (I (hre T n a))) fun r2 => if r2 = 0 then (some ((0:Int32), I a, told)) else (bnd3 (fX9_isTold (0:Int32) (I n) (I (a + 1 : Nat)) tp told) fun r3 o4 o5 => if r3 = 0 then (some ((0:Int32), o4, o5)) else (if r2 = (1:Int32) then (some ((1:Int32), o4, o5)) else (bnd2 (fX9_isSign (44:Int32) (I n) o4 tp) fun r6 o7 => if r6 = 0 then (some ((0:Int32), o7, o5)) else (bnd3 (fX9_isTold (1:Int32) (I n) o7 tp o5) fun r8 o9 o10 => if r8 = 0 then (some ((0:Int32), o9, o10)) else (some ((1:Int32), o9, o10)))))) := by
    intro told
    unfold fX9_isAct
    have e1 : I a + (1 : Int32) = I (a + 1 : Nat) := by rw [L1, I_add]; rfl
    rw [her9 h9 ha, bnd1_some, e1]
  rcases XR_let (m := m) h ha hk nl s b L F G with ⟨hlt, hx, hX⟩ | ⟨hno, q, hX⟩
  · have hT := h.2 a hlt
    have ht : hre T n a = T a := by unfold hre; rw [if_pos hlt]
    have hmn := mn2 (T a) hx
    have hk80 : k < 80 := by omega
    rcases numX (m := m) h h9 (i := a + 1) (by omega) hk80 0 (by omega) (if mn (T a) = 2 then 1 else 0) (upd L k (I (ix (T a)))) (upd F k 0) (upd G k 0) (by rw [if_pos rfl, upd_s]) with ⟨f, q, fn, x1, x2⟩ | ⟨e, st, b2, v, F', G', e1, e2, e3, x1, x3, x2⟩
    · refine Or.inl ⟨f, q, fn, hX.trans x1, fun told => ?_⟩
      obtain ⟨told', x2⟩ := x2 told
      rw [show I ((0 : Nat) : Int) = 0 from rfl] at x2
      rw [hM0, ht, mnM _ (by omega) (by omega), bnd1_some, if_neg (by rw [L0, I_eq (by omega) (by omega) (by omega) (by omega)]; omega), x2, bnd3_some, if_pos (c := (0 : Int32) = 0) rfl]
      exact ⟨_, rfl⟩
    · rw [if_pos rfl] at x3
      obtain ⟨y1, y2, y3⟩ := x3
      subst y3
      rw [show I ((0 : Nat) : Int) = 0 from rfl] at x2
      rcases hmn with ⟨m2, hi2⟩ | ⟨m1, -, -⟩
      · rw [if_pos m2] at hX x1
        rcases XR_end (m := m) h e2 hk80 st 1 (if (0 : Nat) = 0 then 0 else 1) b2 e3 (Or.inr rfl) (upd L k (I (ix (T a)))) F' (upd G k 0) with ⟨-, q1, -⟩ | ⟨h44, -, x4⟩ | ⟨-, q1, -⟩ | ⟨-, q2, -, q, x4⟩
        · exact absurd q1 (by decide)
        · have hlt2 : e < n := by
            rcases hre_b h e with w | w
            · omega
            · exact w.1
          rcases numX (m := m) h h9 (i := e + 1) (by omega) hk80 1 (by omega) 0 (upd L k (I (ix (T a)))) F' (upd G k 0) (by rw [if_neg (by decide), upd_s]) with ⟨f, q, fn, x5, x6⟩ | ⟨e', st', b', v', F2, G2, e4, e5, e6, x5, x7, x6⟩
          · refine Or.inl ⟨f, q, fn, ((hX.trans x1).trans x4).trans x5, fun told => ?_⟩
            obtain ⟨t1, u1, -, -⟩ := x2 told
            obtain ⟨t2, u2⟩ := x6 t1
            rw [show I ((1 : Nat) : Int) = 1 from rfl] at u2
            have s44 := sgn9 h9 (i := e) (c := 44) (by omega) (by omega) (by omega)
            rw [if_pos h44] at s44
            have e44 : (44 : Int32) = I 44 := by decide +kernel
            rw [hM0, ht, mnM _ (by omega) (by omega), bnd1_some, m2, if_neg (by decide +kernel), u1, bnd3_some, if_neg (c := (1 : Int32) = 0) (by decide), if_neg (by decide +kernel), e44, s44, bnd2_some, if_neg (c := (1 : Int32) = 0) (by decide), u2, bnd3_some, if_pos (c := (0 : Int32) = 0) rfl]
            exact ⟨_, rfl⟩
          · rw [if_neg (by decide)] at x7
            obtain ⟨z1, z2, z3⟩ := x7
            subst z3
            refine Or.inr ⟨e', st', _, b', _, _, _, e6, ((hX.trans x1).trans x4).trans x5, fun j hj => ⟨by rw [upd_o _ _ hj], by rw [y2 j hj, upd_o _ _ hj], by rw [z2 j hj, upd_o _ _ hj]⟩, hlt, by omega, e5, hx, by rw [upd_s], fun told => ?_⟩
            obtain ⟨t1, u1, u3, -⟩ := x2 told
            obtain ⟨t2, u2, u4, u5⟩ := x6 t1
            rw [show I ((1 : Nat) : Int) = 1 from rfl] at u2
            have s44 := sgn9 h9 (i := e) (c := 44) (by omega) (by omega) (by omega)
            rw [if_pos h44] at s44
            have e44 : (44 : Int32) = I 44 := by decide +kernel
            rw [hM0, ht, mnM _ (by omega) (by omega), bnd1_some, m2, if_neg (by decide +kernel), u1, bnd3_some, if_neg (c := (1 : Int32) = 0) (by decide), if_neg (by decide +kernel), e44, s44, bnd2_some, if_neg (c := (1 : Int32) = 0) (by decide), u2, bnd3_some, if_neg (c := (1 : Int32) = 0) (by decide)]
            exact ⟨t2, rfl, by rw [u5 0 (by decide), u3, y1], fun _ => by rw [u4, z1]⟩
        · exact absurd q1 (by decide)
        · refine Or.inl ⟨e, q, e2, (hX.trans x1).trans x4, fun told => ?_⟩
          obtain ⟨t1, u1, -, -⟩ := x2 told
          have s44 := sgn9 h9 (i := e) (c := 44) (by omega) (by omega) (by omega)
          rw [if_neg (fun w => q2 ⟨w, rfl⟩)] at s44
          have e44 : (44 : Int32) = I 44 := by decide +kernel
          rw [hM0, ht, mnM _ (by omega) (by omega), bnd1_some, m2, if_neg (by decide +kernel), u1, bnd3_some, if_neg (c := (1 : Int32) = 0) (by decide), if_neg (by decide +kernel), e44, s44, bnd2_some, if_pos (c := (0 : Int32) = 0) rfl]
          exact ⟨_, rfl⟩
      · rw [if_neg (show ¬ (mn (T a) = 2) by omega)] at hX x1
        refine Or.inr ⟨e, st, _, b2, _, _, _, e3, hX.trans x1, fun j hj => ⟨by rw [upd_o _ _ hj], by rw [y2 j hj, upd_o _ _ hj], by rw [upd_o _ _ hj]⟩, hlt, by omega, e2, hx, by rw [upd_s], fun told => ?_⟩
        obtain ⟨t1, u1, u3, -⟩ := x2 told
        rw [hM0, ht, mnM _ (by omega) (by omega), bnd1_some, m1, if_neg (by decide +kernel), u1, bnd3_some, if_neg (c := (1 : Int32) = 0) (by decide), if_pos (c := I ((1 : Nat) : Int) = 1) rfl]
        exact ⟨t1, rfl, by rw [u3, y1], fun w => absurd w (by omega)⟩
  · refine Or.inl ⟨a, q, ha, hX, fun told => ?_⟩
    have hz : fX9_numbersOf (I (hre T n a)) = some (I 0) := by
      by_cases hlt : a < n
      · have hT := h.2 a hlt
        have ht : hre T n a = T a := by unfold hre; rw [if_pos hlt]
        have hx : ix (T a) = -1 := Classical.byContradiction fun w => hno ⟨hlt, w⟩
        rw [ht, mnM _ (by omega) (by omega)]
        unfold mn
        rw [if_pos hx]; rfl
      · have ht : hre T n a = -1 := by unfold hre; rw [if_neg hlt]
        rw [ht, mnm1]
    rw [hM0, hz, bnd1_some, if_pos (c := I 0 = 0) rfl]
    exact ⟨_, rfl⟩
