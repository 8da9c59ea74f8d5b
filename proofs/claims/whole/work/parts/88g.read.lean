/-! texts whole, and what they do -/
def Chn (T : Nat → Nat) (n : Nat) (tp : Nat → Int32) (L F G : Nat → Int32) : Nat → Nat → Nat → Prop
  | 0, _, _ => False
  | r + 1, a, k => ∃ e, actM T n tp a e (L k) (F k) (G k) ∧ ((r = 0 ∧ e = n) ∨ (hre T n e = 59 ∧ Chn T n tp L F G r (e + 1) (k + 1)))
theorem textJ {T : Nat → Nat} {n m : Nat} {bs tp : Nat → Int32} (h : TOK T n bs) (h9 : TOK T n tp) : ∀ (d a : Nat), n - a ≤ d → a ≤ n → ∀ (k : Nat), k ≤ a → ∀ (nl s b : Int32) (L F G : Nat → Int32) (fu : Nat) (hfu : n - a + 2 ≤ fu) (told : Nat → Int32),
    (∃ (f : Nat), ∃ q told', XR n m bs a (I k) 0 nl s b L F G = some (I f, q) ∧ f ≤ n ∧ (bnd3 (fX9_isAct (I n) (I a) tp told) fun r o2 o3 => fX9_isText_L10 (I n) tp fu r o2 o3) = some (0, I f, told')) ∨
    (∃ (K : Nat) (st nl' s' b' : Int32) (L' F' G' told' : Nat → Int32), k < K ∧ K ≤ n ∧ XR n m bs a (I k) 0 nl s b L F G = some (-1, I K, st, nl', s', b', L', F', G') ∧ (bnd3 (fX9_isAct (I n) (I a) tp told) fun r o2 o3 => fX9_isText_L10 (I n) tp fu r o2 o3) = some (1, I n, told') ∧ Chn T n tp L' F' G' (K - k) a k ∧ ∀ j, j < k → L' j = L j ∧ F' j = F j ∧ G' j = G j) := by
  intro d
  have hn := h.1
  induction d with
  | zero =>
    intro a hd ha k hk nl s b L F G fu hfu told
    have e : a = n := by omega
    subst e
    obtain ⟨fu, rfl⟩ : ∃ f2, fu = f2 + 1 := ⟨fu - 1, by omega⟩
    rcases actJ (m := m) h h9 ha hk nl s b L F G with ⟨f, q, fn, x1, x2⟩ | ⟨e, st, s', b', L', F', G', e1, x1, e2, x2⟩
    · obtain ⟨told', x2⟩ := x2 told
      rw [x2, bnd3_some, fX9_isText_L10, if_pos (c := (0 : Int32) = 0) rfl]
      exact Or.inl ⟨f, q, told', x1, fn, rfl⟩
    · exact absurd x2.1 (by omega)
  | succ d ih =>
    intro a hd ha k hk nl s b L F G fu hfu told
    obtain ⟨fu, rfl⟩ : ∃ f2, fu = f2 + 1 := ⟨fu - 1, by omega⟩
    rcases actJ (m := m) h h9 ha hk nl s b L F G with ⟨f, q, fn, x1, x2⟩ | ⟨e, st, s', b', L', F', G', e1, x1, e2, x2⟩
    · obtain ⟨told', x2⟩ := x2 told
      rw [x2, bnd3_some, fX9_isText_L10, if_pos (c := (0 : Int32) = 0) rfl]
      exact Or.inl ⟨f, q, told', x1, fn, rfl⟩
    · have hact := x2
      obtain ⟨y1, y2, y3, y4, y5, y6⟩ := x2
      obtain ⟨t1, u1, -, -⟩ := y6 told
      have e59 : (59 : Int32) = I 59 := by decide +kernel
      have s59 := sgn9 h9 (i := e) y3 (c := 59) (by omega) (by omega)
      rcases XR_end (m := m) h y3 (show k < 80 by omega) st 0 s' b' e1 (Or.inl rfl) L' F' G' with ⟨q1, -, x4⟩ | ⟨-, q1, -⟩ | ⟨q1, -, x4⟩ | ⟨q1, -, q2, q, x4⟩
      · rw [u1, bnd3_some, fX9_isText_L10, if_neg (c := (1 : Int32) = 0) (by decide), if_pos (by rw [q1, I_le (by omega) (by omega) (by omega) (by omega)]; omega)]
        refine Or.inr ⟨k + 1, st, 0, s', b', L', F', G', t1, by omega, by omega, x1.trans x4, by rw [q1], ?_, fun j hj => e2 j (by omega)⟩
        rw [show k + 1 - k = 0 + 1 by omega]
        exact ⟨e, hact, Or.inl ⟨rfl, q1⟩⟩
      · exact absurd q1 (by decide)
      · have hlt : e < n := by
          rcases hre_b h e with w | w
          · omega
          · exact w.1
        rw [if_pos q1] at s59
        rw [u1, bnd3_some, fX9_isText_L10, if_neg (c := (1 : Int32) = 0) (by decide), if_neg (by rw [I_le (by omega) (by omega) (by omega) (by omega)]; omega), e59, s59, bnd2_some, if_neg (c := (1 : Int32) = 0) (by decide)]
        have hL : ∀ (X : Option (Int32 × Int32 × (Nat → Int32))), (bnd3 X fun r6 o7 o8 => if r6 = 0 then (fX9_isText_L10 (I n) tp fu (0:Int32) o7 o8) else (fX9_isText_L10 (I n) tp fu (1:Int32) o7 o8)) = (bnd3 X fun r6 o7 o8 => if r6 = 0 then (fX9_isText_L10 (I n) tp fu r6 o7 o8) else (fX9_isText_L10 (I n) tp fu (1 : Int32) o7 o8)) := by
          intro X
          cases X with
          | none => rfl
          | some q =>
            obtain ⟨r6, o7, o8⟩ := q
            rw [bnd3_some, bnd3_some]
            by_cases c : r6 = 0
            · rw [if_pos c, if_pos c, c]
            · rw [if_neg c, if_neg c]
        have hR : ∀ (X : Option (Int32 × Int32 × (Nat → Int32))), (∃ o t, X = some (0, o, t)) ∨ (∃ o t, X = some (1, o, t)) → (bnd3 X fun r6 o7 o8 => if r6 = 0 then (fX9_isText_L10 (I n) tp fu (0:Int32) o7 o8) else (fX9_isText_L10 (I n) tp fu (1:Int32) o7 o8)) = (bnd3 X fun r6 o7 o8 => fX9_isText_L10 (I n) tp fu r6 o7 o8) := by
          rintro X (⟨o, t, rfl⟩ | ⟨o, t, rfl⟩)
          · rw [bnd3_some, bnd3_some, if_pos rfl]
          · rw [bnd3_some, bnd3_some, if_neg (c := (1 : Int32) = 0) (by decide)]
        have h01 : (∃ o t, fX9_isAct (I n) (I (e + 1 : Nat)) tp t1 = some (0, o, t)) ∨ (∃ o t, fX9_isAct (I n) (I (e + 1 : Nat)) tp t1 = some (1, o, t)) := by
          rcases actJ (m := m) h h9 (a := e + 1) (by omega) (k := k + 1) (by omega) 0 s' b' L' F' G' with ⟨f, q, fn, w1, w2⟩ | ⟨e', st', s'', b'', L'', F'', G'', w0, w1, w3, w2⟩
          · obtain ⟨told', w2⟩ := w2 t1
            exact Or.inl ⟨_, _, w2⟩
          · obtain ⟨told', w2, -⟩ := w2.2.2.2.2.2 t1
            exact Or.inr ⟨_, _, w2⟩
        rw [hR _ h01]
        rcases ih (e + 1) (by omega) (by omega) (k + 1) (by omega) 0 s' b' L' F' G' fu (by omega) t1 with ⟨f, q, told', w1, w2, w3⟩ | ⟨K, st2, nl2, s2, b2, L2, F2, G2, told', w1, w2, w3, w4, w5, w6⟩
        · exact Or.inl ⟨f, q, told', (x1.trans x4).trans w1, w2, w3⟩
        · refine Or.inr ⟨K, st2, nl2, s2, b2, L2, F2, G2, told', by omega, w2, (x1.trans x4).trans w3, w4, ?_, fun j hj => ?_⟩
          · rw [show K - k = (K - (k + 1)) + 1 by omega]
            obtain ⟨v1, v2, v3⟩ := w6 k (by omega)
            exact ⟨e, by rw [v1, v2, v3]; exact hact, Or.inr ⟨q1, w5⟩⟩
          · obtain ⟨v1, v2, v3⟩ := w6 j (by omega)
            obtain ⟨v4, v5, v6⟩ := e2 j (by omega)
            exact ⟨v1.trans v4, v2.trans v5, v3.trans v6⟩
      · have hne : e ≠ n := fun w => q1 ⟨w, rfl⟩
        obtain ⟨fu, rfl⟩ : ∃ f2, fu = f2 + 1 := ⟨fu - 1, by omega⟩
        rw [if_neg (fun w => q2 ⟨w, rfl⟩)] at s59
        rw [u1, bnd3_some, fX9_isText_L10, if_neg (c := (1 : Int32) = 0) (by decide), if_neg (by rw [I_le (by omega) (by omega) (by omega) (by omega)]; omega), e59, s59, bnd2_some, if_pos (c := (0 : Int32) = 0) rfl, fX9_isText_L10, if_pos (c := (0 : Int32) = 0) rfl]
        exact Or.inl ⟨e, q, _, x1.trans x4, y3, rfl⟩
theorem p_past2 (x v : Int32) (num words g : Nat → Int32) (hF : FI num words g) : ∃ r w' g', fX8_past x v num words = some (r, w') ∧ fX9_past x v g = some (r, g') ∧ FI num w' g' := by
  obtain ⟨k, rfl, k1, k2⟩ := I_ex x
  obtain ⟨v, rfl, v1, v2⟩ := I_ex v
  have hF0 := hF
  obtain ⟨N, W, hV, hW, hn, hw, hg, hp⟩ := hF
  have h0 := hV.1
  have hb := hV.2.1
  have n0 := hn 0 (by omega)
  unfold fX8_past fX9_past
  rw [wordNo _ num (by rw [n0, IT (by omega) (by omega)]; omega), hl8 (hn 1 (by omega)) hb.1 hb.2 v1 v2, hl9 (hg 1 (by omega)) hb.1 hb.2 v1 v2, n0, hg 0 (by omega), IT k1 k2, IT (by omega) (by omega), M1, IJ (z := N 0) (by omega) (by omega), inR9 k 1 (N 0) k1 k2 (by omega) (by omega) (by omega) (by omega)]
  simp only [bnd1_some]
  by_cases c : 1 ≤ k ∧ k ≤ N 0
  · rw [if_pos c, if_neg (c := (1 : Int32) = 0) (by decide), if_pos c, if_neg is1]
    by_cases c2 : v < -pw (N 1 - 1) ∨ pw (N 1 - 1) ≤ v
    · rw [if_pos c2, if_pos is0]
      exact ⟨_, _, _, rfl, rfl, hF0⟩
    · obtain ⟨j, ej⟩ := Int.eq_ofNat_of_zero_le (show 0 ≤ k - 1 by omega)
      have hj : j < 3 := by omega
      have e1 : I k - (1 : Int32) = I j := by rw [L1, I_sub, ej]
      have e2 : (10 : Int32) + I k - (1 : Int32) = I (10 + j : Nat) := by
        rw [L10, L1, I_add, I_sub]; congr 1; omega
      have g1 : ¬ (I j < 0 ∨ 3 ≤ j) := by rw [L0, I_lt (by omega) (by omega) (by omega) (by omega)]; omega
      have g2 : ¬ (I (10 + j : Nat) < 0 ∨ 13 ≤ 10 + j) := by rw [L0, I_lt (by omega) (by omega) (by omega) (by omega)]; omega
      rw [if_neg c2, if_neg is1, e1, e2, clN (by omega), clN (by omega)]
      simp only [if_neg g1, if_neg g2]
      rw [hw j hj, hp j hj]
      refine ⟨_, _, _, rfl, rfl, N, upI W j v, hV, fun q hq => ?_, hn, fun q hq => ?_, fun q hq => ?_, fun q hq => ?_⟩
      · unfold upI
        by_cases e : q = j
        · rw [if_pos e]; unfold hf; omega
        · rw [if_neg e]; exact hW q hq
      · unfold upI upd
        by_cases e : q = j
        · rw [if_pos e, if_pos e]
        · rw [if_neg e, if_neg e]; exact hw q hq
      · rw [upd_o _ _ (by omega)]; exact hg q hq
      · unfold upI upd
        by_cases e : q = j
        · rw [if_pos (by omega), if_pos e]
        · rw [if_neg (by omega), if_neg e]; exact hp q hq
  · rw [if_neg c, if_pos (c := (0 : Int32) = 0) rfl, if_neg c, if_pos is0]
    exact ⟨_, _, _, rfl, rfl, hF0⟩
