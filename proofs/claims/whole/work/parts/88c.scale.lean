/-! scale -/
theorem scaL {N : Nat → Int} (hV : Vl N) {num g : Nat → Int32} (hn : ∀ j, j < 10 → num j = I (N j)) (hg : ∀ j, j < 10 → g j = I (N j)) {b : Int} (b0 : 0 ≤ b) (b1 : b ≤ 20) (fn fw : Nat → Int32) :
    ∀ d k : Nat, k + d = 7 → ∀ (m1 m2 : Nat) (W : Nat → Int) (hW : Wd N W) (words : Nat → Int32) (hw : ∀ k, k < 3 → words k = I (W k)) (a vv l rr o ha hr fd ov : Int32) (q sn : Nat → Int32) (a9 v9 l9 o9 re an : Int32) (p path isR : Nat → Int32),
    (∃ (j : Nat), ∃ t8 t9, fX8_scale_L25 (I b) fn fw (m1 + d + 1) (I k) a vv l rr o ha hr num words fd ov q sn = some (.inl (I j, t8)) ∧ fX9_scale_L16 (I b) g (m2 + d + 1) (I k) a9 v9 l9 o9 re an p path isR = some (.inl (I j, t9))) ∨ (∃ t8 t9, fX8_scale_L25 (I b) fn fw (m1 + d + 1) (I k) a vv l rr o ha hr num words fd ov q sn = some (.inr t8) ∧ fX9_scale_L16 (I b) g (m2 + d + 1) (I k) a9 v9 l9 o9 re an p path isR = some (.inr t9)) := by
  intro d
  have sb := st_b hV
  obtain ⟨S, eS⟩ := Int.eq_ofNat_of_zero_le (show 0 ≤ stN N by omega)
  induction d with
  | zero =>
    intro k h m1 m2 W hW words hw a vv l rr o ha hr fd ov q sn a9 v9 l9 o9 re an p path isR
    have e : k = 7 := by omega
    subst e
    rw [fX8_scale_L25, fX9_scale_L16, tb6, if_pos (by decide +kernel), if_pos (by decide +kernel)]
    exact Or.inr ⟨_, _, rfl, rfl⟩
  | succ d ih =>
    intro k h m1 m2 W hW words hw a vv l rr o ha hr fd ov q sn a9 v9 l9 o9 re an p path isR
    have hB : 0 ≤ b / pw k ∧ b / pw k ≤ 99 := by
      rcases pw_cs (s := (k : Int)) (by omega) (by omega) with ⟨-, e⟩ | ⟨-, e⟩ | ⟨-, e⟩ | ⟨-, e⟩ | ⟨-, e⟩ | ⟨-, e⟩ | ⟨-, e⟩ <;> rw [e] <;> omega
    obtain ⟨q', sn', path', isR', w2, hR, hw2, f1, p', f2⟩ := prep hV hn hg eS (I (b / pw k)) 1 fd ov q sn a vv l rr o ha hr words a9 v9 l9 o9 re an p path isR
    obtain ⟨u1, u2, ov2, q2, sn2, path2, isR2, a2, v2, l2, r2, o2, ha2, hr2, a92, v92, l92, o92, p2, w3, W2, k1, k2, k5, k6⟩ := outS hV hn hg eS (B := b / pw k) hB.1 hB.2 S 0 (by omega) (by omega) (99999 - S) (99999 - S) 1 false q' sn' path' isR' hR _ (Wd0 hV) w2 hw2 a vv l rr o ha hr a9 v9 l9 o9 p'
    rw [show 99999 - S + S + 1 = FUEL by show _ = 100000; omega] at k1 k2
    rw [show m1 + (d + 1) + 1 = (m1 + d + 1) + 1 by omega, show m2 + (d + 1) + 1 = (m2 + d + 1) + 1 by omega, fX8_scale_L25, fX9_scale_L16, tb6, L6, if_neg (by rw [I_lt (by omega) (by omega) (by omega) (by omega)]; omega), if_neg (by rw [I_lt (by omega) (by omega) (by omega) (by omega)]; omega), pw_shr _ _ (by omega) (by omega) (by omega) (by omega), f1, k1, bnd12_some, bnd12_some, f2, k2, bnd9_some, bnd9_some]
    by_cases o0 : bo ov2 = 0
    · rw [if_pos o0, if_pos o0]
      exact Or.inl ⟨k, _, _, rfl, rfl⟩
    · rw [if_neg o0, if_neg o0, L1, I_add]
      exact ih (k + 1) (by omega) m1 m2 W2 k5 w3 k6 _ _ _ _ _ _ _ _ _ _ _ _ _ _ _ _ _ _ _ _
theorem p_scale (x : Int32) (num words g tn tw p : Nat → Int32) (a v l rr o ha hr fd ov : Int32) (q sn : Nat → Int32) (a9 v9 l9 o9 re an : Int32) (path isR : Nat → Int32) (hF : FI num words g) :
    ∃ r, (fX8_scale x num words a v l rr o ha hr tn tw fd ov q sn).map Prod.fst = some r ∧ (fX9_scale x a9 v9 l9 o9 re an g p path isR).map Prod.fst = some r := by
  obtain ⟨x, rfl, x1, x2⟩ := I_ex x
  obtain ⟨N, W, hV, hW, hn, hw, hg, hp⟩ := hF
  unfold fX8_scale fX9_scale
  rw [M0, M20, inR9 x 0 20 x1 x2 (by omega) (by omega) (by omega) (by omega), bnd1_some, L20]
  by_cases c : 0 ≤ x ∧ x ≤ 20
  · rw [if_neg (c := I x < 0) (by rw [L0, I_lt (by omega) (by omega) (by omega) (by omega)]; omega), if_pos (c := I x ≤ I 20) (by rw [I_le (by omega) (by omega) (by omega) (by omega)]; omega), if_pos c, if_neg is1]
    obtain ⟨n', w', e1, b1, b2, -⟩ := tak8 tn tw num words
    have hn' : ∀ j, j < 10 → n' j = I (N j) := fun j hj => (b1 j hj).trans (hn j hj)
    have h := scaL hV hn' hg c.1 c.2 num words 7 0 (by omega) 99992 99992 W hW w' (fun k hk => (b2 k hk).trans (hw k hk)) a v l rr o ha hr fd ov q sn a9 v9 l9 o9 re an p path isR
    rw [show 99992 + 7 + 1 = FUEL from rfl, show I ((0 : Nat) : Int) = 0 from rfl] at h
    rw [e1, bnd2_some]
    rcases h with ⟨j, e8, e9, h1, h2⟩ | ⟨e8, e9, h1, h2⟩
    · rw [h1, h2, bnd1_some, bnd1_some]
      obtain ⟨t1, t2, t3, t4, t5, t6, t7, t8, t9, t10, t11, t12⟩ := e8
      obtain ⟨s1, s2, s3, s4, s5, s6, s7, s8, s9⟩ := e9
      exact ⟨_, rfl, rfl⟩
    · rw [h1, h2, bnd1_some, bnd1_some]
      obtain ⟨t1, t2, t3, t4, t5, t6, t7, t8, t9, t10, t11, t12⟩ := e8
      obtain ⟨s1, s2, s3, s4, s5, s6, s7, s8, s9⟩ := e9
      exact ⟨_, rfl, rfl⟩
  · rw [if_neg c, if_pos is0]
    by_cases cx0 : x < 0
    · rw [if_pos (c := I x < 0) (by rw [L0, I_lt (by omega) (by omega) (by omega) (by omega)]; omega)]
      exact ⟨_, rfl, rfl⟩
    · rw [if_neg (c := I x < 0) (by rw [L0, I_lt (by omega) (by omega) (by omega) (by omega)]; omega), if_neg (c := I x ≤ I 20) (by rw [I_le (by omega) (by omega) (by omega) (by omega)]; omega)]
      exact ⟨_, rfl, rfl⟩
