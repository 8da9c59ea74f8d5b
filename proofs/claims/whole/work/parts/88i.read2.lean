/-! read -/
theorem redL {T : Nat → Nat} {n : Nat} {bs tp : Nat → Int32} (h9 : TOK T n tp) {L F G : Nat → Int32} {K : Nat} (hK : K ≤ n) : ∀ (r a i : Nat), i + r = K → ((r = 0 ∧ a = n) ∨ Chn T n tp L F G r a i) → ∀ (m1 m2 : Nat) (told : Nat → Int32) (hc1 hc2 d1 d2 fa v l rr o ha hr xa xv xl xo : Int32) (num words g p c1 c2 : Nat → Int32) (done undone : Int32) (slots olds news : Nat → Int32) (und red : Int32) (ch : Nat → Nat → Int32) (sz st nl s b : Int32), FI num words g → CI hc1 c1 hc2 c2 → d2 = d1 → CH num done undone slots olds news und red ch →
    ∃ hc' d' A V LL RR O HA HR n' w' dn' un' sl' ol' ne' c' d9' und' red' A9 V9 L9 O9 hc9' at' gg' ch' p' c9' told', FI n' w' gg' ∧ CI hc' c' hc9' c9' ∧ d9' = d' ∧ CH n' dn' un' sl' ol' ne' und' red' ch' ∧
      ((∃ j : Nat, fX8_read_L27 bs (m1 + r + 1) (I i) hc1 d1 fa v l rr o ha hr num words done undone slots olds news sz (I K) st nl s b L F G c1 = some (.inl (I j, hc', d', A, V, LL, RR, O, HA, HR, n', w', dn', un', sl', ol', ne', c')) ∧ fX9_read_L29 tp (m2 + r + 2) (I i) 1 d2 und red xa xv xl xo hc2 (I n) (I a) g ch p c2 told = some (I j, 0, d9', und', red', A9, V9, L9, O9, hc9', at', gg', ch', p', c9', told')) ∨
       (fX8_read_L27 bs (m1 + r + 1) (I i) hc1 d1 fa v l rr o ha hr num words done undone slots olds news sz (I K) st nl s b L F G c1 = some (.inr (hc', d', A, V, LL, RR, O, HA, HR, n', w', dn', un', sl', ol', ne', c')) ∧ fX9_read_L29 tp (m2 + r + 2) (I i) 1 d2 und red xa xv xl xo hc2 (I n) (I a) g ch p c2 told = some (I K, 1, d9', und', red', A9, V9, L9, O9, hc9', at', gg', ch', p', c9', told'))) := by
  intro r
  have hn := h9.1
  induction r with
  | zero =>
    intro a i hi hc m1 m2 told hc1 hc2 d1 d2 fa v l rr o ha hr xa xv xl xo num words g p c1 c2 done undone slots olds news und red ch sz st nl s b hF hC hd hH
    rcases hc with ⟨-, e⟩ | q
    · have ei : i = K := by omega
      subst ei
      subst e
      have e1 : I i ≤ I i := by rw [I_le (by omega) (by omega) (by omega) (by omega)]; omega
      have e2 : I a ≤ I a := by rw [I_le (by omega) (by omega) (by omega) (by omega)]; omega
      rw [show m1 + 0 + 1 = m1 + 1 by omega, show m2 + 0 + 2 = (m2 + 1) + 1 by omega, fX8_read_L27, fX9_read_L29, if_pos e1, if_neg (c := (1 : Int32) = 0) (by decide), if_pos e2]
      exact ⟨_, _, _, _, _, _, _, _, _, _, _, _, _, _, _, _, _, _, _, _, _, _, _, _, _, _, _, _, _, _, _, hF, hC, hd, hH, Or.inr ⟨rfl, rfl⟩⟩
    · exact q.elim
  | succ r ih =>
    intro a i hi hc m1 m2 told hc1 hc2 d1 d2 fa v l rr o ha hr xa xv xl xo num words g p c1 c2 done undone slots olds news und red ch sz st nl s b hF hC hd hH
    rcases hc with ⟨q, -⟩ | ⟨e, ⟨y1, y2, y3, y4, y5, y6⟩, hnx⟩
    · omega
    · have hi80 : i < 80 := by omega
      have hT := h9.2 a y1
      have hra : hre T n a = T a := by unfold hre; rw [if_pos y1]
      obtain ⟨t1, u1, u2, u3⟩ := y6 told
      have e59 : (59 : Int32) = I 59 := by decide +kernel
      have s59 := sgn9 h9 (i := e) y3 (c := 59) (by omega) (by omega)
      -- where the reference stands behind the act
      have hnext : ∃ a' : Nat, (∃ z : Int32, fX9_isSign (I 59) (I n) (I e) tp = some (z, I a')) ∧ ((r = 0 ∧ a' = n) ∨ Chn T n tp L F G r a' (i + 1)) := by
        rcases hnx with ⟨r0, en⟩ | ⟨h59, hch⟩
        · have hm : hre T n e ≠ 59 := by
            rw [en]; unfold hre; rw [if_neg (by omega)]; decide
          rw [if_neg hm] at s59
          exact ⟨e, ⟨_, s59⟩, Or.inl ⟨r0, en⟩⟩
        · rw [if_pos h59] at s59
          exact ⟨e + 1, ⟨_, s59⟩, Or.inr hch⟩
      obtain ⟨a', ⟨z, s59'⟩, hch⟩ := hnext
      obtain ⟨R, hc', d', A, V, LL, RR, O, HA, HR, n', w', dn', un', sl', ol', ne', c', d9', und', red', A9, V9, L9, O9, hc9', gg', ch', p', c9', f1, f2, f3, f4, f5, f6⟩ := perfJ (t := T a) y4 t1 u2 u3 hc1 hc2 d1 d2 fa v l rr o ha hr xa xv xl xo num words g p c1 c2 done undone slots olds news und red ch hF hC hd hH
      rw [show m1 + (r + 1) + 1 = (m1 + r + 1) + 1 by omega, show m2 + (r + 1) + 2 = (m2 + r + 2) + 1 by omega, fX8_read_L27, fX9_read_L29, if_neg (by rw [I_le (by omega) (by omega) (by omega) (by omega)]; omega), if_neg (by rw [L80, I_le (by omega) (by omega) (by omega) (by omega)]; omega), clN (by omega)]
      simp only [if_neg (g80 hi80)]
      rw [y5, f1, bnd18_some, if_neg (c := (1 : Int32) = 0) (by decide), if_neg (c := I n ≤ I a) (by rw [I_le (by omega) (by omega) (by omega) (by omega)]; omega), her9 h9 (by omega), bnd1_some, hra, u1, bnd3_some, e59, s59', bnd2_some, f2, bnd13_some]
      have hcmp : (-1001 : Int32) < R ↔ ¬ (R ≤ (-1001 : Int32)) := by
        rw [Int32.lt_iff_toInt_lt, Int32.le_iff_toInt_le]; omega
      by_cases c : R ≤ (-1001 : Int32)
      · rw [if_neg (fun q => (hcmp.mp q) c), if_pos c]
        unfold fX9_read_j77
        have e0 : I i + (0 : Int32) = I i := by rw [L0, I_add, Int.add_zero]
        rw [if_pos (c := (0 : Int32) = 0) rfl, e0, show m2 + r + 2 = (m2 + r + 1) + 1 by omega, fX9_read_L29, if_pos (c := (0 : Int32) = 0) rfl]
        exact ⟨_, _, _, _, _, _, _, _, _, _, _, _, _, _, _, _, _, _, _, _, _, _, _, _, _, _, _, _, _, _, _, f3, f4, f5, f6, Or.inl ⟨i, rfl, rfl⟩⟩
      · rw [if_pos (hcmp.mpr c), if_neg c]
        unfold fX9_read_j77
        have e1 : I i + (1 : Int32) = I (i + 1 : Nat) := by rw [L1, I_add]; rfl
        rw [if_neg (c := (1 : Int32) = 0) (by decide), e1]
        exact ih a' (i + 1) (by omega) hch m1 m2 t1 hc' hc9' d' d9' A V LL RR O HA HR A9 V9 L9 O9 n' w' gg' p' c' c9' dn' un' sl' ol' ne' und' red' ch' sz st nl s b f3 f4 f5 f6
theorem p_read (hc1 hc2 d1 d2 fa v l rr o ha hr xa xv xl xo : Int32) (num words g p c1 c2 : Nat → Int32) (done undone : Int32) (slots olds news : Nat → Int32) (und red : Int32) (ch : Nat → Nat → Int32) (sz ac st nl s b : Int32) (bs L F G : Nat → Int32) (tpd at9 : Int32) (tape told : Nat → Int32) (hF : FI num words g) (hC : CI hc1 c1 hc2 c2) (hd : d2 = d1) (hH : CH num done undone slots olds news und red ch) (hT : TI sz bs tpd tape) :
    ∃ R hc' d' A V LL RR O HA HR n' w' dn' un' sl' ol' ne' sz' ac' st' nl' s' b' L' F' G' c' d9' und' red' A9 V9 L9 O9 hc9' tpd' at' gg' ch' p' c9' told', fX8_read hc1 d1 fa v l rr o ha hr num words done undone slots olds news sz ac st nl s b bs L F G c1 = some (R, hc', d', A, V, LL, RR, O, HA, HR, n', w', dn', un', sl', ol', ne', sz', ac', st', nl', s', b', L', F', G', c') ∧ fX9_read d2 und red xa xv xl xo hc2 tpd at9 g ch p c2 tape told = some (R, d9', und', red', A9, V9, L9, O9, hc9', tpd', at', gg', ch', p', c9', told') ∧ FI n' w' gg' ∧ CI hc' c' hc9' c9' ∧ d9' = d' ∧ CH n' dn' un' sl' ol' ne' und' red' ch' ∧ TI sz' bs tpd' tape := by
  obtain ⟨n, hn, rfl, rfl, hb⟩ := hT
  have hch : ∃ T : Nat → Nat, ∀ j, j < n → 32 ≤ T j ∧ T j ≤ 126 ∧ bs j = I (T j) ∧ tape j = I (T j) := by
    have : ∀ j, ∃ c : Nat, j < n → 32 ≤ c ∧ c ≤ 126 ∧ bs j = I c ∧ tape j = I c := by
      intro j
      by_cases c : j < n
      · obtain ⟨cc, h1⟩ := hb j c
        exact ⟨cc, fun _ => h1⟩
      · exact ⟨0, fun q => absurd q c⟩
    exact ⟨fun j => Classical.choose (this j), fun j hj => Classical.choose_spec (this j) hj⟩
  obtain ⟨T, hT⟩ := hch
  have hX : TOK T n bs := ⟨hn, fun j hj => ⟨(hT j hj).1, (hT j hj).2.1, (hT j hj).2.2.1⟩⟩
  have h9 : TOK T n tape := ⟨hn, fun j hj => ⟨(hT j hj).1, (hT j hj).2.1, (hT j hj).2.2.2⟩⟩
  have hff : fX6_findFault (I n) ac st nl s b bs L F G = XR n (99999 - n) bs 0 (I (0 : Nat)) 0 nl s b L F G := by
    unfold fX6_findFault XR
    rw [show 99999 - n + (n - 0) + 1 = FUEL by show _ = 100000; omega]
    rfl
  have hmt : ∀ told, fX9_isText (I n) at9 tape told = bnd3 (bnd3 (fX9_isAct (I n) (I (0 : Nat)) tape told) fun r o2 o3 => fX9_isText_L10 (I n) tape FUEL r o2 o3) fun o9 o10 o11 => if ¬ (o9 = 0 ∨ o9 = 1) then none else some (o9, o10, o11) := by
    intro told
    unfold fX9_isText
    show (bnd3 (fX9_isAct (I n) (0:Int32) tape told) fun r1 o2 o3 => bnd3 (fX9_isText_L10 (I n) tape FUEL r1 o2 o3) fun o9 o10 o11 => if ¬ (o9 = 0 ∨ o9 = 1) then none else some (o9, o10, o11)) = _
    rw [show (0 : Int32) = I ((0 : Nat) : Int) from rfl]
    cases fX9_isAct (I n) (I (0 : Nat)) tape told with
    | none => rfl
    | some q => obtain ⟨q1, q2, q3⟩ := q; rfl
  unfold fX8_read fX9_read
  rw [hff, hmt]
  rcases textJ (m := 99999 - n) hX h9 n 0 (by omega) (by omega) 0 (by omega) nl s b L F G FUEL (by show _ ≤ 100000; omega) told with ⟨f, q, told', x1, x2, x3⟩ | ⟨K, st2, nl2, s2, b2, L2, F2, G2, told', w1, w2, w3, w4, w5, w6⟩
  · obtain ⟨q1, q2, q3, q4, q5, q6, q7, q8⟩ := q
    rw [x1, bnd9_some, x3, bnd3_some, if_neg (c := ¬ _) (by decide), bnd3_some, if_neg (nK (show f < 100000 by omega)), if_pos (c := (0 : Int32) = 0) rfl]
    exact ⟨_, _, _, _, _, _, _, _, _, _, _, _, _, _, _, _, _, _, _, _, _, _, _, _, _, _, _, _, _, _, _, _, _, _, _, _, _, _, _, _, _, _, rfl, rfl, hF, hC, hd, hH, TI_0 _ _⟩
  · rw [w3, bnd9_some, w4, bnd3_some, if_neg (c := ¬ _) (by decide), bnd3_some, if_pos (c := (-1 : Int32) < 0) (by decide), if_neg (c := (1 : Int32) = 0) (by decide)]
    rw [Nat.sub_zero] at w5
    obtain ⟨hc', d', A, V, LL, RR, O, HA, HR, n', w', dn', un', sl', ol', ne', c', d9', und', red', A9, V9, L9, O9, hc9', at', gg', ch', p', c9', told2, f3, f4, f5, f6, hor⟩ := redL (bs := bs) h9 (K := K) w2 K 0 0 (by omega) (Or.inr w5) (99999 - K) (99998 - K) told' hc1 hc2 d1 d2 fa v l rr o ha hr xa xv xl xo num words g p c1 c2 done undone slots olds news und red ch 0 st2 nl2 s2 b2 hF hC hd hH
    rw [show 99999 - K + K + 1 = FUEL by show _ = 100000; omega, show 99998 - K + K + 2 = FUEL by show _ = 100000; omega, show I ((0 : Nat) : Int) = 0 from rfl] at hor
    rcases hor with ⟨j, k1, k2⟩ | ⟨k1, k2⟩
    · rw [k1, bnd1_some, k2, bnd16_some]
      unfold fX9_read_j93
      rw [if_pos (c := (0 : Int32) = 0) rfl]
      exact ⟨_, _, _, _, _, _, _, _, _, _, _, _, _, _, _, _, _, _, _, _, _, _, _, _, _, _, _, _, _, _, _, _, _, _, _, _, _, _, _, _, _, _, rfl, rfl, f3, f4, f5, f6, TI_0 _ _⟩
    · rw [k1, bnd1_some, k2, bnd16_some]
      unfold fX9_read_j93
      rw [if_neg (c := (1 : Int32) = 0) (by decide)]
      exact ⟨_, _, _, _, _, _, _, _, _, _, _, _, _, _, _, _, _, _, _, _, _, _, _, _, _, _, _, _, _, _, _, _, _, _, _, _, _, _, _, _, _, _, rfl, rfl, f3, f4, f5, f6, TI_0 _ _⟩
