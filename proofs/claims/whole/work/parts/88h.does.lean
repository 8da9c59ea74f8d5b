/-! what the acts do -/
theorem does_110 (told : Nat → Int32) (done und red xa xv xl xo hc : Int32) (g : Nat → Int32) (ch : Nat → Nat → Int32) (p c : Nat → Int32) : fX9_does (I (110 : Nat)) done und red xa xv xl xo hc g ch p c told = (bnd5 (fX9_set (0:Int32) (0:Int32) (told 0) und red g ch) fun r106 o107 o108 o109 o110 => some (r106, done, o107, o108, xa, xv, xl, xo, hc, o109, o110, p, c)) := rfl
theorem does_98 (told : Nat → Int32) (done und red xa xv xl xo hc : Int32) (g : Nat → Int32) (ch : Nat → Nat → Int32) (p c : Nat → Int32) : fX9_does (I (98 : Nat)) done und red xa xv xl xo hc g ch p c told = (bnd5 (fX9_set (1:Int32) (0:Int32) (told 0) und red g ch) fun r1 o2 o3 o4 o5 => some (r1, done, o2, o3, xa, xv, xl, xo, hc, o4, o5, p, c)) := rfl
theorem does_99 (told : Nat → Int32) (done und red xa xv xl xo hc : Int32) (g : Nat → Int32) (ch : Nat → Nat → Int32) (p c : Nat → Int32) : fX9_does (I (99 : Nat)) done und red xa xv xl xo hc g ch p c told = (bnd5 (fX9_set (2:Int32) (told 0) (told 1) und red g ch) fun r6 o7 o8 o9 o10 => some (r6, done, o7, o8, xa, xv, xl, xo, hc, o9, o10, p, c)) := rfl
theorem does_105 (told : Nat → Int32) (done und red xa xv xl xo hc : Int32) (g : Nat → Int32) (ch : Nat → Nat → Int32) (p c : Nat → Int32) : fX9_does (I (105 : Nat)) done und red xa xv xl xo hc g ch p c told = (bnd5 (fX9_set (3:Int32) (0:Int32) (told 0) und red g ch) fun r61 o62 o63 o64 o65 => some (r61, done, o62, o63, xa, xv, xl, xo, hc, o64, o65, p, c)) := rfl
theorem does_115 (told : Nat → Int32) (done und red xa xv xl xo hc : Int32) (g : Nat → Int32) (ch : Nat → Nat → Int32) (p c : Nat → Int32) : fX9_does (I (115 : Nat)) done und red xa xv xl xo hc g ch p c told = (bnd5 (fX9_set (4:Int32) (0:Int32) (told 0) und red g ch) fun r136 o137 o138 o139 o140 => some (r136, done, o137, o138, xa, xv, xl, xo, hc, o139, o140, p, c)) := rfl
theorem does_114 (told : Nat → Int32) (done und red xa xv xl xo hc : Int32) (g : Nat → Int32) (ch : Nat → Nat → Int32) (p c : Nat → Int32) : fX9_does (I (114 : Nat)) done und red xa xv xl xo hc g ch p c told = (bnd5 (fX9_set (5:Int32) (0:Int32) (told 0) und red g ch) fun r131 o132 o133 o134 o135 => some (r131, done, o132, o133, xa, xv, xl, xo, hc, o134, o135, p, c)) := rfl
theorem does_111 (told : Nat → Int32) (done und red xa xv xl xo hc : Int32) (g : Nat → Int32) (ch : Nat → Nat → Int32) (p c : Nat → Int32) : fX9_does (I (111 : Nat)) done und red xa xv xl xo hc g ch p c told = (bnd5 (fX9_set (6:Int32) (0:Int32) (told 0) und red g ch) fun r111 o112 o113 o114 o115 => some (r111, done, o112, o113, xa, xv, xl, xo, hc, o114, o115, p, c)) := rfl
theorem does_112 (told : Nat → Int32) (done und red xa xv xl xo hc : Int32) (g : Nat → Int32) (ch : Nat → Nat → Int32) (p c : Nat → Int32) : fX9_does (I (112 : Nat)) done und red xa xv xl xo hc g ch p c told = (bnd5 (fX9_set (7:Int32) (0:Int32) (told 0) und red g ch) fun r116 o117 o118 o119 o120 => some (r116, done, o117, o118, xa, xv, xl, xo, hc, o119, o120, p, c)) := rfl
theorem does_121 (told : Nat → Int32) (done und red xa xv xl xo hc : Int32) (g : Nat → Int32) (ch : Nat → Nat → Int32) (p c : Nat → Int32) : fX9_does (I (121 : Nat)) done und red xa xv xl xo hc g ch p c told = (bnd2 (fX9_past (told 0) (told 1) g) fun r191 o192 => some (r191, done, und, red, xa, xv, xl, xo, hc, o192, ch, p, c)) := rfl
theorem does_120 (told : Nat → Int32) (done und red xa xv xl xo hc : Int32) (g : Nat → Int32) (ch : Nat → Nat → Int32) (p c : Nat → Int32) : fX9_does (I (120 : Nat)) done und red xa xv xl xo hc g ch p c told = (bnd10 (fX9_step (told 0) done xa xv xl xo hc g p c) fun r181 o182 o183 o184 o185 o186 o187 o188 o189 o190 => some (r181, o182, und, red, o183, o184, o185, o186, o187, o188, ch, o189, o190)) := rfl
theorem ixl (t : Nat) (h : ix t ≠ -1) : t = 110 ∨ t = 98 ∨ t = 99 ∨ t = 105 ∨ t = 115 ∨ t = 114 ∨ t = 111 ∨ t = 112 ∨ t = 121 ∨ t = 120 := by
  refine Classical.byContradiction fun q => h ?_
  unfold ix
  (repeat' split) <;> omega
theorem perfJ {t : Nat} (ht : ix t ≠ -1) (told : Nat → Int32) {f g' : Int32} (t0 : told 0 = f) (t1 : mn t = 2 → told 1 = g') (hc1 hc2 d1 d2 a v l r o ha hr xa xv xl xo : Int32) (num words g p c1 c2 : Nat → Int32) (done undone : Int32) (slots olds news : Nat → Int32) (und red : Int32) (ch : Nat → Nat → Int32) (hF : FI num words g) (hC : CI hc1 c1 hc2 c2) (hd : d2 = d1) (hH : CH num done undone slots olds news und red ch) :
    ∃ R hc' d' A V L RR O HA HR n' w' dn' un' sl' ol' ne' c' d9' und' red' A9 V9 L9 O9 hc9' gg' ch' p' c9', fX8_perform (I (ix t)) f g' hc1 d1 a v l r o ha hr num words done undone slots olds news c1 = some (R, hc', d', A, V, L, RR, O, HA, HR, n', w', dn', un', sl', ol', ne', c') ∧ fX9_does (I t) d2 und red xa xv xl xo hc2 g ch p c2 told = some (R, d9', und', red', A9, V9, L9, O9, hc9', gg', ch', p', c9') ∧ FI n' w' gg' ∧ CI hc' c' hc9' c9' ∧ d9' = d' ∧ CH n' dn' un' sl' ol' ne' und' red' ch' := by
  subst t0
  rcases ixl t ht with rfl | rfl | rfl | rfl | rfl | rfl | rfl | rfl | rfl | rfl
  · obtain ⟨R, n', w', d', u', sl', ol', ne', und', red', gg', ch', a1, a2, a3, a4⟩ := p_set (0 : Int32) (0 : Int32) (told 0) num words g done undone slots olds news und red ch hF hH
    have hp : fX8_perform (I (ix 110)) (told 0) g' hc1 d1 a v l r o ha hr num words done undone slots olds news c1 = (bnd8 (fX8_set (0 : Int32) (0:Int32) (told 0) num words done undone slots olds news) fun r1 o2 o3 o4 o5 o6 o7 o8 => some (r1, hc1, d1, a, v, l, r, o, ha, hr, o2, o3, o4, o5, o6, o7, o8, c1)) := rfl
    rw [hp, a1, bnd8_some, does_110, a2, bnd5_some]
    exact ⟨_, _, _, _, _, _, _, _, _, _, _, _, _, _, _, _, _, _, _, _, _, _, _, _, _, _, _, _, _, _, rfl, rfl, a3, hC, hd, a4⟩
  · obtain ⟨R, n', w', d', u', sl', ol', ne', und', red', gg', ch', a1, a2, a3, a4⟩ := p_set (1 : Int32) (0 : Int32) (told 0) num words g done undone slots olds news und red ch hF hH
    have hp : fX8_perform (I (ix 98)) (told 0) g' hc1 d1 a v l r o ha hr num words done undone slots olds news c1 = (bnd8 (fX8_set (1 : Int32) (0:Int32) (told 0) num words done undone slots olds news) fun r1 o2 o3 o4 o5 o6 o7 o8 => some (r1, hc1, d1, a, v, l, r, o, ha, hr, o2, o3, o4, o5, o6, o7, o8, c1)) := rfl
    rw [hp, a1, bnd8_some, does_98, a2, bnd5_some]
    exact ⟨_, _, _, _, _, _, _, _, _, _, _, _, _, _, _, _, _, _, _, _, _, _, _, _, _, _, _, _, _, _, rfl, rfl, a3, hC, hd, a4⟩
  · have t1' := t1 rfl
    subst t1'
    obtain ⟨R, n', w', d', u', sl', ol', ne', und', red', gg', ch', a1, a2, a3, a4⟩ := p_set (2 : Int32) (told 0) (told 1) num words g done undone slots olds news und red ch hF hH
    have hp : fX8_perform (I (ix 99)) (told 0) (told 1) hc1 d1 a v l r o ha hr num words done undone slots olds news c1 = (bnd8 (fX8_set (2 : Int32) (told 0) (told 1) num words done undone slots olds news) fun r1 o2 o3 o4 o5 o6 o7 o8 => some (r1, hc1, d1, a, v, l, r, o, ha, hr, o2, o3, o4, o5, o6, o7, o8, c1)) := rfl
    rw [hp, a1, bnd8_some, does_99, a2, bnd5_some]
    exact ⟨_, _, _, _, _, _, _, _, _, _, _, _, _, _, _, _, _, _, _, _, _, _, _, _, _, _, _, _, _, _, rfl, rfl, a3, hC, hd, a4⟩
  · obtain ⟨R, n', w', d', u', sl', ol', ne', und', red', gg', ch', a1, a2, a3, a4⟩ := p_set (3 : Int32) (0 : Int32) (told 0) num words g done undone slots olds news und red ch hF hH
    have hp : fX8_perform (I (ix 105)) (told 0) g' hc1 d1 a v l r o ha hr num words done undone slots olds news c1 = (bnd8 (fX8_set (3 : Int32) (0:Int32) (told 0) num words done undone slots olds news) fun r1 o2 o3 o4 o5 o6 o7 o8 => some (r1, hc1, d1, a, v, l, r, o, ha, hr, o2, o3, o4, o5, o6, o7, o8, c1)) := rfl
    rw [hp, a1, bnd8_some, does_105, a2, bnd5_some]
    exact ⟨_, _, _, _, _, _, _, _, _, _, _, _, _, _, _, _, _, _, _, _, _, _, _, _, _, _, _, _, _, _, rfl, rfl, a3, hC, hd, a4⟩
  · obtain ⟨R, n', w', d', u', sl', ol', ne', und', red', gg', ch', a1, a2, a3, a4⟩ := p_set (4 : Int32) (0 : Int32) (told 0) num words g done undone slots olds news und red ch hF hH
    have hp : fX8_perform (I (ix 115)) (told 0) g' hc1 d1 a v l r o ha hr num words done undone slots olds news c1 = (bnd8 (fX8_set (4 : Int32) (0:Int32) (told 0) num words done undone slots olds news) fun r1 o2 o3 o4 o5 o6 o7 o8 => some (r1, hc1, d1, a, v, l, r, o, ha, hr, o2, o3, o4, o5, o6, o7, o8, c1)) := rfl
    rw [hp, a1, bnd8_some, does_115, a2, bnd5_some]
    exact ⟨_, _, _, _, _, _, _, _, _, _, _, _, _, _, _, _, _, _, _, _, _, _, _, _, _, _, _, _, _, _, rfl, rfl, a3, hC, hd, a4⟩
  · obtain ⟨R, n', w', d', u', sl', ol', ne', und', red', gg', ch', a1, a2, a3, a4⟩ := p_set (5 : Int32) (0 : Int32) (told 0) num words g done undone slots olds news und red ch hF hH
    have hp : fX8_perform (I (ix 114)) (told 0) g' hc1 d1 a v l r o ha hr num words done undone slots olds news c1 = (bnd8 (fX8_set (5 : Int32) (0:Int32) (told 0) num words done undone slots olds news) fun r1 o2 o3 o4 o5 o6 o7 o8 => some (r1, hc1, d1, a, v, l, r, o, ha, hr, o2, o3, o4, o5, o6, o7, o8, c1)) := rfl
    rw [hp, a1, bnd8_some, does_114, a2, bnd5_some]
    exact ⟨_, _, _, _, _, _, _, _, _, _, _, _, _, _, _, _, _, _, _, _, _, _, _, _, _, _, _, _, _, _, rfl, rfl, a3, hC, hd, a4⟩
  · obtain ⟨R, n', w', d', u', sl', ol', ne', und', red', gg', ch', a1, a2, a3, a4⟩ := p_set (6 : Int32) (0 : Int32) (told 0) num words g done undone slots olds news und red ch hF hH
    have hp : fX8_perform (I (ix 111)) (told 0) g' hc1 d1 a v l r o ha hr num words done undone slots olds news c1 = (bnd8 (fX8_set (6 : Int32) (0:Int32) (told 0) num words done undone slots olds news) fun r1 o2 o3 o4 o5 o6 o7 o8 => some (r1, hc1, d1, a, v, l, r, o, ha, hr, o2, o3, o4, o5, o6, o7, o8, c1)) := rfl
    rw [hp, a1, bnd8_some, does_111, a2, bnd5_some]
    exact ⟨_, _, _, _, _, _, _, _, _, _, _, _, _, _, _, _, _, _, _, _, _, _, _, _, _, _, _, _, _, _, rfl, rfl, a3, hC, hd, a4⟩
  · obtain ⟨R, n', w', d', u', sl', ol', ne', und', red', gg', ch', a1, a2, a3, a4⟩ := p_set (7 : Int32) (0 : Int32) (told 0) num words g done undone slots olds news und red ch hF hH
    have hp : fX8_perform (I (ix 112)) (told 0) g' hc1 d1 a v l r o ha hr num words done undone slots olds news c1 = (bnd8 (fX8_set (7 : Int32) (0:Int32) (told 0) num words done undone slots olds news) fun r1 o2 o3 o4 o5 o6 o7 o8 => some (r1, hc1, d1, a, v, l, r, o, ha, hr, o2, o3, o4, o5, o6, o7, o8, c1)) := rfl
    rw [hp, a1, bnd8_some, does_112, a2, bnd5_some]
    exact ⟨_, _, _, _, _, _, _, _, _, _, _, _, _, _, _, _, _, _, _, _, _, _, _, _, _, _, _, _, _, _, rfl, rfl, a3, hC, hd, a4⟩
  · have t1' := t1 rfl
    subst t1'
    obtain ⟨R, w', gg', a1, a2, a3⟩ := p_past2 (told 0) (told 1) num words g hF
    have hp : fX8_perform (I (ix 121)) (told 0) (told 1) hc1 d1 a v l r o ha hr num words done undone slots olds news c1 = (bnd2 (fX8_past (told 0) (told 1) num words) fun r17 o18 => some (r17, hc1, d1, a, v, l, r, o, ha, hr, num, o18, done, undone, slots, olds, news, c1)) := rfl
    rw [hp, a1, bnd2_some, does_121, a2, bnd2_some]
    exact ⟨_, _, _, _, _, _, _, _, _, _, _, _, _, _, _, _, _, _, _, _, _, _, _, _, _, _, _, _, _, _, rfl, rfl, a3, hC, hd, hH⟩
  · obtain ⟨R, hc', d', A, V, L, RR, O, HA, HR, w', c', d9', A9, V9, L9, O9, hc9', gg', p', c9', a1, a2, a3, a4, a5⟩ := p_step (told 0) hc1 hc2 d1 d2 a v l r o ha hr xa xv xl xo num words g p c1 c2 hF hC hd
    have hp : fX8_perform (I (ix 120)) (told 0) g' hc1 d1 a v l r o ha hr num words done undone slots olds news c1 = (bnd12 (fX8_step (told 0) hc1 d1 a v l r o ha hr num words c1) fun r19 o20 o21 o22 o23 o24 o25 o26 o27 o28 o29 o30 => some (r19, o20, o21, o22, o23, o24, o25, o26, o27, o28, num, o29, done, undone, slots, olds, news, o30)) := rfl
    rw [hp, a1, bnd12_some, does_120, a2, bnd10_some]
    exact ⟨_, _, _, _, _, _, _, _, _, _, _, _, _, _, _, _, _, _, _, _, _, _, _, _, _, _, _, _, _, _, rfl, rfl, a3, a4, a5, hH⟩
