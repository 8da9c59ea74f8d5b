set_option maxHeartbeats 40000000 in
set_option maxRecDepth 100000 in
theorem c_X8_quietest (l : Launch) (G : va_G) (cA : Nat → ClassId) (ts : Nat → Nat) (h0 : Nat) (h0_filter : Nat) (h0_filter_numbers : Nat) (h0_filter_words : Nat) (h0_trial : Nat) (h0_trial_numbers : Nat) (h0_trial_words : Nat) (h0_ways : Nat) (h0_ways_by : Nat) (h0_ways_by_numbers : Nat) (h0_ways_by_words : Nat) (h0_ways_onward : Nat) (h0_ways_tails : Nat) (h0_ways_comesTo : Nat) (h0_kept : Nat) (h0_spread : Nat) (h0_course : Nat) (h0_rows : Nat) (h0_changes : Nat) (h0_tape : Nat) (h0_bodies : Nat) (h0_causes : Nat) (x1 : Int32) (x2 : Int32) (s0__hasImage : Int32) (s0__hasCauses : Int32) (s0__stepsDone : Int32) (s0_filter__all : Int32) (s0_filter__v : Int32) (s0_filter__loss : Int32) (s0_filter__result : Int32) (s0_filter__over : Int32) (s0_filter__heldAll : Int32) (s0_filter__heldRounded : Int32) (s0_filter_numbers : Nat → Int32) (s0_filter_words : Nat → Int32) (s0_trial__all : Int32) (s0_trial__v : Int32) (s0_trial__loss : Int32) (s0_trial__result : Int32) (s0_trial__over : Int32) (s0_trial__heldAll : Int32) (s0_trial__heldRounded : Int32) (s0_trial_numbers : Nat → Int32) (s0_trial_words : Nat → Int32) (s0_ways__size : Int32) (s0_ways__told : Int32) (s0_ways__whole : Int32) (s0_ways__anyStuck : Int32) (s0_ways__loudest : Int32) (s0_ways_by__all : Int32) (s0_ways_by__v : Int32) (s0_ways_by__loss : Int32) (s0_ways_by__result : Int32) (s0_ways_by__over : Int32) (s0_ways_by__heldAll : Int32) (s0_ways_by__heldRounded : Int32) (s0_ways_by_numbers : Nat → Int32) (s0_ways_by_words : Nat → Int32) (s0_ways_onward : Nat → Int32) (s0_ways_tails : Nat → Int32) (s0_ways_comesTo : Nat → Int32) (r : Int32) (o0_trial_numbers : Nat → Int32) (o0_trial_words : Nat → Int32) (o0_ways__size : Int32) (o0_ways__told : Int32) (o0_ways__whole : Int32) (o0_ways__anyStuck : Int32) (o0_ways__loudest : Int32) (o0_ways_by__all : Int32) (o0_ways_by__v : Int32) (o0_ways_by__loss : Int32) (o0_ways_by__result : Int32) (o0_ways_by__over : Int32) (o0_ways_by__heldAll : Int32) (o0_ways_by__heldRounded : Int32) (o0_ways_by_numbers : Nat → Int32) (o0_ways_by_words : Nat → Int32) (o0_ways_onward : Nat → Int32) (o0_ways_tails : Nat → Int32) (o0_ways_comesTo : Nat → Int32) (hok : fX8_quietest x1 x2 s0_filter_numbers s0_filter_words s0_trial_numbers s0_trial_words s0_ways__size s0_ways__told s0_ways__whole s0_ways__anyStuck s0_ways__loudest s0_ways_by__all s0_ways_by__v s0_ways_by__loss s0_ways_by__result s0_ways_by__over s0_ways_by__heldAll s0_ways_by__heldRounded s0_ways_by_numbers s0_ways_by_words s0_ways_onward s0_ways_tails s0_ways_comesTo = some (r, o0_trial_numbers, o0_trial_words, o0_ways__size, o0_ways__told, o0_ways__whole, o0_ways__anyStuck, o0_ways__loudest, o0_ways_by__all, o0_ways_by__v, o0_ways_by__loss, o0_ways_by__result, o0_ways_by__over, o0_ways_by__heldAll, o0_ways_by__heldRounded, o0_ways_by_numbers, o0_ways_by_words, o0_ways_onward, o0_ways_tails, o0_ways_comesTo)) : Ct l G cA ts yX8_quietest wsX8_quietest 7 172 [.ref h0, .int x1, .int x2] (wm_X8_quietest cA h0 h0_filter h0_filter_numbers h0_filter_words h0_trial h0_trial_numbers h0_trial_words h0_ways h0_ways_by h0_ways_by_numbers h0_ways_by_words h0_ways_onward h0_ways_tails h0_ways_comesTo h0_kept h0_spread h0_course h0_rows h0_changes h0_tape h0_bodies h0_causes s0__hasImage s0__hasCauses s0__stepsDone s0_filter__all s0_filter__v s0_filter__loss s0_filter__result s0_filter__over s0_filter__heldAll s0_filter__heldRounded s0_filter_numbers s0_filter_words s0_trial__all s0_trial__v s0_trial__loss s0_trial__result s0_trial__over s0_trial__heldAll s0_trial__heldRounded s0_trial_numbers s0_trial_words s0_ways__size s0_ways__told s0_ways__whole s0_ways__anyStuck s0_ways__loudest s0_ways_by__all s0_ways_by__v s0_ways_by__loss s0_ways_by__result s0_ways_by__over s0_ways_by__heldAll s0_ways_by__heldRounded s0_ways_by_numbers s0_ways_by_words s0_ways_onward s0_ways_tails s0_ways_comesTo) (wm_X8_quietest cA h0 h0_filter h0_filter_numbers h0_filter_words h0_trial h0_trial_numbers h0_trial_words h0_ways h0_ways_by h0_ways_by_numbers h0_ways_by_words h0_ways_onward h0_ways_tails h0_ways_comesTo h0_kept h0_spread h0_course h0_rows h0_changes h0_tape h0_bodies h0_causes s0__hasImage s0__hasCauses s0__stepsDone s0_filter__all s0_filter__v s0_filter__loss s0_filter__result s0_filter__over s0_filter__heldAll s0_filter__heldRounded s0_filter_numbers s0_filter_words s0_trial__all s0_trial__v s0_trial__loss s0_trial__result s0_trial__over s0_trial__heldAll s0_trial__heldRounded o0_trial_numbers o0_trial_words o0_ways__size o0_ways__told o0_ways__whole o0_ways__anyStuck o0_ways__loudest o0_ways_by__all o0_ways_by__v o0_ways_by__loss o0_ways_by__result o0_ways_by__over o0_ways_by__heldAll o0_ways_by__heldRounded o0_ways_by_numbers o0_ways_by_words o0_ways_onward o0_ways_tails o0_ways_comesTo) (some (.int r)) := by
  refine Ct.intro (cc := cX8_quietest) (maxL := 7) (ret := some .int) (by decide +kernel) rfl (Nat.le_of_ble_eq_true rfl) ?_
  intro p e s m ar below meth c A Q hx hb hr hml hown hlocks hts hK hZ hA hQ hP hD hS ls hl
  have hown : s.vm.findClass RX8 = some m.cls := hown
  have hinX3 : ∀ w ∈ wsX30, w ∈ wsX8_quietest := fun _ h => List.mem_cons_of_mem _ (List.mem_append_left _ (List.mem_append_right _ (h)))
  have hinX8 : ∀ w ∈ wsX80, w ∈ wsX8_quietest := fun _ h => List.mem_cons_of_mem _ (List.mem_append_left _ (List.mem_append_left _ (List.mem_append_right _ (h))))
  have hl : lv_has ls 7 [(0, .ref h0), (1, .int x1), (2, .int x2)] := hl
  have hP : va_P G vwCl (wm_X8_quietest cA h0 h0_filter h0_filter_numbers h0_filter_words h0_trial h0_trial_numbers h0_trial_words h0_ways h0_ways_by h0_ways_by_numbers h0_ways_by_words h0_ways_onward h0_ways_tails h0_ways_comesTo h0_kept h0_spread h0_course h0_rows h0_changes h0_tape h0_bodies h0_causes s0__hasImage s0__hasCauses s0__stepsDone s0_filter__all s0_filter__v s0_filter__loss s0_filter__result s0_filter__over s0_filter__heldAll s0_filter__heldRounded s0_filter_numbers s0_filter_words s0_trial__all s0_trial__v s0_trial__loss s0_trial__result s0_trial__over s0_trial__heldAll s0_trial__heldRounded s0_trial_numbers s0_trial_words s0_ways__size s0_ways__told s0_ways__whole s0_ways__anyStuck s0_ways__loudest s0_ways_by__all s0_ways_by__v s0_ways_by__loss s0_ways_by__result s0_ways_by__over s0_ways_by__heldAll s0_ways_by__heldRounded s0_ways_by_numbers s0_ways_by_words s0_ways_onward s0_ways_tails s0_ways_comesTo) s.heap := hP
  have hD : va_D A (wm_X8_quietest cA h0 h0_filter h0_filter_numbers h0_filter_words h0_trial h0_trial_numbers h0_trial_words h0_ways h0_ways_by h0_ways_by_numbers h0_ways_by_words h0_ways_onward h0_ways_tails h0_ways_comesTo h0_kept h0_spread h0_course h0_rows h0_changes h0_tape h0_bodies h0_causes s0__hasImage s0__hasCauses s0__stepsDone s0_filter__all s0_filter__v s0_filter__loss s0_filter__result s0_filter__over s0_filter__heldAll s0_filter__heldRounded s0_filter_numbers s0_filter_words s0_trial__all s0_trial__v s0_trial__loss s0_trial__result s0_trial__over s0_trial__heldAll s0_trial__heldRounded s0_trial_numbers s0_trial_words s0_ways__size s0_ways__told s0_ways__whole s0_ways__anyStuck s0_ways__loudest s0_ways_by__all s0_ways_by__v s0_ways_by__loss s0_ways_by__result s0_ways_by__over s0_ways_by__heldAll s0_ways_by__heldRounded s0_ways_by_numbers s0_ways_by_words s0_ways_onward s0_ways_tails s0_ways_comesTo) := hD
  have L_38 : ∀ (n : Nat) (y3 : Int32) (y4 : Int32) (y5 : Int32) (c0_trial_numbers : Nat → Int32) (c0_trial_words : Nat → Int32) (c0_ways__size : Int32) (c0_ways__told : Int32) (c0_ways__whole : Int32) (c0_ways__anyStuck : Int32) (c0_ways__loudest : Int32) (c0_ways_by__all : Int32) (c0_ways_by__v : Int32) (c0_ways_by__loss : Int32) (c0_ways_by__result : Int32) (c0_ways_by__over : Int32) (c0_ways_by__heldAll : Int32) (c0_ways_by__heldRounded : Int32) (c0_ways_by_numbers : Nat → Int32) (c0_ways_by_words : Nat → Int32) (c0_ways_onward : Nat → Int32) (c0_ways_tails : Nat → Int32) (c0_ways_comesTo : Nat → Int32) (p0_0 : Int32) (p0_1 : Int32) (p0_2 : Nat → Int32) (p0_3 : Int32) (p0_4 : Int32) (p0_5 : Int32) (p0_6 : Int32) (p0_7 : Int32) (p0_8 : Int32) (p0_9 : Int32) (p0_10 : Int32) (p0_11 : Int32) (p0_12 : Int32) (p0_13 : Int32) (p0_14 : Int32) (p0_15 : Nat → Int32) (p0_16 : Nat → Int32) (p0_17 : Nat → Int32) (p0_18 : Nat → Int32) (p0_19 : Nat → Int32) (H : Heap) (locs : List Loc) (ls : Array Slot), va_P G vwCl (wm_X8_quietest cA h0 h0_filter h0_filter_numbers h0_filter_words h0_trial h0_trial_numbers h0_trial_words h0_ways h0_ways_by h0_ways_by_numbers h0_ways_by_words h0_ways_onward h0_ways_tails h0_ways_comesTo h0_kept h0_spread h0_course h0_rows h0_changes h0_tape h0_bodies h0_causes s0__hasImage s0__hasCauses s0__stepsDone s0_filter__all s0_filter__v s0_filter__loss s0_filter__result s0_filter__over s0_filter__heldAll s0_filter__heldRounded s0_filter_numbers s0_filter_words s0_trial__all s0_trial__v s0_trial__loss s0_trial__result s0_trial__over s0_trial__heldAll s0_trial__heldRounded c0_trial_numbers c0_trial_words c0_ways__size c0_ways__told c0_ways__whole c0_ways__anyStuck c0_ways__loudest c0_ways_by__all c0_ways_by__v c0_ways_by__loss c0_ways_by__result c0_ways_by__over c0_ways_by__heldAll c0_ways_by__heldRounded c0_ways_by_numbers c0_ways_by_words c0_ways_onward c0_ways_tails c0_ways_comesTo) H → va_D A (wm_X8_quietest cA h0 h0_filter h0_filter_numbers h0_filter_words h0_trial h0_trial_numbers h0_trial_words h0_ways h0_ways_by h0_ways_by_numbers h0_ways_by_words h0_ways_onward h0_ways_tails h0_ways_comesTo h0_kept h0_spread h0_course h0_rows h0_changes h0_tape h0_bodies h0_causes s0__hasImage s0__hasCauses s0__stepsDone s0_filter__all s0_filter__v s0_filter__loss s0_filter__result s0_filter__over s0_filter__heldAll s0_filter__heldRounded s0_filter_numbers s0_filter_words s0_trial__all s0_trial__v s0_trial__loss s0_trial__result s0_trial__over s0_trial__heldAll s0_trial__heldRounded c0_trial_numbers c0_trial_words c0_ways__size c0_ways__told c0_ways__whole c0_ways__anyStuck c0_ways__loudest c0_ways_by__all c0_ways_by__v c0_ways_by__loss c0_ways_by__result c0_ways_by__over c0_ways_by__heldAll c0_ways_by__heldRounded c0_ways_by_numbers c0_ways_by_words c0_ways_onward c0_ways_tails c0_ways_comesTo) → va_S A s.heap H locs → lv_has ls 7 [(0, .ref h0), (1, .int x1), (2, .int x2), (3, .int y3), (4, .int y4), (5, .int y5)] → fX8_quietest_L38 x1 x2 s0_filter_numbers s0_filter_words n y3 y4 y5 c0_trial_numbers c0_trial_words c0_ways__size c0_ways__told c0_ways__whole c0_ways__anyStuck c0_ways__loudest c0_ways_by__all c0_ways_by__v c0_ways_by__loss c0_ways_by__result c0_ways_by__over c0_ways_by__heldAll c0_ways_by__heldRounded c0_ways_by_numbers c0_ways_by_words c0_ways_onward c0_ways_tails c0_ways_comesTo = some (p0_0, p0_1, p0_2, p0_3, p0_4, p0_5, p0_6, p0_7, p0_8, p0_9, p0_10, p0_11, p0_12, p0_13, p0_14, p0_15, p0_16, p0_17, p0_18, p0_19) → (∀ (H : Heap) (locs : List Loc) (ls : Array Slot), va_P G vwCl (wm_X8_quietest cA h0 h0_filter h0_filter_numbers h0_filter_words h0_trial h0_trial_numbers h0_trial_words h0_ways h0_ways_by h0_ways_by_numbers h0_ways_by_words h0_ways_onward h0_ways_tails h0_ways_comesTo h0_kept h0_spread h0_course h0_rows h0_changes h0_tape h0_bodies h0_causes s0__hasImage s0__hasCauses s0__stepsDone s0_filter__all s0_filter__v s0_filter__loss s0_filter__result s0_filter__over s0_filter__heldAll s0_filter__heldRounded s0_filter_numbers s0_filter_words s0_trial__all s0_trial__v s0_trial__loss s0_trial__result s0_trial__over s0_trial__heldAll s0_trial__heldRounded p0_2 c0_trial_words p0_3 p0_4 p0_5 p0_6 p0_7 p0_8 p0_9 p0_10 p0_11 p0_12 p0_13 p0_14 p0_15 p0_16 p0_17 p0_18 p0_19) H → va_D A (wm_X8_quietest cA h0 h0_filter h0_filter_numbers h0_filter_words h0_trial h0_trial_numbers h0_trial_words h0_ways h0_ways_by h0_ways_by_numbers h0_ways_by_words h0_ways_onward h0_ways_tails h0_ways_comesTo h0_kept h0_spread h0_course h0_rows h0_changes h0_tape h0_bodies h0_causes s0__hasImage s0__hasCauses s0__stepsDone s0_filter__all s0_filter__v s0_filter__loss s0_filter__result s0_filter__over s0_filter__heldAll s0_filter__heldRounded s0_filter_numbers s0_filter_words s0_trial__all s0_trial__v s0_trial__loss s0_trial__result s0_trial__over s0_trial__heldAll s0_trial__heldRounded p0_2 c0_trial_words p0_3 p0_4 p0_5 p0_6 p0_7 p0_8 p0_9 p0_10 p0_11 p0_12 p0_13 p0_14 p0_15 p0_16 p0_17 p0_18 p0_19) → va_S A s.heap H locs → lv_has ls 7 [(2, .int x2), (3, .int p0_0), (4, .int p0_1)] → W p l e (rmX 7 172) s m ar below meth c H locs 0 0 Q (F0 m 97 ls [])) → W p l e (rmX 7 172) s m ar below meth c H locs 0 0 Q (F0 m 38 ls []) := by
    intro n
    induction n with
    | zero =>
      intro y3 y4 y5 c0_trial_numbers c0_trial_words c0_ways__size c0_ways__told c0_ways__whole c0_ways__anyStuck c0_ways__loudest c0_ways_by__all c0_ways_by__v c0_ways_by__loss c0_ways_by__result c0_ways_by__over c0_ways_by__heldAll c0_ways_by__heldRounded c0_ways_by_numbers c0_ways_by_words c0_ways_onward c0_ways_tails c0_ways_comesTo p0_0 p0_1 p0_2 p0_3 p0_4 p0_5 p0_6 p0_7 p0_8 p0_9 p0_10 p0_11 p0_12 p0_13 p0_14 p0_15 p0_16 p0_17 p0_18 p0_19 H locs ls hP hD hS hl hok
      rw [fX8_quietest_L38] at hok
      cases hok
    | succ n ih =>
      intro y3 y4 y5 c0_trial_numbers c0_trial_words c0_ways__size c0_ways__told c0_ways__whole c0_ways__anyStuck c0_ways__loudest c0_ways_by__all c0_ways_by__v c0_ways_by__loss c0_ways_by__result c0_ways_by__over c0_ways_by__heldAll c0_ways_by__heldRounded c0_ways_by_numbers c0_ways_by_words c0_ways_onward c0_ways_tails c0_ways_comesTo p0_0 p0_1 p0_2 p0_3 p0_4 p0_5 p0_6 p0_7 p0_8 p0_9 p0_10 p0_11 p0_12 p0_13 p0_14 p0_15 p0_16 p0_17 p0_18 p0_19 H locs ls hP hD hS hl hok K
      rw [fX8_quietest_L38] at hok
      refine lv_iload hx hb dX8_quietest_38 (lv_at hl 5 rfl) ?_
      refine lv_iconst (v := 5) hx hb dX8_quietest_40 (by decide) ?_
      refine lv_icmp_ge (tgt := 97) hx hb dX8_quietest_41 (by decide) (fun c => ?_) (fun c => ?_)
      · replace hok := g_pos hok c
        cases hok
        exact K _ _ _ hP hD hS (lv_sub hl [2, 3, 4] rfl)
      replace hok := g_neg hok c
      refine lv_aload_n hx hb dX8_quietest_44 rfl (lv_at hl 0 rfl) ?_
      refine va_get (ci := 8) (v := .ref h0_trial) (C := RX8) (T := TX8) (N := 14) hx hb hts hinX8 hown hK hP 0 rfl rfl 1 (by decide) (hts _ (List.mem_of_getElem? (i := 1) rfl)) (fun _ h9 => h9) rfl dX8_quietest_45 ?_
      refine va_get (ci := 3) (v := .ref h0_trial_numbers) (C := RX3) (T := TX3) (N := 9) hx hb hts hinX3 hown hK hP 4 rfl rfl 0 (by decide) (hts _ (List.mem_of_getElem? (i := 3) rfl)) (fun _ h9 => h9) rfl dX8_quietest_48 ?_
      refine lv_bipush (v := 7) hx hb dX8_quietest_51 (by decide) ?_
      refine lv_iload hx hb dX8_quietest_53 (lv_at hl 5 rfl) ?_
      refine x_iast (k := 7) hx hb hK hP hD hS 5 0 rfl rfl (show ¬ ((7:Int32) < 0 ∨ 10 ≤ (7:Int32).toNatClampNeg) by decide) (by decide) dX8_quietest_55 (fun H locs hP hD hS => ?_)
      have hP : va_P G vwCl (wm_X8_quietest cA h0 h0_filter h0_filter_numbers h0_filter_words h0_trial h0_trial_numbers h0_trial_words h0_ways h0_ways_by h0_ways_by_numbers h0_ways_by_words h0_ways_onward h0_ways_tails h0_ways_comesTo h0_kept h0_spread h0_course h0_rows h0_changes h0_tape h0_bodies h0_causes s0__hasImage s0__hasCauses s0__stepsDone s0_filter__all s0_filter__v s0_filter__loss s0_filter__result s0_filter__over s0_filter__heldAll s0_filter__heldRounded s0_filter_numbers s0_filter_words s0_trial__all s0_trial__v s0_trial__loss s0_trial__result s0_trial__over s0_trial__heldAll s0_trial__heldRounded (upd c0_trial_numbers 7 y5) c0_trial_words c0_ways__size c0_ways__told c0_ways__whole c0_ways__anyStuck c0_ways__loudest c0_ways_by__all c0_ways_by__v c0_ways_by__loss c0_ways_by__result c0_ways_by__over c0_ways_by__heldAll c0_ways_by__heldRounded c0_ways_by_numbers c0_ways_by_words c0_ways_onward c0_ways_tails c0_ways_comesTo) H := hP
      have hD : va_D A (wm_X8_quietest cA h0 h0_filter h0_filter_numbers h0_filter_words h0_trial h0_trial_numbers h0_trial_words h0_ways h0_ways_by h0_ways_by_numbers h0_ways_by_words h0_ways_onward h0_ways_tails h0_ways_comesTo h0_kept h0_spread h0_course h0_rows h0_changes h0_tape h0_bodies h0_causes s0__hasImage s0__hasCauses s0__stepsDone s0_filter__all s0_filter__v s0_filter__loss s0_filter__result s0_filter__over s0_filter__heldAll s0_filter__heldRounded s0_filter_numbers s0_filter_words s0_trial__all s0_trial__v s0_trial__loss s0_trial__result s0_trial__over s0_trial__heldAll s0_trial__heldRounded (upd c0_trial_numbers 7 y5) c0_trial_words c0_ways__size c0_ways__told c0_ways__whole c0_ways__anyStuck c0_ways__loudest c0_ways_by__all c0_ways_by__v c0_ways_by__loss c0_ways_by__result c0_ways_by__over c0_ways_by__heldAll c0_ways_by__heldRounded c0_ways_by_numbers c0_ways_by_words c0_ways_onward c0_ways_tails c0_ways_comesTo) := hD
      refine lv_aload_n hx hb dX8_quietest_56 rfl (lv_at hl 0 rfl) ?_
      refine va_get (ci := 8) (v := .ref h0_ways) (C := RX8) (T := TX8) (N := 14) hx hb hts hinX8 hown hK hP 0 rfl rfl 4 (by decide) (hts _ (List.mem_of_getElem? (i := 4) rfl)) (fun _ h9 => h9) rfl dX8_quietest_57 ?_
      refine lv_aload_n hx hb dX8_quietest_60 rfl (lv_at hl 0 rfl) ?_
      refine va_get (ci := 8) (v := .ref h0_trial) (C := RX8) (T := TX8) (N := 14) hx hb hts hinX8 hown hK hP 0 rfl rfl 1 (by decide) (hts _ (List.mem_of_getElem? (i := 1) rfl)) (fun _ h9 => h9) rfl dX8_quietest_61 ?_
      refine lv_iload_n hx hb dX8_quietest_64 rfl (lv_at hl 1 rfl) ?_
      obtain ⟨o4, o5, o6, o7, o8, o9, o10, o11, o12, o13, o14, o15, o16, o17, o18, o19, o20, hq, hok⟩ := g_bnd17 hok
      refine cG (is := [7, 8, 9, 10, 11, 12, 13, 4, 5, 6]) (wc := (wm_X7_draw cA h0_ways h0_ways_by h0_ways_by_numbers h0_ways_by_words h0_ways_onward h0_ways_tails h0_ways_comesTo h0_trial h0_trial_numbers h0_trial_words c0_ways__size c0_ways__told c0_ways__whole c0_ways__anyStuck c0_ways__loudest c0_ways_by__all c0_ways_by__v c0_ways_by__loss c0_ways_by__result c0_ways_by__over c0_ways_by__heldAll c0_ways_by__heldRounded c0_ways_by_numbers c0_ways_by_words c0_ways_onward c0_ways_tails c0_ways_comesTo s0_trial__all s0_trial__v s0_trial__loss s0_trial__result s0_trial__over s0_trial__heldAll s0_trial__heldRounded (upd c0_trial_numbers 7 y5) c0_trial_words)) (w1 := (wm_X7_draw cA h0_ways h0_ways_by h0_ways_by_numbers h0_ways_by_words h0_ways_onward h0_ways_tails h0_ways_comesTo h0_trial h0_trial_numbers h0_trial_words o4 o5 o6 o7 o8 o9 o10 o11 o12 o13 o14 o15 o16 o17 o18 o19 o20 s0_trial__all s0_trial__v s0_trial__loss s0_trial__result s0_trial__over s0_trial__heldAll s0_trial__heldRounded (upd c0_trial_numbers 7 y5) c0_trial_words)) (rv := none) (st1 := []) (va_runV (Ts := wsX8_quietest) (As := [.ref h0_trial, .int x1]) (rest := []) ⟨hx, hb, hml, hown, hts⟩ (c_X7_draw l G cA ts h0_ways h0_ways_by h0_ways_by_numbers h0_ways_by_words h0_ways_onward h0_ways_tails h0_ways_comesTo h0_trial h0_trial_numbers h0_trial_words x1 c0_ways__size c0_ways__told c0_ways__whole c0_ways__anyStuck c0_ways__loudest c0_ways_by__all c0_ways_by__v c0_ways_by__loss c0_ways_by__result c0_ways_by__over c0_ways_by__heldAll c0_ways_by__heldRounded c0_ways_by_numbers c0_ways_by_words c0_ways_onward c0_ways_tails c0_ways_comesTo s0_trial__all s0_trial__v s0_trial__loss s0_trial__result s0_trial__over s0_trial__heldAll s0_trial__heldRounded (upd c0_trial_numbers 7 y5) c0_trial_words o4 o5 o6 o7 o8 o9 o10 o11 o12 o13 o14 o15 o16 o17 o18 o19 o20 hq H.size) (cwV 2 hts gX8_quietest_X7_draw rfl rfl rfl (by decide +kernel) ⟨Nat.le_of_ble_eq_true rfl, Nat.le_of_ble_eq_true rfl⟩) (pre_V (ci := 7) (q0 := 7) (is := [7, 8, 9, 10, 11, 12, 13, 4, 5, 6]) rfl rfl hP hD hS hA hK hZ (by decide +kernel) (by rfl)) rfl rfl hl.1 rfl (by exact lv_room (Nat.le_of_ble_eq_true rfl)) dX8_quietest_65 ⟨Nat.le_refl _, Nat.le_refl _⟩) hP hD hS hA (by decide +kernel) (by rfl) (by rfl) rfl (fun H locs hP hD hS => ?_)
      obtain ⟨hP, hD⟩ : va_P G vwCl (wm_X8_quietest cA h0 h0_filter h0_filter_numbers h0_filter_words h0_trial h0_trial_numbers h0_trial_words h0_ways h0_ways_by h0_ways_by_numbers h0_ways_by_words h0_ways_onward h0_ways_tails h0_ways_comesTo h0_kept h0_spread h0_course h0_rows h0_changes h0_tape h0_bodies h0_causes s0__hasImage s0__hasCauses s0__stepsDone s0_filter__all s0_filter__v s0_filter__loss s0_filter__result s0_filter__over s0_filter__heldAll s0_filter__heldRounded s0_filter_numbers s0_filter_words s0_trial__all s0_trial__v s0_trial__loss s0_trial__result s0_trial__over s0_trial__heldAll s0_trial__heldRounded (upd c0_trial_numbers 7 y5) c0_trial_words o4 o5 o6 o7 o8 o9 o10 o11 o12 o13 o14 o15 o16 o17 o18 o19 o20) H ∧ va_D A (wm_X8_quietest cA h0 h0_filter h0_filter_numbers h0_filter_words h0_trial h0_trial_numbers h0_trial_words h0_ways h0_ways_by h0_ways_by_numbers h0_ways_by_words h0_ways_onward h0_ways_tails h0_ways_comesTo h0_kept h0_spread h0_course h0_rows h0_changes h0_tape h0_bodies h0_causes s0__hasImage s0__hasCauses s0__stepsDone s0_filter__all s0_filter__v s0_filter__loss s0_filter__result s0_filter__over s0_filter__heldAll s0_filter__heldRounded s0_filter_numbers s0_filter_words s0_trial__all s0_trial__v s0_trial__loss s0_trial__result s0_trial__over s0_trial__heldAll s0_trial__heldRounded (upd c0_trial_numbers 7 y5) c0_trial_words o4 o5 o6 o7 o8 o9 o10 o11 o12 o13 o14 o15 o16 o17 o18 o19 o20) := PD_eq hP hD (rp_eq (js := [0, 1, 2, 3]) 14 (by decide +kernel) rfl rfl (by rfl) (by rfl) (by decide +kernel))
      refine lv_aload_n hx hb dX8_quietest_68 rfl (lv_at hl 0 rfl) ?_
      refine va_get (ci := 8) (v := .ref h0_ways) (C := RX8) (T := TX8) (N := 14) hx hb hts hinX8 hown hK hP 0 rfl rfl 4 (by decide) (hts _ (List.mem_of_getElem? (i := 4) rfl)) (fun _ h9 => h9) rfl dX8_quietest_69 ?_
      obtain ⟨r21, hq, hok⟩ := g_bnd1 hok
      refine cG (is := [7]) (wc := (wm_X7_is cA h0_ways h0_ways_by h0_ways_onward h0_ways_tails h0_ways_comesTo o4 o5 o6 o7 o8)) (w1 := (wm_X7_is cA h0_ways h0_ways_by h0_ways_onward h0_ways_tails h0_ways_comesTo o4 o5 o6 o7 o8)) (rv := (some (.int r21))) (st1 := [.int r21]) (va_runV (Ts := wsX8_quietest) (As := []) (rest := []) ⟨hx, hb, hml, hown, hts⟩ (c_X7_loudestOfAll l G cA ts h0_ways h0_ways_by h0_ways_onward h0_ways_tails h0_ways_comesTo o4 o5 o6 o7 o8 r21 hq H.size) (cwV 0 hts gX8_quietest_X7_loudestOfAll rfl rfl rfl (by decide +kernel) ⟨Nat.le_of_ble_eq_true rfl, Nat.le_of_ble_eq_true rfl⟩) (pre_V (ci := 7) (q0 := 7) (is := [7]) rfl rfl hP hD hS hA hK hZ (by decide +kernel) (by rfl)) rfl rfl hl.1 rfl (by exact lv_room (Nat.le_of_ble_eq_true rfl)) dX8_quietest_72 ⟨Nat.le_refl _, Nat.le_refl _⟩) hP hD hS hA (by decide +kernel) (by rfl) (by rfl) rfl (fun H locs hP hD hS => ?_)
      have hP : va_P G vwCl (wm_X8_quietest cA h0 h0_filter h0_filter_numbers h0_filter_words h0_trial h0_trial_numbers h0_trial_words h0_ways h0_ways_by h0_ways_by_numbers h0_ways_by_words h0_ways_onward h0_ways_tails h0_ways_comesTo h0_kept h0_spread h0_course h0_rows h0_changes h0_tape h0_bodies h0_causes s0__hasImage s0__hasCauses s0__stepsDone s0_filter__all s0_filter__v s0_filter__loss s0_filter__result s0_filter__over s0_filter__heldAll s0_filter__heldRounded s0_filter_numbers s0_filter_words s0_trial__all s0_trial__v s0_trial__loss s0_trial__result s0_trial__over s0_trial__heldAll s0_trial__heldRounded (upd c0_trial_numbers 7 y5) c0_trial_words o4 o5 o6 o7 o8 o9 o10 o11 o12 o13 o14 o15 o16 o17 o18 o19 o20) H := hP
      have hD : va_D A (wm_X8_quietest cA h0 h0_filter h0_filter_numbers h0_filter_words h0_trial h0_trial_numbers h0_trial_words h0_ways h0_ways_by h0_ways_by_numbers h0_ways_by_words h0_ways_onward h0_ways_tails h0_ways_comesTo h0_kept h0_spread h0_course h0_rows h0_changes h0_tape h0_bodies h0_causes s0__hasImage s0__hasCauses s0__stepsDone s0_filter__all s0_filter__v s0_filter__loss s0_filter__result s0_filter__over s0_filter__heldAll s0_filter__heldRounded s0_filter_numbers s0_filter_words s0_trial__all s0_trial__v s0_trial__loss s0_trial__result s0_trial__over s0_trial__heldAll s0_trial__heldRounded (upd c0_trial_numbers 7 y5) c0_trial_words o4 o5 o6 o7 o8 o9 o10 o11 o12 o13 o14 o15 o16 o17 o18 o19 o20) := hD
      refine lv_istore (lv' := [(6, .int r21), (0, .ref h0), (1, .int x1), (2, .int x2), (3, .int y3), (4, .int y4), (5, .int y5)]) hx hb dX8_quietest_75 hl (by decide) rfl (fun ls hl => ?_)
      refine lv_iload hx hb dX8_quietest_77 (lv_at hl 0 rfl) ?_
      refine lv_iload hx hb dX8_quietest_79 (lv_at hl 5 rfl) ?_
      refine lv_icmp_ge (tgt := 91) hx hb dX8_quietest_81 (by decide) (fun c => ?_) (fun c => ?_)
      · replace hok := g_pos hok c
        refine lv_iinc (v := (y5 + 1)) (lv' := [(5, .int (y5 + 1)), (6, .int r21), (0, .ref h0), (1, .int x1), (2, .int x2), (3, .int y3), (4, .int y4)]) hx hb dX8_quietest_91 hl (k := 6) rfl rfl (by decide) rfl (fun ls hl => ?_)
        refine lv_goto (tgt := 38) hx hb dX8_quietest_94 (by decide) ?_
        exact ih y3 y4 (y5 + 1) (upd c0_trial_numbers 7 y5) c0_trial_words o4 o5 o6 o7 o8 o9 o10 o11 o12 o13 o14 o15 o16 o17 o18 o19 o20 p0_0 p0_1 p0_2 p0_3 p0_4 p0_5 p0_6 p0_7 p0_8 p0_9 p0_10 p0_11 p0_12 p0_13 p0_14 p0_15 p0_16 p0_17 p0_18 p0_19 _ _ _ hP hD hS (lv_sub hl [2, 3, 4, 5, 6, 0] rfl) hok K
      replace hok := g_neg hok c
      refine lv_iload hx hb dX8_quietest_84 (lv_at hl 0 rfl) ?_
      refine lv_istore (lv' := [(4, .int r21), (6, .int r21), (0, .ref h0), (1, .int x1), (2, .int x2), (3, .int y3), (5, .int y5)]) hx hb dX8_quietest_86 hl (by decide) rfl (fun ls hl => ?_)
      refine lv_iload hx hb dX8_quietest_88 (lv_at hl 6 rfl) ?_
      refine lv_istore_n (lv' := [(3, .int y5), (4, .int r21), (6, .int r21), (0, .ref h0), (1, .int x1), (2, .int x2), (5, .int y5)]) hx hb dX8_quietest_90 rfl hl (by decide) rfl (fun ls hl => ?_)
      refine lv_iinc (v := (y5 + 1)) (lv' := [(5, .int (y5 + 1)), (3, .int y5), (4, .int r21), (6, .int r21), (0, .ref h0), (1, .int x1), (2, .int x2)]) hx hb dX8_quietest_91 hl (k := 6) rfl rfl (by decide) rfl (fun ls hl => ?_)
      refine lv_goto (tgt := 38) hx hb dX8_quietest_94 (by decide) ?_
      exact ih y5 r21 (y5 + 1) (upd c0_trial_numbers 7 y5) c0_trial_words o4 o5 o6 o7 o8 o9 o10 o11 o12 o13 o14 o15 o16 o17 o18 o19 o20 p0_0 p0_1 p0_2 p0_3 p0_4 p0_5 p0_6 p0_7 p0_8 p0_9 p0_10 p0_11 p0_12 p0_13 p0_14 p0_15 p0_16 p0_17 p0_18 p0_19 _ _ _ hP hD hS (lv_sub hl [4, 5, 6, 1, 2, 0] rfl) hok K
  unfold fX8_quietest at hok
  refine lv_iload_n hx hb dX8_quietest_0 rfl (lv_at hl 1 rfl) ?_
  obtain ⟨r1, hq, hok⟩ := g_bnd1 hok
  refine cG (is := []) (wc := (wm_X0_find cA)) (w1 := (wm_X0_find cA)) (rv := (some (.int r1))) (st1 := [.int r1]) (va_runS (Ts := wsX8_quietest) (As := [.int x1]) (rest := []) ⟨hx, hb, hml, hown, hts⟩ (c_X8_isInput l G cA ts x1 r1 hq s.heap.size) (va_cwS 1 hts gX8_quietest_X8_isInput rfl rfl rfl (by decide +kernel) ⟨Nat.le_of_ble_eq_true rfl, Nat.le_of_ble_eq_true rfl⟩) (pre_S (is := []) hP hD hS hA hK hZ (by decide +kernel) (by rfl)) rfl rfl hl.1 rfl (by exact lv_room (Nat.le_of_ble_eq_true rfl)) dX8_quietest_1 ⟨Nat.le_refl _, Nat.le_refl _⟩) hP hD hS hA (by decide +kernel) (by rfl) (by rfl) rfl (fun H locs hP hD hS => ?_)
  have hP : va_P G vwCl (wm_X8_quietest cA h0 h0_filter h0_filter_numbers h0_filter_words h0_trial h0_trial_numbers h0_trial_words h0_ways h0_ways_by h0_ways_by_numbers h0_ways_by_words h0_ways_onward h0_ways_tails h0_ways_comesTo h0_kept h0_spread h0_course h0_rows h0_changes h0_tape h0_bodies h0_causes s0__hasImage s0__hasCauses s0__stepsDone s0_filter__all s0_filter__v s0_filter__loss s0_filter__result s0_filter__over s0_filter__heldAll s0_filter__heldRounded s0_filter_numbers s0_filter_words s0_trial__all s0_trial__v s0_trial__loss s0_trial__result s0_trial__over s0_trial__heldAll s0_trial__heldRounded s0_trial_numbers s0_trial_words s0_ways__size s0_ways__told s0_ways__whole s0_ways__anyStuck s0_ways__loudest s0_ways_by__all s0_ways_by__v s0_ways_by__loss s0_ways_by__result s0_ways_by__over s0_ways_by__heldAll s0_ways_by__heldRounded s0_ways_by_numbers s0_ways_by_words s0_ways_onward s0_ways_tails s0_ways_comesTo) H := hP
  have hD : va_D A (wm_X8_quietest cA h0 h0_filter h0_filter_numbers h0_filter_words h0_trial h0_trial_numbers h0_trial_words h0_ways h0_ways_by h0_ways_by_numbers h0_ways_by_words h0_ways_onward h0_ways_tails h0_ways_comesTo h0_kept h0_spread h0_course h0_rows h0_changes h0_tape h0_bodies h0_causes s0__hasImage s0__hasCauses s0__stepsDone s0_filter__all s0_filter__v s0_filter__loss s0_filter__result s0_filter__over s0_filter__heldAll s0_filter__heldRounded s0_filter_numbers s0_filter_words s0_trial__all s0_trial__v s0_trial__loss s0_trial__result s0_trial__over s0_trial__heldAll s0_trial__heldRounded s0_trial_numbers s0_trial_words s0_ways__size s0_ways__told s0_ways__whole s0_ways__anyStuck s0_ways__loudest s0_ways_by__all s0_ways_by__v s0_ways_by__loss s0_ways_by__result s0_ways_by__over s0_ways_by__heldAll s0_ways_by__heldRounded s0_ways_by_numbers s0_ways_by_words s0_ways_onward s0_ways_tails s0_ways_comesTo) := hD
  refine lv_if_eq (tgt := 16) hx hb dX8_quietest_4 (by decide) (fun c => ?_) (fun c => ?_)
  · replace hok := g_pos hok c
    refine lv_iconst (v := -1) hx hb dX8_quietest_16 (by decide) ?_
    obtain ⟨e, hok⟩ := g_pr hok
    try subst e
    obtain ⟨e, hok⟩ := g_pr hok
    try subst e
    obtain ⟨e, hok⟩ := g_pr hok
    try subst e
    obtain ⟨e, hok⟩ := g_pr hok
    try subst e
    obtain ⟨e, hok⟩ := g_pr hok
    try subst e
    obtain ⟨e, hok⟩ := g_pr hok
    try subst e
    obtain ⟨e, hok⟩ := g_pr hok
    try subst e
    obtain ⟨e, hok⟩ := g_pr hok
    try subst e
    obtain ⟨e, hok⟩ := g_pr hok
    try subst e
    obtain ⟨e, hok⟩ := g_pr hok
    try subst e
    obtain ⟨e, hok⟩ := g_pr hok
    try subst e
    obtain ⟨e, hok⟩ := g_pr hok
    try subst e
    obtain ⟨e, hok⟩ := g_pr hok
    try subst e
    obtain ⟨e, hok⟩ := g_pr hok
    try subst e
    obtain ⟨e, hok⟩ := g_pr hok
    try subst e
    obtain ⟨e, hok⟩ := g_pr hok
    try subst e
    obtain ⟨e, hok⟩ := g_pr hok
    try subst e
    obtain ⟨e, hok⟩ := g_pr hok
    try subst e
    obtain ⟨e, hok⟩ := g_pr hok
    try subst e
    cases hok
    exact cr_i hx hb hr hlocks hQ dX8_quietest_17 hP hS
  replace hok := g_neg hok c
  refine lv_iload_n hx hb dX8_quietest_7 rfl (lv_at hl 2 rfl) ?_
  refine lv_if_lt (tgt := 16) hx hb dX8_quietest_8 (by decide) (fun c => ?_) (fun c => ?_)
  · replace hok := g_pos hok c
    refine lv_iconst (v := -1) hx hb dX8_quietest_16 (by decide) ?_
    obtain ⟨e, hok⟩ := g_pr hok
    try subst e
    obtain ⟨e, hok⟩ := g_pr hok
    try subst e
    obtain ⟨e, hok⟩ := g_pr hok
    try subst e
    obtain ⟨e, hok⟩ := g_pr hok
    try subst e
    obtain ⟨e, hok⟩ := g_pr hok
    try subst e
    obtain ⟨e, hok⟩ := g_pr hok
    try subst e
    obtain ⟨e, hok⟩ := g_pr hok
    try subst e
    obtain ⟨e, hok⟩ := g_pr hok
    try subst e
    obtain ⟨e, hok⟩ := g_pr hok
    try subst e
    obtain ⟨e, hok⟩ := g_pr hok
    try subst e
    obtain ⟨e, hok⟩ := g_pr hok
    try subst e
    obtain ⟨e, hok⟩ := g_pr hok
    try subst e
    obtain ⟨e, hok⟩ := g_pr hok
    try subst e
    obtain ⟨e, hok⟩ := g_pr hok
    try subst e
    obtain ⟨e, hok⟩ := g_pr hok
    try subst e
    obtain ⟨e, hok⟩ := g_pr hok
    try subst e
    obtain ⟨e, hok⟩ := g_pr hok
    try subst e
    obtain ⟨e, hok⟩ := g_pr hok
    try subst e
    obtain ⟨e, hok⟩ := g_pr hok
    try subst e
    cases hok
    exact cr_i hx hb hr hlocks hQ dX8_quietest_17 hP hS
  replace hok := g_neg hok c
  refine lv_iload_n hx hb dX8_quietest_11 rfl (lv_at hl 2 rfl) ?_
  refine lv_iconst (v := 1) hx hb dX8_quietest_12 (by decide) ?_
  refine lv_icmp_le (tgt := 18) hx hb dX8_quietest_13 (by decide) (fun c => ?_) (fun c => ?_)
  · replace hok := g_pos hok c
    refine lv_aload_n hx hb dX8_quietest_18 rfl (lv_at hl 0 rfl) ?_
    refine va_get (ci := 8) (v := .ref h0_trial) (C := RX8) (T := TX8) (N := 14) hx hb hts hinX8 hown hK hP 0 rfl rfl 1 (by decide) (hts _ (List.mem_of_getElem? (i := 1) rfl)) (fun _ h9 => h9) rfl dX8_quietest_19 ?_
    refine lv_aload_n hx hb dX8_quietest_22 rfl (lv_at hl 0 rfl) ?_
    refine va_get (ci := 8) (v := .ref h0_filter) (C := RX8) (T := TX8) (N := 14) hx hb hts hinX8 hown hK hP 0 rfl rfl 0 (by decide) (hts _ (List.mem_of_getElem? (i := 2) rfl)) (fun _ h9 => h9) rfl dX8_quietest_23 ?_
    obtain ⟨o2, o3, hq, hok⟩ := g_bnd2 hok
    refine cG (is := [4, 5, 6, 1, 2, 3]) (wc := (wm_X3_take cA h0_trial h0_trial_numbers h0_trial_words h0_filter h0_filter_numbers h0_filter_words s0_trial__all s0_trial__v s0_trial__loss s0_trial__result s0_trial__over s0_trial__heldAll s0_trial__heldRounded s0_trial_numbers s0_trial_words s0_filter__all s0_filter__v s0_filter__loss s0_filter__result s0_filter__over s0_filter__heldAll s0_filter__heldRounded s0_filter_numbers s0_filter_words)) (w1 := (wm_X3_take cA h0_trial h0_trial_numbers h0_trial_words h0_filter h0_filter_numbers h0_filter_words s0_trial__all s0_trial__v s0_trial__loss s0_trial__result s0_trial__over s0_trial__heldAll s0_trial__heldRounded o2 o3 s0_filter__all s0_filter__v s0_filter__loss s0_filter__result s0_filter__over s0_filter__heldAll s0_filter__heldRounded s0_filter_numbers s0_filter_words)) (rv := none) (st1 := []) (va_runV (Ts := wsX8_quietest) (As := [.ref h0_filter]) (rest := []) ⟨hx, hb, hml, hown, hts⟩ (c_X3_take l G cA ts h0_trial h0_trial_numbers h0_trial_words h0_filter h0_filter_numbers h0_filter_words s0_trial__all s0_trial__v s0_trial__loss s0_trial__result s0_trial__over s0_trial__heldAll s0_trial__heldRounded s0_trial_numbers s0_trial_words s0_filter__all s0_filter__v s0_filter__loss s0_filter__result s0_filter__over s0_filter__heldAll s0_filter__heldRounded s0_filter_numbers s0_filter_words o2 o3 hq H.size) (cwV 1 hts gX8_quietest_X3_take rfl rfl rfl (by decide +kernel) ⟨Nat.le_of_ble_eq_true rfl, Nat.le_of_ble_eq_true rfl⟩) (pre_V (ci := 3) (q0 := 4) (is := [4, 5, 6, 1, 2, 3]) rfl rfl hP hD hS hA hK hZ (by decide +kernel) (by rfl)) rfl rfl hl.1 rfl (by exact lv_room (Nat.le_of_ble_eq_true rfl)) dX8_quietest_26 ⟨Nat.le_refl _, Nat.le_refl _⟩) hP hD hS hA (by decide +kernel) (by rfl) (by rfl) rfl (fun H locs hP hD hS => ?_)
    have hP : va_P G vwCl (wm_X8_quietest cA h0 h0_filter h0_filter_numbers h0_filter_words h0_trial h0_trial_numbers h0_trial_words h0_ways h0_ways_by h0_ways_by_numbers h0_ways_by_words h0_ways_onward h0_ways_tails h0_ways_comesTo h0_kept h0_spread h0_course h0_rows h0_changes h0_tape h0_bodies h0_causes s0__hasImage s0__hasCauses s0__stepsDone s0_filter__all s0_filter__v s0_filter__loss s0_filter__result s0_filter__over s0_filter__heldAll s0_filter__heldRounded s0_filter_numbers s0_filter_words s0_trial__all s0_trial__v s0_trial__loss s0_trial__result s0_trial__over s0_trial__heldAll s0_trial__heldRounded o2 o3 s0_ways__size s0_ways__told s0_ways__whole s0_ways__anyStuck s0_ways__loudest s0_ways_by__all s0_ways_by__v s0_ways_by__loss s0_ways_by__result s0_ways_by__over s0_ways_by__heldAll s0_ways_by__heldRounded s0_ways_by_numbers s0_ways_by_words s0_ways_onward s0_ways_tails s0_ways_comesTo) H := hP
    have hD : va_D A (wm_X8_quietest cA h0 h0_filter h0_filter_numbers h0_filter_words h0_trial h0_trial_numbers h0_trial_words h0_ways h0_ways_by h0_ways_by_numbers h0_ways_by_words h0_ways_onward h0_ways_tails h0_ways_comesTo h0_kept h0_spread h0_course h0_rows h0_changes h0_tape h0_bodies h0_causes s0__hasImage s0__hasCauses s0__stepsDone s0_filter__all s0_filter__v s0_filter__loss s0_filter__result s0_filter__over s0_filter__heldAll s0_filter__heldRounded s0_filter_numbers s0_filter_words s0_trial__all s0_trial__v s0_trial__loss s0_trial__result s0_trial__over s0_trial__heldAll s0_trial__heldRounded o2 o3 s0_ways__size s0_ways__told s0_ways__whole s0_ways__anyStuck s0_ways__loudest s0_ways_by__all s0_ways_by__v s0_ways_by__loss s0_ways_by__result s0_ways_by__over s0_ways_by__heldAll s0_ways_by__heldRounded s0_ways_by_numbers s0_ways_by_words s0_ways_onward s0_ways_tails s0_ways_comesTo) := hD
    refine lv_iconst (v := 0) hx hb dX8_quietest_29 (by decide) ?_
    refine lv_istore_n (lv' := [(3, .int (0:Int32)), (0, .ref h0), (1, .int x1), (2, .int x2)]) hx hb dX8_quietest_30 rfl hl (by decide) rfl (fun ls hl => ?_)
    refine lv_bipush (v := 100) hx hb dX8_quietest_31 (by decide) ?_
    refine lv_istore (lv' := [(4, .int (100:Int32)), (3, .int (0:Int32)), (0, .ref h0), (1, .int x1), (2, .int x2)]) hx hb dX8_quietest_33 hl (by decide) rfl (fun ls hl => ?_)
    refine lv_iconst (v := 0) hx hb dX8_quietest_35 (by decide) ?_
    refine lv_istore (lv' := [(5, .int (0:Int32)), (4, .int (100:Int32)), (3, .int (0:Int32)), (0, .ref h0), (1, .int x1), (2, .int x2)]) hx hb dX8_quietest_36 hl (by decide) rfl (fun ls hl => ?_)
    obtain ⟨o22, o23, o24, o25, o26, o27, o28, o29, o30, o31, o32, o33, o34, o35, o36, o37, o38, o39, o40, o41, hq, hok⟩ := g_bnd20 hok
    refine L_38 FUEL (0:Int32) (100:Int32) (0:Int32) o2 o3 s0_ways__size s0_ways__told s0_ways__whole s0_ways__anyStuck s0_ways__loudest s0_ways_by__all s0_ways_by__v s0_ways_by__loss s0_ways_by__result s0_ways_by__over s0_ways_by__heldAll s0_ways_by__heldRounded s0_ways_by_numbers s0_ways_by_words s0_ways_onward s0_ways_tails s0_ways_comesTo o22 o23 o24 o25 o26 o27 o28 o29 o30 o31 o32 o33 o34 o35 o36 o37 o38 o39 o40 o41 _ _ _ hP hD hS (lv_sub hl [3, 4, 5, 2, 1, 0] rfl) hq (fun H locs ls hP hD hS hl => ?_)
    refine lv_iload_n hx hb dX8_quietest_97 rfl (lv_at hl 0 rfl) ?_
    refine lv_if_ne (tgt := 105) hx hb dX8_quietest_98 (by decide) (fun c => ?_) (fun c => ?_)
    · replace hok := g_neg hok c
      refine lv_iload hx hb dX8_quietest_105 (lv_at hl 2 rfl) ?_
      obtain ⟨e, hok⟩ := g_pr hok
      try subst e
      obtain ⟨e, hok⟩ := g_pr hok
      try subst e
      obtain ⟨e, hok⟩ := g_pr hok
      try subst e
      obtain ⟨e, hok⟩ := g_pr hok
      try subst e
      obtain ⟨e, hok⟩ := g_pr hok
      try subst e
      obtain ⟨e, hok⟩ := g_pr hok
      try subst e
      obtain ⟨e, hok⟩ := g_pr hok
      try subst e
      obtain ⟨e, hok⟩ := g_pr hok
      try subst e
      obtain ⟨e, hok⟩ := g_pr hok
      try subst e
      obtain ⟨e, hok⟩ := g_pr hok
      try subst e
      obtain ⟨e, hok⟩ := g_pr hok
      try subst e
      obtain ⟨e, hok⟩ := g_pr hok
      try subst e
      obtain ⟨e, hok⟩ := g_pr hok
      try subst e
      obtain ⟨e, hok⟩ := g_pr hok
      try subst e
      obtain ⟨e, hok⟩ := g_pr hok
      try subst e
      obtain ⟨e, hok⟩ := g_pr hok
      try subst e
      obtain ⟨e, hok⟩ := g_pr hok
      try subst e
      obtain ⟨e, hok⟩ := g_pr hok
      try subst e
      obtain ⟨e, hok⟩ := g_pr hok
      try subst e
      cases hok
      exact cr_i hx hb hr hlocks hQ dX8_quietest_107 hP hS
    replace hok := g_pos hok c
    refine lv_iload_n hx hb dX8_quietest_101 rfl (lv_at hl 1 rfl) ?_
    refine lv_goto (tgt := 107) hx hb dX8_quietest_102 (by decide) ?_
    obtain ⟨e, hok⟩ := g_pr hok
    try subst e
    obtain ⟨e, hok⟩ := g_pr hok
    try subst e
    obtain ⟨e, hok⟩ := g_pr hok
    try subst e
    obtain ⟨e, hok⟩ := g_pr hok
    try subst e
    obtain ⟨e, hok⟩ := g_pr hok
    try subst e
    obtain ⟨e, hok⟩ := g_pr hok
    try subst e
    obtain ⟨e, hok⟩ := g_pr hok
    try subst e
    obtain ⟨e, hok⟩ := g_pr hok
    try subst e
    obtain ⟨e, hok⟩ := g_pr hok
    try subst e
    obtain ⟨e, hok⟩ := g_pr hok
    try subst e
    obtain ⟨e, hok⟩ := g_pr hok
    try subst e
    obtain ⟨e, hok⟩ := g_pr hok
    try subst e
    obtain ⟨e, hok⟩ := g_pr hok
    try subst e
    obtain ⟨e, hok⟩ := g_pr hok
    try subst e
    obtain ⟨e, hok⟩ := g_pr hok
    try subst e
    obtain ⟨e, hok⟩ := g_pr hok
    try subst e
    obtain ⟨e, hok⟩ := g_pr hok
    try subst e
    obtain ⟨e, hok⟩ := g_pr hok
    try subst e
    obtain ⟨e, hok⟩ := g_pr hok
    try subst e
    cases hok
    exact cr_i hx hb hr hlocks hQ dX8_quietest_107 hP hS
  replace hok := g_neg hok c
  refine lv_iconst (v := -1) hx hb dX8_quietest_16 (by decide) ?_
  obtain ⟨e, hok⟩ := g_pr hok
  try subst e
  obtain ⟨e, hok⟩ := g_pr hok
  try subst e
  obtain ⟨e, hok⟩ := g_pr hok
  try subst e
  obtain ⟨e, hok⟩ := g_pr hok
  try subst e
  obtain ⟨e, hok⟩ := g_pr hok
  try subst e
  obtain ⟨e, hok⟩ := g_pr hok
  try subst e
  obtain ⟨e, hok⟩ := g_pr hok
  try subst e
  obtain ⟨e, hok⟩ := g_pr hok
  try subst e
  obtain ⟨e, hok⟩ := g_pr hok
  try subst e
  obtain ⟨e, hok⟩ := g_pr hok
  try subst e
  obtain ⟨e, hok⟩ := g_pr hok
  try subst e
  obtain ⟨e, hok⟩ := g_pr hok
  try subst e
  obtain ⟨e, hok⟩ := g_pr hok
  try subst e
  obtain ⟨e, hok⟩ := g_pr hok
  try subst e
  obtain ⟨e, hok⟩ := g_pr hok
  try subst e
  obtain ⟨e, hok⟩ := g_pr hok
  try subst e
  obtain ⟨e, hok⟩ := g_pr hok
  try subst e
  obtain ⟨e, hok⟩ := g_pr hok
  try subst e
  obtain ⟨e, hok⟩ := g_pr hok
  try subst e
  cases hok
  exact cr_i hx hb hr hlocks hQ dX8_quietest_17 hP hS
set_option maxHeartbeats 40000000 in
set_option maxRecDepth 100000 in
theorem c_X8_tamed (l : Launch) (G : va_G) (cA : Nat → ClassId) (ts : Nat → Nat) (h0 : Nat) (h0_filter : Nat) (h0_filter_numbers : Nat) (h0_filter_words : Nat) (h0_trial : Nat) (h0_trial_numbers : Nat) (h0_trial_words : Nat) (h0_ways : Nat) (h0_ways_by : Nat) (h0_ways_by_numbers : Nat) (h0_ways_by_words : Nat) (h0_ways_onward : Nat) (h0_ways_tails : Nat) (h0_ways_comesTo : Nat) (h0_kept : Nat) (h0_spread : Nat) (h0_course : Nat) (h0_rows : Nat) (h0_changes : Nat) (h0_tape : Nat) (h0_bodies : Nat) (h0_causes : Nat) (x1 : Int32) (x2 : Int32) (s0__hasImage : Int32) (s0__hasCauses : Int32) (s0__stepsDone : Int32) (s0_filter__all : Int32) (s0_filter__v : Int32) (s0_filter__loss : Int32) (s0_filter__result : Int32) (s0_filter__over : Int32) (s0_filter__heldAll : Int32) (s0_filter__heldRounded : Int32) (s0_filter_numbers : Nat → Int32) (s0_filter_words : Nat → Int32) (s0_trial__all : Int32) (s0_trial__v : Int32) (s0_trial__loss : Int32) (s0_trial__result : Int32) (s0_trial__over : Int32) (s0_trial__heldAll : Int32) (s0_trial__heldRounded : Int32) (s0_trial_numbers : Nat → Int32) (s0_trial_words : Nat → Int32) (s0_ways__size : Int32) (s0_ways__told : Int32) (s0_ways__whole : Int32) (s0_ways__anyStuck : Int32) (s0_ways__loudest : Int32) (s0_ways_by__all : Int32) (s0_ways_by__v : Int32) (s0_ways_by__loss : Int32) (s0_ways_by__result : Int32) (s0_ways_by__over : Int32) (s0_ways_by__heldAll : Int32) (s0_ways_by__heldRounded : Int32) (s0_ways_by_numbers : Nat → Int32) (s0_ways_by_words : Nat → Int32) (s0_ways_onward : Nat → Int32) (s0_ways_tails : Nat → Int32) (s0_ways_comesTo : Nat → Int32) (r : Int32) (o0_trial_numbers : Nat → Int32) (o0_trial_words : Nat → Int32) (o0_ways__size : Int32) (o0_ways__told : Int32) (o0_ways__whole : Int32) (o0_ways__anyStuck : Int32) (o0_ways__loudest : Int32) (o0_ways_by__all : Int32) (o0_ways_by__v : Int32) (o0_ways_by__loss : Int32) (o0_ways_by__result : Int32) (o0_ways_by__over : Int32) (o0_ways_by__heldAll : Int32) (o0_ways_by__heldRounded : Int32) (o0_ways_by_numbers : Nat → Int32) (o0_ways_by_words : Nat → Int32) (o0_ways_onward : Nat → Int32) (o0_ways_tails : Nat → Int32) (o0_ways_comesTo : Nat → Int32) (hok : fX8_tamed x1 x2 s0_filter_numbers s0_filter_words s0_trial_numbers s0_trial_words s0_ways__size s0_ways__told s0_ways__whole s0_ways__anyStuck s0_ways__loudest s0_ways_by__all s0_ways_by__v s0_ways_by__loss s0_ways_by__result s0_ways_by__over s0_ways_by__heldAll s0_ways_by__heldRounded s0_ways_by_numbers s0_ways_by_words s0_ways_onward s0_ways_tails s0_ways_comesTo = some (r, o0_trial_numbers, o0_trial_words, o0_ways__size, o0_ways__told, o0_ways__whole, o0_ways__anyStuck, o0_ways__loudest, o0_ways_by__all, o0_ways_by__v, o0_ways_by__loss, o0_ways_by__result, o0_ways_by__over, o0_ways_by__heldAll, o0_ways_by__heldRounded, o0_ways_by_numbers, o0_ways_by_words, o0_ways_onward, o0_ways_tails, o0_ways_comesTo)) : Ct l G cA ts yX8_tamed wsX8_tamed 7 173 [.ref h0, .int x1, .int x2] (wm_X8_quietest cA h0 h0_filter h0_filter_numbers h0_filter_words h0_trial h0_trial_numbers h0_trial_words h0_ways h0_ways_by h0_ways_by_numbers h0_ways_by_words h0_ways_onward h0_ways_tails h0_ways_comesTo h0_kept h0_spread h0_course h0_rows h0_changes h0_tape h0_bodies h0_causes s0__hasImage s0__hasCauses s0__stepsDone s0_filter__all s0_filter__v s0_filter__loss s0_filter__result s0_filter__over s0_filter__heldAll s0_filter__heldRounded s0_filter_numbers s0_filter_words s0_trial__all s0_trial__v s0_trial__loss s0_trial__result s0_trial__over s0_trial__heldAll s0_trial__heldRounded s0_trial_numbers s0_trial_words s0_ways__size s0_ways__told s0_ways__whole s0_ways__anyStuck s0_ways__loudest s0_ways_by__all s0_ways_by__v s0_ways_by__loss s0_ways_by__result s0_ways_by__over s0_ways_by__heldAll s0_ways_by__heldRounded s0_ways_by_numbers s0_ways_by_words s0_ways_onward s0_ways_tails s0_ways_comesTo) (wm_X8_quietest cA h0 h0_filter h0_filter_numbers h0_filter_words h0_trial h0_trial_numbers h0_trial_words h0_ways h0_ways_by h0_ways_by_numbers h0_ways_by_words h0_ways_onward h0_ways_tails h0_ways_comesTo h0_kept h0_spread h0_course h0_rows h0_changes h0_tape h0_bodies h0_causes s0__hasImage s0__hasCauses s0__stepsDone s0_filter__all s0_filter__v s0_filter__loss s0_filter__result s0_filter__over s0_filter__heldAll s0_filter__heldRounded s0_filter_numbers s0_filter_words s0_trial__all s0_trial__v s0_trial__loss s0_trial__result s0_trial__over s0_trial__heldAll s0_trial__heldRounded o0_trial_numbers o0_trial_words o0_ways__size o0_ways__told o0_ways__whole o0_ways__anyStuck o0_ways__loudest o0_ways_by__all o0_ways_by__v o0_ways_by__loss o0_ways_by__result o0_ways_by__over o0_ways_by__heldAll o0_ways_by__heldRounded o0_ways_by_numbers o0_ways_by_words o0_ways_onward o0_ways_tails o0_ways_comesTo) (some (.int r)) := by
  refine Ct.intro (cc := cX8_tamed) (maxL := 4) (ret := some .int) (by decide +kernel) rfl (Nat.le_of_ble_eq_true rfl) ?_
  intro p e s m ar below meth c A Q hx hb hr hml hown hlocks hts hK hZ hA hQ hP hD hS ls hl
  have hown : s.vm.findClass RX8 = some m.cls := hown
  have hinX3 : ∀ w ∈ wsX30, w ∈ wsX8_tamed := fun _ h => List.mem_cons_of_mem _ (List.mem_append_left _ (List.mem_append_right _ (h)))
  have hinX8 : ∀ w ∈ wsX80, w ∈ wsX8_tamed := fun _ h => List.mem_cons_of_mem _ (List.mem_append_left _ (List.mem_append_left _ (List.mem_append_right _ (h))))
  have hl : lv_has ls 4 [(0, .ref h0), (1, .int x1), (2, .int x2)] := hl
  have hP : va_P G vwCl (wm_X8_quietest cA h0 h0_filter h0_filter_numbers h0_filter_words h0_trial h0_trial_numbers h0_trial_words h0_ways h0_ways_by h0_ways_by_numbers h0_ways_by_words h0_ways_onward h0_ways_tails h0_ways_comesTo h0_kept h0_spread h0_course h0_rows h0_changes h0_tape h0_bodies h0_causes s0__hasImage s0__hasCauses s0__stepsDone s0_filter__all s0_filter__v s0_filter__loss s0_filter__result s0_filter__over s0_filter__heldAll s0_filter__heldRounded s0_filter_numbers s0_filter_words s0_trial__all s0_trial__v s0_trial__loss s0_trial__result s0_trial__over s0_trial__heldAll s0_trial__heldRounded s0_trial_numbers s0_trial_words s0_ways__size s0_ways__told s0_ways__whole s0_ways__anyStuck s0_ways__loudest s0_ways_by__all s0_ways_by__v s0_ways_by__loss s0_ways_by__result s0_ways_by__over s0_ways_by__heldAll s0_ways_by__heldRounded s0_ways_by_numbers s0_ways_by_words s0_ways_onward s0_ways_tails s0_ways_comesTo) s.heap := hP
  have hD : va_D A (wm_X8_quietest cA h0 h0_filter h0_filter_numbers h0_filter_words h0_trial h0_trial_numbers h0_trial_words h0_ways h0_ways_by h0_ways_by_numbers h0_ways_by_words h0_ways_onward h0_ways_tails h0_ways_comesTo h0_kept h0_spread h0_course h0_rows h0_changes h0_tape h0_bodies h0_causes s0__hasImage s0__hasCauses s0__stepsDone s0_filter__all s0_filter__v s0_filter__loss s0_filter__result s0_filter__over s0_filter__heldAll s0_filter__heldRounded s0_filter_numbers s0_filter_words s0_trial__all s0_trial__v s0_trial__loss s0_trial__result s0_trial__over s0_trial__heldAll s0_trial__heldRounded s0_trial_numbers s0_trial_words s0_ways__size s0_ways__told s0_ways__whole s0_ways__anyStuck s0_ways__loudest s0_ways_by__all s0_ways_by__v s0_ways_by__loss s0_ways_by__result s0_ways_by__over s0_ways_by__heldAll s0_ways_by__heldRounded s0_ways_by_numbers s0_ways_by_words s0_ways_onward s0_ways_tails s0_ways_comesTo) := hD
  have L_38 : ∀ (n : Nat) (y3 : Int32) (c0_trial_numbers : Nat → Int32) (c0_trial_words : Nat → Int32) (c0_ways__size : Int32) (c0_ways__told : Int32) (c0_ways__whole : Int32) (c0_ways__anyStuck : Int32) (c0_ways__loudest : Int32) (c0_ways_by__all : Int32) (c0_ways_by__v : Int32) (c0_ways_by__loss : Int32) (c0_ways_by__result : Int32) (c0_ways_by__over : Int32) (c0_ways_by__heldAll : Int32) (c0_ways_by__heldRounded : Int32) (c0_ways_by_numbers : Nat → Int32) (c0_ways_by_words : Nat → Int32) (c0_ways_onward : Nat → Int32) (c0_ways_tails : Nat → Int32) (c0_ways_comesTo : Nat → Int32) (oE : ((Int32) × (Nat → Int32) × (Int32) × (Int32) × (Int32) × (Int32) × (Int32) × (Int32) × (Int32) × (Int32) × (Int32) × (Int32) × (Int32) × (Int32) × (Nat → Int32) × (Nat → Int32) × (Nat → Int32) × (Nat → Int32) × (Nat → Int32)) ⊕ ((Nat → Int32) × (Int32) × (Int32) × (Int32) × (Int32) × (Int32) × (Int32) × (Int32) × (Int32) × (Int32) × (Int32) × (Int32) × (Int32) × (Nat → Int32) × (Nat → Int32) × (Nat → Int32) × (Nat → Int32) × (Nat → Int32))) (H : Heap) (locs : List Loc) (ls : Array Slot), va_P G vwCl (wm_X8_quietest cA h0 h0_filter h0_filter_numbers h0_filter_words h0_trial h0_trial_numbers h0_trial_words h0_ways h0_ways_by h0_ways_by_numbers h0_ways_by_words h0_ways_onward h0_ways_tails h0_ways_comesTo h0_kept h0_spread h0_course h0_rows h0_changes h0_tape h0_bodies h0_causes s0__hasImage s0__hasCauses s0__stepsDone s0_filter__all s0_filter__v s0_filter__loss s0_filter__result s0_filter__over s0_filter__heldAll s0_filter__heldRounded s0_filter_numbers s0_filter_words s0_trial__all s0_trial__v s0_trial__loss s0_trial__result s0_trial__over s0_trial__heldAll s0_trial__heldRounded c0_trial_numbers c0_trial_words c0_ways__size c0_ways__told c0_ways__whole c0_ways__anyStuck c0_ways__loudest c0_ways_by__all c0_ways_by__v c0_ways_by__loss c0_ways_by__result c0_ways_by__over c0_ways_by__heldAll c0_ways_by__heldRounded c0_ways_by_numbers c0_ways_by_words c0_ways_onward c0_ways_tails c0_ways_comesTo) H → va_D A (wm_X8_quietest cA h0 h0_filter h0_filter_numbers h0_filter_words h0_trial h0_trial_numbers h0_trial_words h0_ways h0_ways_by h0_ways_by_numbers h0_ways_by_words h0_ways_onward h0_ways_tails h0_ways_comesTo h0_kept h0_spread h0_course h0_rows h0_changes h0_tape h0_bodies h0_causes s0__hasImage s0__hasCauses s0__stepsDone s0_filter__all s0_filter__v s0_filter__loss s0_filter__result s0_filter__over s0_filter__heldAll s0_filter__heldRounded s0_filter_numbers s0_filter_words s0_trial__all s0_trial__v s0_trial__loss s0_trial__result s0_trial__over s0_trial__heldAll s0_trial__heldRounded c0_trial_numbers c0_trial_words c0_ways__size c0_ways__told c0_ways__whole c0_ways__anyStuck c0_ways__loudest c0_ways_by__all c0_ways_by__v c0_ways_by__loss c0_ways_by__result c0_ways_by__over c0_ways_by__heldAll c0_ways_by__heldRounded c0_ways_by_numbers c0_ways_by_words c0_ways_onward c0_ways_tails c0_ways_comesTo) → va_S A s.heap H locs → lv_has ls 4 [(0, .ref h0), (1, .int x1), (2, .int x2), (3, .int y3)] → fX8_tamed_L38 x1 x2 s0_filter_numbers s0_filter_words n y3 c0_trial_numbers c0_trial_words c0_ways__size c0_ways__told c0_ways__whole c0_ways__anyStuck c0_ways__loudest c0_ways_by__all c0_ways_by__v c0_ways_by__loss c0_ways_by__result c0_ways_by__over c0_ways_by__heldAll c0_ways_by__heldRounded c0_ways_by_numbers c0_ways_by_words c0_ways_onward c0_ways_tails c0_ways_comesTo = some oE → (∀ (p0_0 : Int32) (p0_1 : Nat → Int32) (p0_2 : Int32) (p0_3 : Int32) (p0_4 : Int32) (p0_5 : Int32) (p0_6 : Int32) (p0_7 : Int32) (p0_8 : Int32) (p0_9 : Int32) (p0_10 : Int32) (p0_11 : Int32) (p0_12 : Int32) (p0_13 : Int32) (p0_14 : Nat → Int32) (p0_15 : Nat → Int32) (p0_16 : Nat → Int32) (p0_17 : Nat → Int32) (p0_18 : Nat → Int32), oE = .inl (p0_0, p0_1, p0_2, p0_3, p0_4, p0_5, p0_6, p0_7, p0_8, p0_9, p0_10, p0_11, p0_12, p0_13, p0_14, p0_15, p0_16, p0_17, p0_18) → ∀ (H : Heap) (locs : List Loc) (ls : Array Slot), va_P G vwCl (wm_X8_quietest cA h0 h0_filter h0_filter_numbers h0_filter_words h0_trial h0_trial_numbers h0_trial_words h0_ways h0_ways_by h0_ways_by_numbers h0_ways_by_words h0_ways_onward h0_ways_tails h0_ways_comesTo h0_kept h0_spread h0_course h0_rows h0_changes h0_tape h0_bodies h0_causes s0__hasImage s0__hasCauses s0__stepsDone s0_filter__all s0_filter__v s0_filter__loss s0_filter__result s0_filter__over s0_filter__heldAll s0_filter__heldRounded s0_filter_numbers s0_filter_words s0_trial__all s0_trial__v s0_trial__loss s0_trial__result s0_trial__over s0_trial__heldAll s0_trial__heldRounded p0_1 c0_trial_words p0_2 p0_3 p0_4 p0_5 p0_6 p0_7 p0_8 p0_9 p0_10 p0_11 p0_12 p0_13 p0_14 p0_15 p0_16 p0_17 p0_18) H → va_D A (wm_X8_quietest cA h0 h0_filter h0_filter_numbers h0_filter_words h0_trial h0_trial_numbers h0_trial_words h0_ways h0_ways_by h0_ways_by_numbers h0_ways_by_words h0_ways_onward h0_ways_tails h0_ways_comesTo h0_kept h0_spread h0_course h0_rows h0_changes h0_tape h0_bodies h0_causes s0__hasImage s0__hasCauses s0__stepsDone s0_filter__all s0_filter__v s0_filter__loss s0_filter__result s0_filter__over s0_filter__heldAll s0_filter__heldRounded s0_filter_numbers s0_filter_words s0_trial__all s0_trial__v s0_trial__loss s0_trial__result s0_trial__over s0_trial__heldAll s0_trial__heldRounded p0_1 c0_trial_words p0_2 p0_3 p0_4 p0_5 p0_6 p0_7 p0_8 p0_9 p0_10 p0_11 p0_12 p0_13 p0_14 p0_15 p0_16 p0_17 p0_18) → va_S A s.heap H locs → lv_has ls 4 [(3, .int p0_0)] → W p l e (rmX 7 173) s m ar below meth c H locs 0 0 Q (F0 m 73 ls [])) → (∀ (p1_0 : Nat → Int32) (p1_1 : Int32) (p1_2 : Int32) (p1_3 : Int32) (p1_4 : Int32) (p1_5 : Int32) (p1_6 : Int32) (p1_7 : Int32) (p1_8 : Int32) (p1_9 : Int32) (p1_10 : Int32) (p1_11 : Int32) (p1_12 : Int32) (p1_13 : Nat → Int32) (p1_14 : Nat → Int32) (p1_15 : Nat → Int32) (p1_16 : Nat → Int32) (p1_17 : Nat → Int32), oE = .inr ((p1_0, p1_1, p1_2, p1_3, p1_4, p1_5, p1_6, p1_7, p1_8, p1_9, p1_10, p1_11, p1_12, p1_13, p1_14, p1_15, p1_16, p1_17)) → ∀ (H : Heap) (locs : List Loc) (ls : Array Slot), va_P G vwCl (wm_X8_quietest cA h0 h0_filter h0_filter_numbers h0_filter_words h0_trial h0_trial_numbers h0_trial_words h0_ways h0_ways_by h0_ways_by_numbers h0_ways_by_words h0_ways_onward h0_ways_tails h0_ways_comesTo h0_kept h0_spread h0_course h0_rows h0_changes h0_tape h0_bodies h0_causes s0__hasImage s0__hasCauses s0__stepsDone s0_filter__all s0_filter__v s0_filter__loss s0_filter__result s0_filter__over s0_filter__heldAll s0_filter__heldRounded s0_filter_numbers s0_filter_words s0_trial__all s0_trial__v s0_trial__loss s0_trial__result s0_trial__over s0_trial__heldAll s0_trial__heldRounded p1_0 c0_trial_words p1_1 p1_2 p1_3 p1_4 p1_5 p1_6 p1_7 p1_8 p1_9 p1_10 p1_11 p1_12 p1_13 p1_14 p1_15 p1_16 p1_17) H → va_D A (wm_X8_quietest cA h0 h0_filter h0_filter_numbers h0_filter_words h0_trial h0_trial_numbers h0_trial_words h0_ways h0_ways_by h0_ways_by_numbers h0_ways_by_words h0_ways_onward h0_ways_tails h0_ways_comesTo h0_kept h0_spread h0_course h0_rows h0_changes h0_tape h0_bodies h0_causes s0__hasImage s0__hasCauses s0__stepsDone s0_filter__all s0_filter__v s0_filter__loss s0_filter__result s0_filter__over s0_filter__heldAll s0_filter__heldRounded s0_filter_numbers s0_filter_words s0_trial__all s0_trial__v s0_trial__loss s0_trial__result s0_trial__over s0_trial__heldAll s0_trial__heldRounded p1_0 c0_trial_words p1_1 p1_2 p1_3 p1_4 p1_5 p1_6 p1_7 p1_8 p1_9 p1_10 p1_11 p1_12 p1_13 p1_14 p1_15 p1_16 p1_17) → va_S A s.heap H locs → lv_has ls 4 [] → W p l e (rmX 7 173) s m ar below meth c H locs 0 0 Q (F0 m 81 ls [])) → W p l e (rmX 7 173) s m ar below meth c H locs 0 0 Q (F0 m 38 ls []) := by
    intro n
    induction n with
    | zero =>
      intro y3 c0_trial_numbers c0_trial_words c0_ways__size c0_ways__told c0_ways__whole c0_ways__anyStuck c0_ways__loudest c0_ways_by__all c0_ways_by__v c0_ways_by__loss c0_ways_by__result c0_ways_by__over c0_ways_by__heldAll c0_ways_by__heldRounded c0_ways_by_numbers c0_ways_by_words c0_ways_onward c0_ways_tails c0_ways_comesTo oE H locs ls hP hD hS hl hok
      rw [fX8_tamed_L38] at hok
      cases hok
    | succ n ih =>
      intro y3 c0_trial_numbers c0_trial_words c0_ways__size c0_ways__told c0_ways__whole c0_ways__anyStuck c0_ways__loudest c0_ways_by__all c0_ways_by__v c0_ways_by__loss c0_ways_by__result c0_ways_by__over c0_ways_by__heldAll c0_ways_by__heldRounded c0_ways_by_numbers c0_ways_by_words c0_ways_onward c0_ways_tails c0_ways_comesTo oE H locs ls hP hD hS hl hok  K0 K1
      rw [fX8_tamed_L38] at hok
      refine lv_iload_n hx hb dX8_tamed_38 rfl (lv_at hl 3 rfl) ?_
      refine va_gets hx hb hZ.1.1.1.1 hS hown (hts _ (List.mem_of_getElem? (i := 4) rfl)) (fun _ h9 => h9) dX8_tamed_39 ?_
      refine lv_iconst (v := 2) hx hb dX8_tamed_42 (by decide) ?_
      refine va_ti (v := .int (tb tLOW 2)) hx hb hZ.1.1.1.2 hS (show ¬ ((2:Int32) < 0 ∨ 10 ≤ (2:Int32).toNatClampNeg) by decide) rfl dX8_tamed_43 ?_
      refine lv_icmp_lt (tgt := 81) hx hb dX8_tamed_44 (by decide) (fun c => ?_) (fun c => ?_)
      · replace hok := g_pos hok c
        cases hok
        exact K1 _ _ _ _ _ _ _ _ _ _ _ _ _ _ _ _ _ _ rfl _ _ _ hP hD hS (lv_sub hl [] rfl)
      replace hok := g_neg hok c
      refine lv_aload_n hx hb dX8_tamed_47 rfl (lv_at hl 0 rfl) ?_
      refine va_get (ci := 8) (v := .ref h0_trial) (C := RX8) (T := TX8) (N := 14) hx hb hts hinX8 hown hK hP 0 rfl rfl 1 (by decide) (hts _ (List.mem_of_getElem? (i := 1) rfl)) (fun _ h9 => h9) rfl dX8_tamed_48 ?_
      refine va_get (ci := 3) (v := .ref h0_trial_numbers) (C := RX3) (T := TX3) (N := 9) hx hb hts hinX3 hown hK hP 4 rfl rfl 0 (by decide) (hts _ (List.mem_of_getElem? (i := 5) rfl)) (fun _ h9 => h9) rfl dX8_tamed_51 ?_
      refine lv_iconst (v := 2) hx hb dX8_tamed_54 (by decide) ?_
      refine lv_iload_n hx hb dX8_tamed_55 rfl (lv_at hl 3 rfl) ?_
      refine x_iast (k := 2) hx hb hK hP hD hS 5 0 rfl rfl (show ¬ ((2:Int32) < 0 ∨ 10 ≤ (2:Int32).toNatClampNeg) by decide) (by decide) dX8_tamed_56 (fun H locs hP hD hS => ?_)
      have hP : va_P G vwCl (wm_X8_quietest cA h0 h0_filter h0_filter_numbers h0_filter_words h0_trial h0_trial_numbers h0_trial_words h0_ways h0_ways_by h0_ways_by_numbers h0_ways_by_words h0_ways_onward h0_ways_tails h0_ways_comesTo h0_kept h0_spread h0_course h0_rows h0_changes h0_tape h0_bodies h0_causes s0__hasImage s0__hasCauses s0__stepsDone s0_filter__all s0_filter__v s0_filter__loss s0_filter__result s0_filter__over s0_filter__heldAll s0_filter__heldRounded s0_filter_numbers s0_filter_words s0_trial__all s0_trial__v s0_trial__loss s0_trial__result s0_trial__over s0_trial__heldAll s0_trial__heldRounded (upd c0_trial_numbers 2 y3) c0_trial_words c0_ways__size c0_ways__told c0_ways__whole c0_ways__anyStuck c0_ways__loudest c0_ways_by__all c0_ways_by__v c0_ways_by__loss c0_ways_by__result c0_ways_by__over c0_ways_by__heldAll c0_ways_by__heldRounded c0_ways_by_numbers c0_ways_by_words c0_ways_onward c0_ways_tails c0_ways_comesTo) H := hP
      have hD : va_D A (wm_X8_quietest cA h0 h0_filter h0_filter_numbers h0_filter_words h0_trial h0_trial_numbers h0_trial_words h0_ways h0_ways_by h0_ways_by_numbers h0_ways_by_words h0_ways_onward h0_ways_tails h0_ways_comesTo h0_kept h0_spread h0_course h0_rows h0_changes h0_tape h0_bodies h0_causes s0__hasImage s0__hasCauses s0__stepsDone s0_filter__all s0_filter__v s0_filter__loss s0_filter__result s0_filter__over s0_filter__heldAll s0_filter__heldRounded s0_filter_numbers s0_filter_words s0_trial__all s0_trial__v s0_trial__loss s0_trial__result s0_trial__over s0_trial__heldAll s0_trial__heldRounded (upd c0_trial_numbers 2 y3) c0_trial_words c0_ways__size c0_ways__told c0_ways__whole c0_ways__anyStuck c0_ways__loudest c0_ways_by__all c0_ways_by__v c0_ways_by__loss c0_ways_by__result c0_ways_by__over c0_ways_by__heldAll c0_ways_by__heldRounded c0_ways_by_numbers c0_ways_by_words c0_ways_onward c0_ways_tails c0_ways_comesTo) := hD
      refine lv_aload_n hx hb dX8_tamed_57 rfl (lv_at hl 0 rfl) ?_
      refine va_get (ci := 8) (v := .ref h0_ways) (C := RX8) (T := TX8) (N := 14) hx hb hts hinX8 hown hK hP 0 rfl rfl 4 (by decide) (hts _ (List.mem_of_getElem? (i := 6) rfl)) (fun _ h9 => h9) rfl dX8_tamed_58 ?_
      refine lv_aload_n hx hb dX8_tamed_61 rfl (lv_at hl 0 rfl) ?_
      refine va_get (ci := 8) (v := .ref h0_trial) (C := RX8) (T := TX8) (N := 14) hx hb hts hinX8 hown hK hP 0 rfl rfl 1 (by decide) (hts _ (List.mem_of_getElem? (i := 1) rfl)) (fun _ h9 => h9) rfl dX8_tamed_62 ?_
      refine lv_iload_n hx hb dX8_tamed_65 rfl (lv_at hl 1 rfl) ?_
      refine lv_iload_n hx hb dX8_tamed_66 rfl (lv_at hl 2 rfl) ?_
      obtain ⟨r4, o5, o6, o7, o8, o9, o10, o11, o12, o13, o14, o15, o16, o17, o18, o19, o20, o21, hq, hok⟩ := g_bnd18 hok
      refine cG (is := [7, 8, 9, 10, 11, 12, 13, 4, 5, 6]) (wc := (wm_X7_draw cA h0_ways h0_ways_by h0_ways_by_numbers h0_ways_by_words h0_ways_onward h0_ways_tails h0_ways_comesTo h0_trial h0_trial_numbers h0_trial_words c0_ways__size c0_ways__told c0_ways__whole c0_ways__anyStuck c0_ways__loudest c0_ways_by__all c0_ways_by__v c0_ways_by__loss c0_ways_by__result c0_ways_by__over c0_ways_by__heldAll c0_ways_by__heldRounded c0_ways_by_numbers c0_ways_by_words c0_ways_onward c0_ways_tails c0_ways_comesTo s0_trial__all s0_trial__v s0_trial__loss s0_trial__result s0_trial__over s0_trial__heldAll s0_trial__heldRounded (upd c0_trial_numbers 2 y3) c0_trial_words)) (w1 := (wm_X7_draw cA h0_ways h0_ways_by h0_ways_by_numbers h0_ways_by_words h0_ways_onward h0_ways_tails h0_ways_comesTo h0_trial h0_trial_numbers h0_trial_words o5 o6 o7 o8 o9 o10 o11 o12 o13 o14 o15 o16 o17 o18 o19 o20 o21 s0_trial__all s0_trial__v s0_trial__loss s0_trial__result s0_trial__over s0_trial__heldAll s0_trial__heldRounded (upd c0_trial_numbers 2 y3) c0_trial_words)) (rv := (some (.int r4))) (st1 := [.int r4]) (va_runV (Ts := wsX8_tamed) (As := [.ref h0_trial, .int x1, .int x2]) (rest := []) ⟨hx, hb, hml, hown, hts⟩ (c_X7_staysWithin l G cA ts h0_ways h0_ways_by h0_ways_by_numbers h0_ways_by_words h0_ways_onward h0_ways_tails h0_ways_comesTo h0_trial h0_trial_numbers h0_trial_words x1 x2 c0_ways__size c0_ways__told c0_ways__whole c0_ways__anyStuck c0_ways__loudest c0_ways_by__all c0_ways_by__v c0_ways_by__loss c0_ways_by__result c0_ways_by__over c0_ways_by__heldAll c0_ways_by__heldRounded c0_ways_by_numbers c0_ways_by_words c0_ways_onward c0_ways_tails c0_ways_comesTo s0_trial__all s0_trial__v s0_trial__loss s0_trial__result s0_trial__over s0_trial__heldAll s0_trial__heldRounded (upd c0_trial_numbers 2 y3) c0_trial_words r4 o5 o6 o7 o8 o9 o10 o11 o12 o13 o14 o15 o16 o17 o18 o19 o20 o21 hq H.size) (cwV 3 hts gX8_tamed_X7_staysWithin rfl rfl rfl (by decide +kernel) ⟨Nat.le_of_ble_eq_true rfl, Nat.le_of_ble_eq_true rfl⟩) (pre_V (ci := 7) (q0 := 7) (is := [7, 8, 9, 10, 11, 12, 13, 4, 5, 6]) rfl rfl hP hD hS hA hK hZ (by decide +kernel) (by rfl)) rfl rfl hl.1 rfl (by exact lv_room (Nat.le_of_ble_eq_true rfl)) dX8_tamed_67 ⟨Nat.le_refl _, Nat.le_refl _⟩) hP hD hS hA (by decide +kernel) (by rfl) (by rfl) rfl (fun H locs hP hD hS => ?_)
      obtain ⟨hP, hD⟩ : va_P G vwCl (wm_X8_quietest cA h0 h0_filter h0_filter_numbers h0_filter_words h0_trial h0_trial_numbers h0_trial_words h0_ways h0_ways_by h0_ways_by_numbers h0_ways_by_words h0_ways_onward h0_ways_tails h0_ways_comesTo h0_kept h0_spread h0_course h0_rows h0_changes h0_tape h0_bodies h0_causes s0__hasImage s0__hasCauses s0__stepsDone s0_filter__all s0_filter__v s0_filter__loss s0_filter__result s0_filter__over s0_filter__heldAll s0_filter__heldRounded s0_filter_numbers s0_filter_words s0_trial__all s0_trial__v s0_trial__loss s0_trial__result s0_trial__over s0_trial__heldAll s0_trial__heldRounded (upd c0_trial_numbers 2 y3) c0_trial_words o5 o6 o7 o8 o9 o10 o11 o12 o13 o14 o15 o16 o17 o18 o19 o20 o21) H ∧ va_D A (wm_X8_quietest cA h0 h0_filter h0_filter_numbers h0_filter_words h0_trial h0_trial_numbers h0_trial_words h0_ways h0_ways_by h0_ways_by_numbers h0_ways_by_words h0_ways_onward h0_ways_tails h0_ways_comesTo h0_kept h0_spread h0_course h0_rows h0_changes h0_tape h0_bodies h0_causes s0__hasImage s0__hasCauses s0__stepsDone s0_filter__all s0_filter__v s0_filter__loss s0_filter__result s0_filter__over s0_filter__heldAll s0_filter__heldRounded s0_filter_numbers s0_filter_words s0_trial__all s0_trial__v s0_trial__loss s0_trial__result s0_trial__over s0_trial__heldAll s0_trial__heldRounded (upd c0_trial_numbers 2 y3) c0_trial_words o5 o6 o7 o8 o9 o10 o11 o12 o13 o14 o15 o16 o17 o18 o19 o20 o21) := PD_eq hP hD (rp_eq (js := [0, 1, 2, 3]) 14 (by decide +kernel) rfl rfl (by rfl) (by rfl) (by decide +kernel))
      refine lv_if_eq (tgt := 75) hx hb dX8_tamed_70 (by decide) (fun c => ?_) (fun c => ?_)
      · replace hok := g_pos hok c
        refine lv_iinc (v := (y3 + (-1))) (lv' := [(3, .int (y3 + (-1))), (0, .ref h0), (1, .int x1), (2, .int x2)]) hx hb dX8_tamed_75 hl (k := 3) rfl rfl (by decide) rfl (fun ls hl => ?_)
        refine lv_goto (tgt := 38) hx hb dX8_tamed_78 (by decide) ?_
        exact ih (y3 + (-1)) (upd c0_trial_numbers 2 y3) c0_trial_words o5 o6 o7 o8 o9 o10 o11 o12 o13 o14 o15 o16 o17 o18 o19 o20 o21 oE _ _ _ hP hD hS (lv_sub hl [1, 2, 3, 0] rfl) hok K0 K1
      replace hok := g_neg hok c
      cases hok
      exact K0 _ _ _ _ _ _ _ _ _ _ _ _ _ _ _ _ _ _ _ rfl _ _ _ hP hD hS (lv_sub hl [3] rfl)
  unfold fX8_tamed at hok
  refine lv_iload_n hx hb dX8_tamed_0 rfl (lv_at hl 1 rfl) ?_
  obtain ⟨r1, hq, hok⟩ := g_bnd1 hok
  refine cG (is := []) (wc := (wm_X0_find cA)) (w1 := (wm_X0_find cA)) (rv := (some (.int r1))) (st1 := [.int r1]) (va_runS (Ts := wsX8_tamed) (As := [.int x1]) (rest := []) ⟨hx, hb, hml, hown, hts⟩ (c_X8_isInput l G cA ts x1 r1 hq s.heap.size) (va_cwS 1 hts gX8_tamed_X8_isInput rfl rfl rfl (by decide +kernel) ⟨Nat.le_of_ble_eq_true rfl, Nat.le_of_ble_eq_true rfl⟩) (pre_S (is := []) hP hD hS hA hK hZ (by decide +kernel) (by rfl)) rfl rfl hl.1 rfl (by exact lv_room (Nat.le_of_ble_eq_true rfl)) dX8_tamed_1 ⟨Nat.le_refl _, Nat.le_refl _⟩) hP hD hS hA (by decide +kernel) (by rfl) (by rfl) rfl (fun H locs hP hD hS => ?_)
  have hP : va_P G vwCl (wm_X8_quietest cA h0 h0_filter h0_filter_numbers h0_filter_words h0_trial h0_trial_numbers h0_trial_words h0_ways h0_ways_by h0_ways_by_numbers h0_ways_by_words h0_ways_onward h0_ways_tails h0_ways_comesTo h0_kept h0_spread h0_course h0_rows h0_changes h0_tape h0_bodies h0_causes s0__hasImage s0__hasCauses s0__stepsDone s0_filter__all s0_filter__v s0_filter__loss s0_filter__result s0_filter__over s0_filter__heldAll s0_filter__heldRounded s0_filter_numbers s0_filter_words s0_trial__all s0_trial__v s0_trial__loss s0_trial__result s0_trial__over s0_trial__heldAll s0_trial__heldRounded s0_trial_numbers s0_trial_words s0_ways__size s0_ways__told s0_ways__whole s0_ways__anyStuck s0_ways__loudest s0_ways_by__all s0_ways_by__v s0_ways_by__loss s0_ways_by__result s0_ways_by__over s0_ways_by__heldAll s0_ways_by__heldRounded s0_ways_by_numbers s0_ways_by_words s0_ways_onward s0_ways_tails s0_ways_comesTo) H := hP
  have hD : va_D A (wm_X8_quietest cA h0 h0_filter h0_filter_numbers h0_filter_words h0_trial h0_trial_numbers h0_trial_words h0_ways h0_ways_by h0_ways_by_numbers h0_ways_by_words h0_ways_onward h0_ways_tails h0_ways_comesTo h0_kept h0_spread h0_course h0_rows h0_changes h0_tape h0_bodies h0_causes s0__hasImage s0__hasCauses s0__stepsDone s0_filter__all s0_filter__v s0_filter__loss s0_filter__result s0_filter__over s0_filter__heldAll s0_filter__heldRounded s0_filter_numbers s0_filter_words s0_trial__all s0_trial__v s0_trial__loss s0_trial__result s0_trial__over s0_trial__heldAll s0_trial__heldRounded s0_trial_numbers s0_trial_words s0_ways__size s0_ways__told s0_ways__whole s0_ways__anyStuck s0_ways__loudest s0_ways_by__all s0_ways_by__v s0_ways_by__loss s0_ways_by__result s0_ways_by__over s0_ways_by__heldAll s0_ways_by__heldRounded s0_ways_by_numbers s0_ways_by_words s0_ways_onward s0_ways_tails s0_ways_comesTo) := hD
  refine lv_if_eq (tgt := 17) hx hb dX8_tamed_4 (by decide) (fun c => ?_) (fun c => ?_)
  · replace hok := g_pos hok c
    refine lv_sipush (v := -1001) hx hb dX8_tamed_17 (by decide) ?_
    obtain ⟨e, hok⟩ := g_pr hok
    try subst e
    obtain ⟨e, hok⟩ := g_pr hok
    try subst e
    obtain ⟨e, hok⟩ := g_pr hok
    try subst e
    obtain ⟨e, hok⟩ := g_pr hok
    try subst e
    obtain ⟨e, hok⟩ := g_pr hok
    try subst e
    obtain ⟨e, hok⟩ := g_pr hok
    try subst e
    obtain ⟨e, hok⟩ := g_pr hok
    try subst e
    obtain ⟨e, hok⟩ := g_pr hok
    try subst e
    obtain ⟨e, hok⟩ := g_pr hok
    try subst e
    obtain ⟨e, hok⟩ := g_pr hok
    try subst e
    obtain ⟨e, hok⟩ := g_pr hok
    try subst e
    obtain ⟨e, hok⟩ := g_pr hok
    try subst e
    obtain ⟨e, hok⟩ := g_pr hok
    try subst e
    obtain ⟨e, hok⟩ := g_pr hok
    try subst e
    obtain ⟨e, hok⟩ := g_pr hok
    try subst e
    obtain ⟨e, hok⟩ := g_pr hok
    try subst e
    obtain ⟨e, hok⟩ := g_pr hok
    try subst e
    obtain ⟨e, hok⟩ := g_pr hok
    try subst e
    obtain ⟨e, hok⟩ := g_pr hok
    try subst e
    cases hok
    exact cr_i hx hb hr hlocks hQ dX8_tamed_20 hP hS
  replace hok := g_neg hok c
  refine lv_iload_n hx hb dX8_tamed_7 rfl (lv_at hl 2 rfl) ?_
  refine lv_if_lt (tgt := 17) hx hb dX8_tamed_8 (by decide) (fun c => ?_) (fun c => ?_)
  · replace hok := g_pos hok c
    refine lv_sipush (v := -1001) hx hb dX8_tamed_17 (by decide) ?_
    obtain ⟨e, hok⟩ := g_pr hok
    try subst e
    obtain ⟨e, hok⟩ := g_pr hok
    try subst e
    obtain ⟨e, hok⟩ := g_pr hok
    try subst e
    obtain ⟨e, hok⟩ := g_pr hok
    try subst e
    obtain ⟨e, hok⟩ := g_pr hok
    try subst e
    obtain ⟨e, hok⟩ := g_pr hok
    try subst e
    obtain ⟨e, hok⟩ := g_pr hok
    try subst e
    obtain ⟨e, hok⟩ := g_pr hok
    try subst e
    obtain ⟨e, hok⟩ := g_pr hok
    try subst e
    obtain ⟨e, hok⟩ := g_pr hok
    try subst e
    obtain ⟨e, hok⟩ := g_pr hok
    try subst e
    obtain ⟨e, hok⟩ := g_pr hok
    try subst e
    obtain ⟨e, hok⟩ := g_pr hok
    try subst e
    obtain ⟨e, hok⟩ := g_pr hok
    try subst e
    obtain ⟨e, hok⟩ := g_pr hok
    try subst e
    obtain ⟨e, hok⟩ := g_pr hok
    try subst e
    obtain ⟨e, hok⟩ := g_pr hok
    try subst e
    obtain ⟨e, hok⟩ := g_pr hok
    try subst e
    obtain ⟨e, hok⟩ := g_pr hok
    try subst e
    cases hok
    exact cr_i hx hb hr hlocks hQ dX8_tamed_20 hP hS
  replace hok := g_neg hok c
  refine lv_iload_n hx hb dX8_tamed_11 rfl (lv_at hl 2 rfl) ?_
  refine lv_bipush (v := 99) hx hb dX8_tamed_12 (by decide) ?_
  refine lv_icmp_le (tgt := 21) hx hb dX8_tamed_14 (by decide) (fun c => ?_) (fun c => ?_)
  · replace hok := g_pos hok c
    refine lv_aload_n hx hb dX8_tamed_21 rfl (lv_at hl 0 rfl) ?_
    refine va_get (ci := 8) (v := .ref h0_trial) (C := RX8) (T := TX8) (N := 14) hx hb hts hinX8 hown hK hP 0 rfl rfl 1 (by decide) (hts _ (List.mem_of_getElem? (i := 1) rfl)) (fun _ h9 => h9) rfl dX8_tamed_22 ?_
    refine lv_aload_n hx hb dX8_tamed_25 rfl (lv_at hl 0 rfl) ?_
    refine va_get (ci := 8) (v := .ref h0_filter) (C := RX8) (T := TX8) (N := 14) hx hb hts hinX8 hown hK hP 0 rfl rfl 0 (by decide) (hts _ (List.mem_of_getElem? (i := 2) rfl)) (fun _ h9 => h9) rfl dX8_tamed_26 ?_
    obtain ⟨o2, o3, hq, hok⟩ := g_bnd2 hok
    refine cG (is := [4, 5, 6, 1, 2, 3]) (wc := (wm_X3_take cA h0_trial h0_trial_numbers h0_trial_words h0_filter h0_filter_numbers h0_filter_words s0_trial__all s0_trial__v s0_trial__loss s0_trial__result s0_trial__over s0_trial__heldAll s0_trial__heldRounded s0_trial_numbers s0_trial_words s0_filter__all s0_filter__v s0_filter__loss s0_filter__result s0_filter__over s0_filter__heldAll s0_filter__heldRounded s0_filter_numbers s0_filter_words)) (w1 := (wm_X3_take cA h0_trial h0_trial_numbers h0_trial_words h0_filter h0_filter_numbers h0_filter_words s0_trial__all s0_trial__v s0_trial__loss s0_trial__result s0_trial__over s0_trial__heldAll s0_trial__heldRounded o2 o3 s0_filter__all s0_filter__v s0_filter__loss s0_filter__result s0_filter__over s0_filter__heldAll s0_filter__heldRounded s0_filter_numbers s0_filter_words)) (rv := none) (st1 := []) (va_runV (Ts := wsX8_tamed) (As := [.ref h0_filter]) (rest := []) ⟨hx, hb, hml, hown, hts⟩ (c_X3_take l G cA ts h0_trial h0_trial_numbers h0_trial_words h0_filter h0_filter_numbers h0_filter_words s0_trial__all s0_trial__v s0_trial__loss s0_trial__result s0_trial__over s0_trial__heldAll s0_trial__heldRounded s0_trial_numbers s0_trial_words s0_filter__all s0_filter__v s0_filter__loss s0_filter__result s0_filter__over s0_filter__heldAll s0_filter__heldRounded s0_filter_numbers s0_filter_words o2 o3 hq H.size) (cwV 1 hts gX8_tamed_X3_take rfl rfl rfl (by decide +kernel) ⟨Nat.le_of_ble_eq_true rfl, Nat.le_of_ble_eq_true rfl⟩) (pre_V (ci := 3) (q0 := 4) (is := [4, 5, 6, 1, 2, 3]) rfl rfl hP hD hS hA hK hZ (by decide +kernel) (by rfl)) rfl rfl hl.1 rfl (by exact lv_room (Nat.le_of_ble_eq_true rfl)) dX8_tamed_29 ⟨Nat.le_refl _, Nat.le_refl _⟩) hP hD hS hA (by decide +kernel) (by rfl) (by rfl) rfl (fun H locs hP hD hS => ?_)
    have hP : va_P G vwCl (wm_X8_quietest cA h0 h0_filter h0_filter_numbers h0_filter_words h0_trial h0_trial_numbers h0_trial_words h0_ways h0_ways_by h0_ways_by_numbers h0_ways_by_words h0_ways_onward h0_ways_tails h0_ways_comesTo h0_kept h0_spread h0_course h0_rows h0_changes h0_tape h0_bodies h0_causes s0__hasImage s0__hasCauses s0__stepsDone s0_filter__all s0_filter__v s0_filter__loss s0_filter__result s0_filter__over s0_filter__heldAll s0_filter__heldRounded s0_filter_numbers s0_filter_words s0_trial__all s0_trial__v s0_trial__loss s0_trial__result s0_trial__over s0_trial__heldAll s0_trial__heldRounded o2 o3 s0_ways__size s0_ways__told s0_ways__whole s0_ways__anyStuck s0_ways__loudest s0_ways_by__all s0_ways_by__v s0_ways_by__loss s0_ways_by__result s0_ways_by__over s0_ways_by__heldAll s0_ways_by__heldRounded s0_ways_by_numbers s0_ways_by_words s0_ways_onward s0_ways_tails s0_ways_comesTo) H := hP
    have hD : va_D A (wm_X8_quietest cA h0 h0_filter h0_filter_numbers h0_filter_words h0_trial h0_trial_numbers h0_trial_words h0_ways h0_ways_by h0_ways_by_numbers h0_ways_by_words h0_ways_onward h0_ways_tails h0_ways_comesTo h0_kept h0_spread h0_course h0_rows h0_changes h0_tape h0_bodies h0_causes s0__hasImage s0__hasCauses s0__stepsDone s0_filter__all s0_filter__v s0_filter__loss s0_filter__result s0_filter__over s0_filter__heldAll s0_filter__heldRounded s0_filter_numbers s0_filter_words s0_trial__all s0_trial__v s0_trial__loss s0_trial__result s0_trial__over s0_trial__heldAll s0_trial__heldRounded o2 o3 s0_ways__size s0_ways__told s0_ways__whole s0_ways__anyStuck s0_ways__loudest s0_ways_by__all s0_ways_by__v s0_ways_by__loss s0_ways_by__result s0_ways_by__over s0_ways_by__heldAll s0_ways_by__heldRounded s0_ways_by_numbers s0_ways_by_words s0_ways_onward s0_ways_tails s0_ways_comesTo) := hD
    refine va_gets hx hb hZ.1.1.2.1.1 hS hown (hts _ (List.mem_of_getElem? (i := 3) rfl)) (fun _ h9 => h9) dX8_tamed_32 ?_
    refine lv_iconst (v := 2) hx hb dX8_tamed_35 (by decide) ?_
    refine va_ti (v := .int (tb tHIGH 2)) hx hb hZ.1.1.2.1.2 hS (show ¬ ((2:Int32) < 0 ∨ 10 ≤ (2:Int32).toNatClampNeg) by decide) rfl dX8_tamed_36 ?_
    refine lv_istore_n (lv' := [(3, .int (tb tHIGH 2)), (0, .ref h0), (1, .int x1), (2, .int x2)]) hx hb dX8_tamed_37 rfl hl (by decide) rfl (fun ls hl => ?_)
    obtain ⟨o22, hq, hok⟩ := g_bnd1 hok
    refine L_38 FUEL (tb tHIGH 2) o2 o3 s0_ways__size s0_ways__told s0_ways__whole s0_ways__anyStuck s0_ways__loudest s0_ways_by__all s0_ways_by__v s0_ways_by__loss s0_ways_by__result s0_ways_by__over s0_ways_by__heldAll s0_ways_by__heldRounded s0_ways_by_numbers s0_ways_by_words s0_ways_onward s0_ways_tails s0_ways_comesTo o22 _ _ _ hP hD hS (lv_sub hl [1, 2, 3, 0] rfl) hq (fun p0_0 p0_1 p0_2 p0_3 p0_4 p0_5 p0_6 p0_7 p0_8 p0_9 p0_10 p0_11 p0_12 p0_13 p0_14 p0_15 p0_16 p0_17 p0_18 ho H locs ls hP hD hS hl => ?_) (fun p1_0 p1_1 p1_2 p1_3 p1_4 p1_5 p1_6 p1_7 p1_8 p1_9 p1_10 p1_11 p1_12 p1_13 p1_14 p1_15 p1_16 p1_17 ho H locs ls hP hD hS hl => ?_)
    · subst ho
      replace hok := g_inl hok
      replace hok := g_c19 hok
      refine lv_iload_n hx hb dX8_tamed_73 rfl (lv_at hl 0 rfl) ?_
      obtain ⟨e, hok⟩ := g_pr hok
      try subst e
      obtain ⟨e, hok⟩ := g_pr hok
      try subst e
      obtain ⟨e, hok⟩ := g_pr hok
      try subst e
      obtain ⟨e, hok⟩ := g_pr hok
      try subst e
      obtain ⟨e, hok⟩ := g_pr hok
      try subst e
      obtain ⟨e, hok⟩ := g_pr hok
      try subst e
      obtain ⟨e, hok⟩ := g_pr hok
      try subst e
      obtain ⟨e, hok⟩ := g_pr hok
      try subst e
      obtain ⟨e, hok⟩ := g_pr hok
      try subst e
      obtain ⟨e, hok⟩ := g_pr hok
      try subst e
      obtain ⟨e, hok⟩ := g_pr hok
      try subst e
      obtain ⟨e, hok⟩ := g_pr hok
      try subst e
      obtain ⟨e, hok⟩ := g_pr hok
      try subst e
      obtain ⟨e, hok⟩ := g_pr hok
      try subst e
      obtain ⟨e, hok⟩ := g_pr hok
      try subst e
      obtain ⟨e, hok⟩ := g_pr hok
      try subst e
      obtain ⟨e, hok⟩ := g_pr hok
      try subst e
      obtain ⟨e, hok⟩ := g_pr hok
      try subst e
      obtain ⟨e, hok⟩ := g_pr hok
      try subst e
      cases hok
      exact cr_i hx hb hr hlocks hQ dX8_tamed_74 hP hS
    subst ho
    replace hok := g_inr hok
    replace hok := g_c18 hok
    refine lv_sipush (v := -1002) hx hb dX8_tamed_81 (by decide) ?_
    obtain ⟨e, hok⟩ := g_pr hok
    try subst e
    obtain ⟨e, hok⟩ := g_pr hok
    try subst e
    obtain ⟨e, hok⟩ := g_pr hok
    try subst e
    obtain ⟨e, hok⟩ := g_pr hok
    try subst e
    obtain ⟨e, hok⟩ := g_pr hok
    try subst e
    obtain ⟨e, hok⟩ := g_pr hok
    try subst e
    obtain ⟨e, hok⟩ := g_pr hok
    try subst e
    obtain ⟨e, hok⟩ := g_pr hok
    try subst e
    obtain ⟨e, hok⟩ := g_pr hok
    try subst e
    obtain ⟨e, hok⟩ := g_pr hok
    try subst e
    obtain ⟨e, hok⟩ := g_pr hok
    try subst e
    obtain ⟨e, hok⟩ := g_pr hok
    try subst e
    obtain ⟨e, hok⟩ := g_pr hok
    try subst e
    obtain ⟨e, hok⟩ := g_pr hok
    try subst e
    obtain ⟨e, hok⟩ := g_pr hok
    try subst e
    obtain ⟨e, hok⟩ := g_pr hok
    try subst e
    obtain ⟨e, hok⟩ := g_pr hok
    try subst e
    obtain ⟨e, hok⟩ := g_pr hok
    try subst e
    obtain ⟨e, hok⟩ := g_pr hok
    try subst e
    cases hok
    exact cr_i hx hb hr hlocks hQ dX8_tamed_84 hP hS
  replace hok := g_neg hok c
  refine lv_sipush (v := -1001) hx hb dX8_tamed_17 (by decide) ?_
  obtain ⟨e, hok⟩ := g_pr hok
  try subst e
  obtain ⟨e, hok⟩ := g_pr hok
  try subst e
  obtain ⟨e, hok⟩ := g_pr hok
  try subst e
  obtain ⟨e, hok⟩ := g_pr hok
  try subst e
  obtain ⟨e, hok⟩ := g_pr hok
  try subst e
  obtain ⟨e, hok⟩ := g_pr hok
  try subst e
  obtain ⟨e, hok⟩ := g_pr hok
  try subst e
  obtain ⟨e, hok⟩ := g_pr hok
  try subst e
  obtain ⟨e, hok⟩ := g_pr hok
  try subst e
  obtain ⟨e, hok⟩ := g_pr hok
  try subst e
  obtain ⟨e, hok⟩ := g_pr hok
  try subst e
  obtain ⟨e, hok⟩ := g_pr hok
  try subst e
  obtain ⟨e, hok⟩ := g_pr hok
  try subst e
  obtain ⟨e, hok⟩ := g_pr hok
  try subst e
  obtain ⟨e, hok⟩ := g_pr hok
  try subst e
  obtain ⟨e, hok⟩ := g_pr hok
  try subst e
  obtain ⟨e, hok⟩ := g_pr hok
  try subst e
  obtain ⟨e, hok⟩ := g_pr hok
  try subst e
  obtain ⟨e, hok⟩ := g_pr hok
  try subst e
  cases hok
  exact cr_i hx hb hr hlocks hQ dX8_tamed_20 hP hS
set_option maxHeartbeats 40000000 in
set_option maxRecDepth 100000 in
theorem c_X8_lost (l : Launch) (G : va_G) (cA : Nat → ClassId) (ts : Nat → Nat) (h0 : Nat) (h0_filter : Nat) (h0_filter_numbers : Nat) (h0_filter_words : Nat) (h0_trial : Nat) (h0_trial_numbers : Nat) (h0_trial_words : Nat) (h0_kept : Nat) (h0_ways : Nat) (h0_spread : Nat) (h0_course : Nat) (h0_rows : Nat) (h0_changes : Nat) (h0_tape : Nat) (h0_bodies : Nat) (h0_causes : Nat) (x1 : Int32) (x2 : Int32) (s0__hasImage : Int32) (s0__hasCauses : Int32) (s0__stepsDone : Int32) (s0_filter__all : Int32) (s0_filter__v : Int32) (s0_filter__loss : Int32) (s0_filter__result : Int32) (s0_filter__over : Int32) (s0_filter__heldAll : Int32) (s0_filter__heldRounded : Int32) (s0_filter_numbers : Nat → Int32) (s0_filter_words : Nat → Int32) (s0_trial__all : Int32) (s0_trial__v : Int32) (s0_trial__loss : Int32) (s0_trial__result : Int32) (s0_trial__over : Int32) (s0_trial__heldAll : Int32) (s0_trial__heldRounded : Int32) (s0_trial_numbers : Nat → Int32) (s0_trial_words : Nat → Int32) (r : Int64) (o0_trial__all : Int32) (o0_trial__v : Int32) (o0_trial__loss : Int32) (o0_trial__result : Int32) (o0_trial__over : Int32) (o0_trial__heldAll : Int32) (o0_trial__heldRounded : Int32) (o0_trial_numbers : Nat → Int32) (o0_trial_words : Nat → Int32) (hok : fX8_lost x1 x2 s0_filter_numbers s0_filter_words s0_trial__all s0_trial__v s0_trial__loss s0_trial__result s0_trial__over s0_trial__heldAll s0_trial__heldRounded s0_trial_numbers s0_trial_words = some (r, o0_trial__all, o0_trial__v, o0_trial__loss, o0_trial__result, o0_trial__over, o0_trial__heldAll, o0_trial__heldRounded, o0_trial_numbers, o0_trial_words)) : Ct l G cA ts yX8_lost wsX8_lost 5 126 [.ref h0, .int x1, .int x2] (wm_X8_next cA h0 h0_filter h0_filter_numbers h0_filter_words h0_trial h0_trial_numbers h0_trial_words h0_kept h0_ways h0_spread h0_course h0_rows h0_changes h0_tape h0_bodies h0_causes s0__hasImage s0__hasCauses s0__stepsDone s0_filter__all s0_filter__v s0_filter__loss s0_filter__result s0_filter__over s0_filter__heldAll s0_filter__heldRounded s0_filter_numbers s0_filter_words s0_trial__all s0_trial__v s0_trial__loss s0_trial__result s0_trial__over s0_trial__heldAll s0_trial__heldRounded s0_trial_numbers s0_trial_words) (wm_X8_next cA h0 h0_filter h0_filter_numbers h0_filter_words h0_trial h0_trial_numbers h0_trial_words h0_kept h0_ways h0_spread h0_course h0_rows h0_changes h0_tape h0_bodies h0_causes s0__hasImage s0__hasCauses s0__stepsDone s0_filter__all s0_filter__v s0_filter__loss s0_filter__result s0_filter__over s0_filter__heldAll s0_filter__heldRounded s0_filter_numbers s0_filter_words o0_trial__all o0_trial__v o0_trial__loss o0_trial__result o0_trial__over o0_trial__heldAll o0_trial__heldRounded o0_trial_numbers o0_trial_words) (some (.long r)) := by
  refine Ct.intro (cc := cX8_lost) (maxL := 7) (ret := some .long) (by decide +kernel) rfl (Nat.le_of_ble_eq_true rfl) ?_
  intro p e s m ar below meth c A Q hx hb hr hml hown hlocks hts hK hZ hA hQ hP hD hS ls hl
  have hown : s.vm.findClass RX8 = some m.cls := hown
  have hinX3 : ∀ w ∈ wsX30, w ∈ wsX8_lost := fun _ h => List.mem_cons_of_mem _ (List.mem_append_right _ (h))
  have hinX8 : ∀ w ∈ wsX80, w ∈ wsX8_lost := fun _ h => List.mem_cons_of_mem _ (List.mem_append_left _ (List.mem_append_right _ (h)))
  have hl : lv_has ls 7 [(0, .ref h0), (1, .int x1), (2, .int x2)] := hl
  have hP : va_P G vwCl (wm_X8_next cA h0 h0_filter h0_filter_numbers h0_filter_words h0_trial h0_trial_numbers h0_trial_words h0_kept h0_ways h0_spread h0_course h0_rows h0_changes h0_tape h0_bodies h0_causes s0__hasImage s0__hasCauses s0__stepsDone s0_filter__all s0_filter__v s0_filter__loss s0_filter__result s0_filter__over s0_filter__heldAll s0_filter__heldRounded s0_filter_numbers s0_filter_words s0_trial__all s0_trial__v s0_trial__loss s0_trial__result s0_trial__over s0_trial__heldAll s0_trial__heldRounded s0_trial_numbers s0_trial_words) s.heap := hP
  have hD : va_D A (wm_X8_next cA h0 h0_filter h0_filter_numbers h0_filter_words h0_trial h0_trial_numbers h0_trial_words h0_kept h0_ways h0_spread h0_course h0_rows h0_changes h0_tape h0_bodies h0_causes s0__hasImage s0__hasCauses s0__stepsDone s0_filter__all s0_filter__v s0_filter__loss s0_filter__result s0_filter__over s0_filter__heldAll s0_filter__heldRounded s0_filter_numbers s0_filter_words s0_trial__all s0_trial__v s0_trial__loss s0_trial__result s0_trial__over s0_trial__heldAll s0_trial__heldRounded s0_trial_numbers s0_trial_words) := hD
  have L_43 : ∀ (n : Nat) (y3 : Int32) (y4 : Int64) (y6 : Int32) (c0_trial__all : Int32) (c0_trial__v : Int32) (c0_trial__loss : Int32) (c0_trial__result : Int32) (c0_trial__over : Int32) (c0_trial__heldAll : Int32) (c0_trial__heldRounded : Int32) (c0_trial_numbers : Nat → Int32) (c0_trial_words : Nat → Int32) (p0_0 : Int64) (p0_1 : Int32) (p0_2 : Int32) (p0_3 : Int32) (p0_4 : Int32) (p0_5 : Int32) (p0_6 : Int32) (p0_7 : Int32) (p0_8 : Nat → Int32) (H : Heap) (locs : List Loc) (ls : Array Slot), va_P G vwCl (wm_X8_next cA h0 h0_filter h0_filter_numbers h0_filter_words h0_trial h0_trial_numbers h0_trial_words h0_kept h0_ways h0_spread h0_course h0_rows h0_changes h0_tape h0_bodies h0_causes s0__hasImage s0__hasCauses s0__stepsDone s0_filter__all s0_filter__v s0_filter__loss s0_filter__result s0_filter__over s0_filter__heldAll s0_filter__heldRounded s0_filter_numbers s0_filter_words c0_trial__all c0_trial__v c0_trial__loss c0_trial__result c0_trial__over c0_trial__heldAll c0_trial__heldRounded c0_trial_numbers c0_trial_words) H → va_D A (wm_X8_next cA h0 h0_filter h0_filter_numbers h0_filter_words h0_trial h0_trial_numbers h0_trial_words h0_kept h0_ways h0_spread h0_course h0_rows h0_changes h0_tape h0_bodies h0_causes s0__hasImage s0__hasCauses s0__stepsDone s0_filter__all s0_filter__v s0_filter__loss s0_filter__result s0_filter__over s0_filter__heldAll s0_filter__heldRounded s0_filter_numbers s0_filter_words c0_trial__all c0_trial__v c0_trial__loss c0_trial__result c0_trial__over c0_trial__heldAll c0_trial__heldRounded c0_trial_numbers c0_trial_words) → va_S A s.heap H locs → lv_has ls 7 [(0, .ref h0), (1, .int x1), (2, .int x2), (3, .int y3), (4, .long y4), (6, .int y6)] → fX8_lost_L43 x1 x2 s0_filter_numbers s0_filter_words n y3 y4 y6 c0_trial__all c0_trial__v c0_trial__loss c0_trial__result c0_trial__over c0_trial__heldAll c0_trial__heldRounded c0_trial_numbers c0_trial_words = some (p0_0, p0_1, p0_2, p0_3, p0_4, p0_5, p0_6, p0_7, p0_8) → (∀ (H : Heap) (locs : List Loc) (ls : Array Slot), va_P G vwCl (wm_X8_next cA h0 h0_filter h0_filter_numbers h0_filter_words h0_trial h0_trial_numbers h0_trial_words h0_kept h0_ways h0_spread h0_course h0_rows h0_changes h0_tape h0_bodies h0_causes s0__hasImage s0__hasCauses s0__stepsDone s0_filter__all s0_filter__v s0_filter__loss s0_filter__result s0_filter__over s0_filter__heldAll s0_filter__heldRounded s0_filter_numbers s0_filter_words p0_1 p0_2 p0_3 p0_4 p0_5 p0_6 p0_7 c0_trial_numbers p0_8) H → va_D A (wm_X8_next cA h0 h0_filter h0_filter_numbers h0_filter_words h0_trial h0_trial_numbers h0_trial_words h0_kept h0_ways h0_spread h0_course h0_rows h0_changes h0_tape h0_bodies h0_causes s0__hasImage s0__hasCauses s0__stepsDone s0_filter__all s0_filter__v s0_filter__loss s0_filter__result s0_filter__over s0_filter__heldAll s0_filter__heldRounded s0_filter_numbers s0_filter_words p0_1 p0_2 p0_3 p0_4 p0_5 p0_6 p0_7 c0_trial_numbers p0_8) → va_S A s.heap H locs → lv_has ls 7 [(0, .ref h0), (2, .int x2), (3, .int y3), (4, .long p0_0)] → W p l e (rmX 5 126) s m ar below meth c H locs 0 0 Q (F0 m 88 ls [])) → W p l e (rmX 5 126) s m ar below meth c H locs 0 0 Q (F0 m 43 ls []) := by
    intro n
    induction n with
    | zero =>
      intro y3 y4 y6 c0_trial__all c0_trial__v c0_trial__loss c0_trial__result c0_trial__over c0_trial__heldAll c0_trial__heldRounded c0_trial_numbers c0_trial_words p0_0 p0_1 p0_2 p0_3 p0_4 p0_5 p0_6 p0_7 p0_8 H locs ls hP hD hS hl hok
      rw [fX8_lost_L43] at hok
      cases hok
    | succ n ih =>
      intro y3 y4 y6 c0_trial__all c0_trial__v c0_trial__loss c0_trial__result c0_trial__over c0_trial__heldAll c0_trial__heldRounded c0_trial_numbers c0_trial_words p0_0 p0_1 p0_2 p0_3 p0_4 p0_5 p0_6 p0_7 p0_8 H locs ls hP hD hS hl hok K
      rw [fX8_lost_L43] at hok
      refine lv_iload hx hb dX8_lost_43 (lv_at hl 5 rfl) ?_
      refine lv_iload_n hx hb dX8_lost_45 rfl (lv_at hl 3 rfl) ?_
      refine lv_icmp_ge (tgt := 88) hx hb dX8_lost_46 (by decide) (fun c => ?_) (fun c => ?_)
      · replace hok := g_pos hok c
        cases hok
        exact K _ _ _ hP hD hS (lv_sub hl [0, 2, 3, 4] rfl)
      replace hok := g_neg hok c
      refine lv_aload_n hx hb dX8_lost_49 rfl (lv_at hl 0 rfl) ?_
      refine va_get (ci := 8) (v := .ref h0_trial) (C := RX8) (T := TX8) (N := 14) hx hb hts hinX8 hown hK hP 0 rfl rfl 1 (by decide) (hts _ (List.mem_of_getElem? (i := 2) rfl)) (fun _ h9 => h9) rfl dX8_lost_50 ?_
      refine lv_iload hx hb dX8_lost_53 (lv_at hl 5 rfl) ?_
      obtain ⟨o6, hq, hok⟩ := g_bnd1 hok
      refine cG (is := [4, 5, 6]) (wc := (wm_X3_gather cA h0_trial h0_trial_numbers h0_trial_words c0_trial__all c0_trial__v c0_trial__loss c0_trial__result c0_trial__over c0_trial__heldAll c0_trial__heldRounded c0_trial_numbers c0_trial_words)) (w1 := (wm_X3_gather cA h0_trial h0_trial_numbers h0_trial_words c0_trial__all c0_trial__v c0_trial__loss c0_trial__result c0_trial__over c0_trial__heldAll c0_trial__heldRounded c0_trial_numbers o6)) (rv := none) (st1 := []) (va_runV (Ts := wsX8_lost) (As := [.int y6]) (rest := []) ⟨hx, hb, hml, hown, hts⟩ (c_X3_unpack l G cA ts h0_trial h0_trial_numbers h0_trial_words y6 c0_trial__all c0_trial__v c0_trial__loss c0_trial__result c0_trial__over c0_trial__heldAll c0_trial__heldRounded c0_trial_numbers c0_trial_words o6 hq H.size) (cwV 1 hts gX8_lost_X3_unpack rfl rfl rfl (by decide +kernel) ⟨Nat.le_of_ble_eq_true rfl, Nat.le_of_ble_eq_true rfl⟩) (pre_V (ci := 3) (q0 := 4) (is := [4, 5, 6]) rfl rfl hP hD hS hA hK hZ (by decide +kernel) (by rfl)) rfl rfl hl.1 rfl (by exact lv_room (Nat.le_of_ble_eq_true rfl)) dX8_lost_55 ⟨Nat.le_refl _, Nat.le_refl _⟩) hP hD hS hA (by decide +kernel) (by rfl) (by rfl) rfl (fun H locs hP hD hS => ?_)
      have hP : va_P G vwCl (wm_X8_next cA h0 h0_filter h0_filter_numbers h0_filter_words h0_trial h0_trial_numbers h0_trial_words h0_kept h0_ways h0_spread h0_course h0_rows h0_changes h0_tape h0_bodies h0_causes s0__hasImage s0__hasCauses s0__stepsDone s0_filter__all s0_filter__v s0_filter__loss s0_filter__result s0_filter__over s0_filter__heldAll s0_filter__heldRounded s0_filter_numbers s0_filter_words c0_trial__all c0_trial__v c0_trial__loss c0_trial__result c0_trial__over c0_trial__heldAll c0_trial__heldRounded c0_trial_numbers o6) H := hP
      have hD : va_D A (wm_X8_next cA h0 h0_filter h0_filter_numbers h0_filter_words h0_trial h0_trial_numbers h0_trial_words h0_kept h0_ways h0_spread h0_course h0_rows h0_changes h0_tape h0_bodies h0_causes s0__hasImage s0__hasCauses s0__stepsDone s0_filter__all s0_filter__v s0_filter__loss s0_filter__result s0_filter__over s0_filter__heldAll s0_filter__heldRounded s0_filter_numbers s0_filter_words c0_trial__all c0_trial__v c0_trial__loss c0_trial__result c0_trial__over c0_trial__heldAll c0_trial__heldRounded c0_trial_numbers o6) := hD
      refine lv_aload_n hx hb dX8_lost_58 rfl (lv_at hl 0 rfl) ?_
      refine va_get (ci := 8) (v := .ref h0_trial) (C := RX8) (T := TX8) (N := 14) hx hb hts hinX8 hown hK hP 0 rfl rfl 1 (by decide) (hts _ (List.mem_of_getElem? (i := 2) rfl)) (fun _ h9 => h9) rfl dX8_lost_59 ?_
      refine lv_iload_n hx hb dX8_lost_62 rfl (lv_at hl 1 rfl) ?_
      obtain ⟨o7, o8, o9, o10, o11, o12, o13, hq, hok⟩ := g_bnd7 hok
      refine cG (is := [4, 5, 6]) (wc := (wm_X3_gather cA h0_trial h0_trial_numbers h0_trial_words c0_trial__all c0_trial__v c0_trial__loss c0_trial__result c0_trial__over c0_trial__heldAll c0_trial__heldRounded c0_trial_numbers o6)) (w1 := (wm_X3_gather cA h0_trial h0_trial_numbers h0_trial_words o7 o8 o9 o10 o11 o12 o13 c0_trial_numbers o6)) (rv := none) (st1 := []) (va_runV (Ts := wsX8_lost) (As := [.int x1]) (rest := []) ⟨hx, hb, hml, hown, hts⟩ (c_X3_weigh l G cA ts h0_trial h0_trial_numbers h0_trial_words x1 c0_trial__all c0_trial__v c0_trial__loss c0_trial__result c0_trial__over c0_trial__heldAll c0_trial__heldRounded c0_trial_numbers o6 o7 o8 o9 o10 o11 o12 o13 hq H.size) (cwV 1 hts gX8_lost_X3_weigh rfl rfl rfl (by decide +kernel) ⟨Nat.le_of_ble_eq_true rfl, Nat.le_of_ble_eq_true rfl⟩) (pre_V (ci := 3) (q0 := 4) (is := [4, 5, 6]) rfl rfl hP hD hS hA hK hZ (by decide +kernel) (by rfl)) rfl rfl hl.1 rfl (by exact lv_room (Nat.le_of_ble_eq_true rfl)) dX8_lost_63 ⟨Nat.le_refl _, Nat.le_refl _⟩) hP hD hS hA (by decide +kernel) (by rfl) (by rfl) rfl (fun H locs hP hD hS => ?_)
      have hP : va_P G vwCl (wm_X8_next cA h0 h0_filter h0_filter_numbers h0_filter_words h0_trial h0_trial_numbers h0_trial_words h0_kept h0_ways h0_spread h0_course h0_rows h0_changes h0_tape h0_bodies h0_causes s0__hasImage s0__hasCauses s0__stepsDone s0_filter__all s0_filter__v s0_filter__loss s0_filter__result s0_filter__over s0_filter__heldAll s0_filter__heldRounded s0_filter_numbers s0_filter_words o7 o8 o9 o10 o11 o12 o13 c0_trial_numbers o6) H := hP
      have hD : va_D A (wm_X8_next cA h0 h0_filter h0_filter_numbers h0_filter_words h0_trial h0_trial_numbers h0_trial_words h0_kept h0_ways h0_spread h0_course h0_rows h0_changes h0_tape h0_bodies h0_causes s0__hasImage s0__hasCauses s0__stepsDone s0_filter__all s0_filter__v s0_filter__loss s0_filter__result s0_filter__over s0_filter__heldAll s0_filter__heldRounded s0_filter_numbers s0_filter_words o7 o8 o9 o10 o11 o12 o13 c0_trial_numbers o6) := hD
      refine lv_lload hx hb dX8_lost_66 (lv_at hl 4 rfl) ?_
      refine lv_aload_n hx hb dX8_lost_68 rfl (lv_at hl 0 rfl) ?_
      refine va_get (ci := 8) (v := .ref h0_trial) (C := RX8) (T := TX8) (N := 14) hx hb hts hinX8 hown hK hP 0 rfl rfl 1 (by decide) (hts _ (List.mem_of_getElem? (i := 2) rfl)) (fun _ h9 => h9) rfl dX8_lost_69 ?_
      refine va_get (ci := 3) (v := .int o9) (C := RX3) (T := TX3) (N := 9) hx hb hts hinX3 hown hK hP 4 rfl rfl 4 (by decide) (hts _ (List.mem_of_getElem? (i := 4) rfl)) (fun _ h9 => h9) rfl dX8_lost_72 ?_
      refine va_mabs hx hb (hml.trans hl.1.symm) hown (hts _ (List.mem_of_getElem? (i := 5) rfl)) (hts _ (List.mem_of_getElem? (i := 6) rfl)) (hts _ (List.mem_of_getElem? (i := 7) rfl)) (hts _ (List.mem_of_getElem? (i := 8) rfl)) (Nat.le_of_ble_eq_true rfl) (Nat.le_of_ble_eq_true rfl) (Nat.zero_le _) (Nat.zero_le _) dX8_lost_75 ?_
      refine lv_i2l (v := ((if 0 ≤ o9 then o9 else 0 - o9).toInt64)) hx hb dX8_lost_78 rfl ?_
      refine lv_ladd hx hb dX8_lost_79 ?_
      refine lv_lstore (lv' := [(4, .long (y4 + ((if 0 ≤ o9 then o9 else 0 - o9).toInt64))), (0, .ref h0), (1, .int x1), (2, .int x2), (3, .int y3), (6, .int y6)]) hx hb dX8_lost_80 hl (by decide) rfl (fun ls hl => ?_)
      refine lv_iinc (v := (y6 + 1)) (lv' := [(6, .int (y6 + 1)), (4, .long (y4 + ((if 0 ≤ o9 then o9 else 0 - o9).toInt64))), (0, .ref h0), (1, .int x1), (2, .int x2), (3, .int y3)]) hx hb dX8_lost_82 hl (k := 5) rfl rfl (by decide) rfl (fun ls hl => ?_)
      refine lv_goto (tgt := 43) hx hb dX8_lost_85 (by decide) ?_
      exact ih y3 (y4 + ((if 0 ≤ o9 then o9 else 0 - o9).toInt64)) (y6 + 1) o7 o8 o9 o10 o11 o12 o13 c0_trial_numbers o6 p0_0 p0_1 p0_2 p0_3 p0_4 p0_5 p0_6 p0_7 p0_8 _ _ _ hP hD hS (lv_sub hl [2, 3, 4, 5, 1, 0] rfl) hok K
  unfold fX8_lost at hok
  refine lv_iload_n hx hb dX8_lost_0 rfl (lv_at hl 1 rfl) ?_
  obtain ⟨r1, hq, hok⟩ := g_bnd1 hok
  refine cG (is := []) (wc := (wm_X0_find cA)) (w1 := (wm_X0_find cA)) (rv := (some (.int r1))) (st1 := [.int r1]) (va_runS (Ts := wsX8_lost) (As := [.int x1]) (rest := []) ⟨hx, hb, hml, hown, hts⟩ (c_X8_isInput l G cA ts x1 r1 hq s.heap.size) (va_cwS 1 hts gX8_lost_X8_isInput rfl rfl rfl (by decide +kernel) ⟨Nat.le_of_ble_eq_true rfl, Nat.le_of_ble_eq_true rfl⟩) (pre_S (is := []) hP hD hS hA hK hZ (by decide +kernel) (by rfl)) rfl rfl hl.1 rfl (by exact lv_room (Nat.le_of_ble_eq_true rfl)) dX8_lost_1 ⟨Nat.le_refl _, Nat.le_refl _⟩) hP hD hS hA (by decide +kernel) (by rfl) (by rfl) rfl (fun H locs hP hD hS => ?_)
  have hP : va_P G vwCl (wm_X8_next cA h0 h0_filter h0_filter_numbers h0_filter_words h0_trial h0_trial_numbers h0_trial_words h0_kept h0_ways h0_spread h0_course h0_rows h0_changes h0_tape h0_bodies h0_causes s0__hasImage s0__hasCauses s0__stepsDone s0_filter__all s0_filter__v s0_filter__loss s0_filter__result s0_filter__over s0_filter__heldAll s0_filter__heldRounded s0_filter_numbers s0_filter_words s0_trial__all s0_trial__v s0_trial__loss s0_trial__result s0_trial__over s0_trial__heldAll s0_trial__heldRounded s0_trial_numbers s0_trial_words) H := hP
  have hD : va_D A (wm_X8_next cA h0 h0_filter h0_filter_numbers h0_filter_words h0_trial h0_trial_numbers h0_trial_words h0_kept h0_ways h0_spread h0_course h0_rows h0_changes h0_tape h0_bodies h0_causes s0__hasImage s0__hasCauses s0__stepsDone s0_filter__all s0_filter__v s0_filter__loss s0_filter__result s0_filter__over s0_filter__heldAll s0_filter__heldRounded s0_filter_numbers s0_filter_words s0_trial__all s0_trial__v s0_trial__loss s0_trial__result s0_trial__over s0_trial__heldAll s0_trial__heldRounded s0_trial_numbers s0_trial_words) := hD
  refine lv_if_eq (tgt := 14) hx hb dX8_lost_4 (by decide) (fun c => ?_) (fun c => ?_)
  · replace hok := g_pos hok c
    refine lv_ldc2 (v := -9223372036854775808) hx hb hown (hts _ (List.mem_of_getElem? (i := 1) rfl)) dX8_lost_14 ?_
    cases hok
    exact cr_l hx hb hr hlocks hQ dX8_lost_17 hP hS
  replace hok := g_neg hok c
  refine lv_iload_n hx hb dX8_lost_7 rfl (lv_at hl 2 rfl) ?_
  obtain ⟨r2, hq, hok⟩ := g_bnd1 hok
  refine cG (is := []) (wc := (wm_X0_find cA)) (w1 := (wm_X0_find cA)) (rv := (some (.int r2))) (st1 := [.int r2]) (va_runS (Ts := wsX8_lost) (As := [.int x2]) (rest := []) ⟨hx, hb, hml, hown, hts⟩ (c_X8_isPart l G cA ts x2 r2 hq H.size) (va_cwS 1 hts gX8_lost_X8_isPart rfl rfl rfl (by decide +kernel) ⟨Nat.le_of_ble_eq_true rfl, Nat.le_of_ble_eq_true rfl⟩) (pre_S (is := []) hP hD hS hA hK hZ (by decide +kernel) (by rfl)) rfl rfl hl.1 rfl (by exact lv_room (Nat.le_of_ble_eq_true rfl)) dX8_lost_8 ⟨Nat.le_refl _, Nat.le_refl _⟩) hP hD hS hA (by decide +kernel) (by rfl) (by rfl) rfl (fun H locs hP hD hS => ?_)
  have hP : va_P G vwCl (wm_X8_next cA h0 h0_filter h0_filter_numbers h0_filter_words h0_trial h0_trial_numbers h0_trial_words h0_kept h0_ways h0_spread h0_course h0_rows h0_changes h0_tape h0_bodies h0_causes s0__hasImage s0__hasCauses s0__stepsDone s0_filter__all s0_filter__v s0_filter__loss s0_filter__result s0_filter__over s0_filter__heldAll s0_filter__heldRounded s0_filter_numbers s0_filter_words s0_trial__all s0_trial__v s0_trial__loss s0_trial__result s0_trial__over s0_trial__heldAll s0_trial__heldRounded s0_trial_numbers s0_trial_words) H := hP
  have hD : va_D A (wm_X8_next cA h0 h0_filter h0_filter_numbers h0_filter_words h0_trial h0_trial_numbers h0_trial_words h0_kept h0_ways h0_spread h0_course h0_rows h0_changes h0_tape h0_bodies h0_causes s0__hasImage s0__hasCauses s0__stepsDone s0_filter__all s0_filter__v s0_filter__loss s0_filter__result s0_filter__over s0_filter__heldAll s0_filter__heldRounded s0_filter_numbers s0_filter_words s0_trial__all s0_trial__v s0_trial__loss s0_trial__result s0_trial__over s0_trial__heldAll s0_trial__heldRounded s0_trial_numbers s0_trial_words) := hD
  refine lv_if_ne (tgt := 18) hx hb dX8_lost_11 (by decide) (fun c => ?_) (fun c => ?_)
  · replace hok := g_neg hok c
    refine lv_aload_n hx hb dX8_lost_18 rfl (lv_at hl 0 rfl) ?_
    refine va_get (ci := 8) (v := .ref h0_trial) (C := RX8) (T := TX8) (N := 14) hx hb hts hinX8 hown hK hP 0 rfl rfl 1 (by decide) (hts _ (List.mem_of_getElem? (i := 2) rfl)) (fun _ h9 => h9) rfl dX8_lost_19 ?_
    refine lv_aload_n hx hb dX8_lost_22 rfl (lv_at hl 0 rfl) ?_
    refine va_get (ci := 8) (v := .ref h0_filter) (C := RX8) (T := TX8) (N := 14) hx hb hts hinX8 hown hK hP 0 rfl rfl 0 (by decide) (hts _ (List.mem_of_getElem? (i := 3) rfl)) (fun _ h9 => h9) rfl dX8_lost_23 ?_
    obtain ⟨o3, o4, hq, hok⟩ := g_bnd2 hok
    refine cG (is := [4, 5, 6, 1, 2, 3]) (wc := (wm_X3_take cA h0_trial h0_trial_numbers h0_trial_words h0_filter h0_filter_numbers h0_filter_words s0_trial__all s0_trial__v s0_trial__loss s0_trial__result s0_trial__over s0_trial__heldAll s0_trial__heldRounded s0_trial_numbers s0_trial_words s0_filter__all s0_filter__v s0_filter__loss s0_filter__result s0_filter__over s0_filter__heldAll s0_filter__heldRounded s0_filter_numbers s0_filter_words)) (w1 := (wm_X3_take cA h0_trial h0_trial_numbers h0_trial_words h0_filter h0_filter_numbers h0_filter_words s0_trial__all s0_trial__v s0_trial__loss s0_trial__result s0_trial__over s0_trial__heldAll s0_trial__heldRounded o3 o4 s0_filter__all s0_filter__v s0_filter__loss s0_filter__result s0_filter__over s0_filter__heldAll s0_filter__heldRounded s0_filter_numbers s0_filter_words)) (rv := none) (st1 := []) (va_runV (Ts := wsX8_lost) (As := [.ref h0_filter]) (rest := []) ⟨hx, hb, hml, hown, hts⟩ (c_X3_take l G cA ts h0_trial h0_trial_numbers h0_trial_words h0_filter h0_filter_numbers h0_filter_words s0_trial__all s0_trial__v s0_trial__loss s0_trial__result s0_trial__over s0_trial__heldAll s0_trial__heldRounded s0_trial_numbers s0_trial_words s0_filter__all s0_filter__v s0_filter__loss s0_filter__result s0_filter__over s0_filter__heldAll s0_filter__heldRounded s0_filter_numbers s0_filter_words o3 o4 hq H.size) (cwV 1 hts gX8_lost_X3_take rfl rfl rfl (by decide +kernel) ⟨Nat.le_of_ble_eq_true rfl, Nat.le_of_ble_eq_true rfl⟩) (pre_V (ci := 3) (q0 := 4) (is := [4, 5, 6, 1, 2, 3]) rfl rfl hP hD hS hA hK hZ (by decide +kernel) (by rfl)) rfl rfl hl.1 rfl (by exact lv_room (Nat.le_of_ble_eq_true rfl)) dX8_lost_26 ⟨Nat.le_refl _, Nat.le_refl _⟩) hP hD hS hA (by decide +kernel) (by rfl) (by rfl) rfl (fun H locs hP hD hS => ?_)
    have hP : va_P G vwCl (wm_X8_next cA h0 h0_filter h0_filter_numbers h0_filter_words h0_trial h0_trial_numbers h0_trial_words h0_kept h0_ways h0_spread h0_course h0_rows h0_changes h0_tape h0_bodies h0_causes s0__hasImage s0__hasCauses s0__stepsDone s0_filter__all s0_filter__v s0_filter__loss s0_filter__result s0_filter__over s0_filter__heldAll s0_filter__heldRounded s0_filter_numbers s0_filter_words s0_trial__all s0_trial__v s0_trial__loss s0_trial__result s0_trial__over s0_trial__heldAll s0_trial__heldRounded o3 o4) H := hP
    have hD : va_D A (wm_X8_next cA h0 h0_filter h0_filter_numbers h0_filter_words h0_trial h0_trial_numbers h0_trial_words h0_kept h0_ways h0_spread h0_course h0_rows h0_changes h0_tape h0_bodies h0_causes s0__hasImage s0__hasCauses s0__stepsDone s0_filter__all s0_filter__v s0_filter__loss s0_filter__result s0_filter__over s0_filter__heldAll s0_filter__heldRounded s0_filter_numbers s0_filter_words s0_trial__all s0_trial__v s0_trial__loss s0_trial__result s0_trial__over s0_trial__heldAll s0_trial__heldRounded o3 o4) := hD
    refine lv_aload_n hx hb dX8_lost_29 rfl (lv_at hl 0 rfl) ?_
    refine va_get (ci := 8) (v := .ref h0_filter) (C := RX8) (T := TX8) (N := 14) hx hb hts hinX8 hown hK hP 0 rfl rfl 0 (by decide) (hts _ (List.mem_of_getElem? (i := 3) rfl)) (fun _ h9 => h9) rfl dX8_lost_30 ?_
    obtain ⟨r5, hq, hok⟩ := g_bnd1 hok
    refine cG (is := [1, 2]) (wc := (wm_X3_unit cA h0_filter h0_filter_numbers h0_filter_words s0_filter__all s0_filter__v s0_filter__loss s0_filter__result s0_filter__over s0_filter__heldAll s0_filter__heldRounded s0_filter_numbers)) (w1 := (wm_X3_unit cA h0_filter h0_filter_numbers h0_filter_words s0_filter__all s0_filter__v s0_filter__loss s0_filter__result s0_filter__over s0_filter__heldAll s0_filter__heldRounded s0_filter_numbers)) (rv := (some (.int r5))) (st1 := [.int r5]) (va_runV (Ts := wsX8_lost) (As := []) (rest := []) ⟨hx, hb, hml, hown, hts⟩ (c_X3_howManyPasts l G cA ts h0_filter h0_filter_numbers h0_filter_words s0_filter__all s0_filter__v s0_filter__loss s0_filter__result s0_filter__over s0_filter__heldAll s0_filter__heldRounded s0_filter_numbers r5 hq H.size) (cwV 0 hts gX8_lost_X3_howManyPasts rfl rfl rfl (by decide +kernel) ⟨Nat.le_of_ble_eq_true rfl, Nat.le_of_ble_eq_true rfl⟩) (pre_V (ci := 3) (q0 := 1) (is := [1, 2]) rfl rfl hP hD hS hA hK hZ (by decide +kernel) (by rfl)) rfl rfl hl.1 rfl (by exact lv_room (Nat.le_of_ble_eq_true rfl)) dX8_lost_33 ⟨Nat.le_refl _, Nat.le_refl _⟩) hP hD hS hA (by decide +kernel) (by rfl) (by rfl) rfl (fun H locs hP hD hS => ?_)
    have hP : va_P G vwCl (wm_X8_next cA h0 h0_filter h0_filter_numbers h0_filter_words h0_trial h0_trial_numbers h0_trial_words h0_kept h0_ways h0_spread h0_course h0_rows h0_changes h0_tape h0_bodies h0_causes s0__hasImage s0__hasCauses s0__stepsDone s0_filter__all s0_filter__v s0_filter__loss s0_filter__result s0_filter__over s0_filter__heldAll s0_filter__heldRounded s0_filter_numbers s0_filter_words s0_trial__all s0_trial__v s0_trial__loss s0_trial__result s0_trial__over s0_trial__heldAll s0_trial__heldRounded o3 o4) H := hP
    have hD : va_D A (wm_X8_next cA h0 h0_filter h0_filter_numbers h0_filter_words h0_trial h0_trial_numbers h0_trial_words h0_kept h0_ways h0_spread h0_course h0_rows h0_changes h0_tape h0_bodies h0_causes s0__hasImage s0__hasCauses s0__stepsDone s0_filter__all s0_filter__v s0_filter__loss s0_filter__result s0_filter__over s0_filter__heldAll s0_filter__heldRounded s0_filter_numbers s0_filter_words s0_trial__all s0_trial__v s0_trial__loss s0_trial__result s0_trial__over s0_trial__heldAll s0_trial__heldRounded o3 o4) := hD
    refine lv_istore_n (lv' := [(3, .int r5), (0, .ref h0), (1, .int x1), (2, .int x2)]) hx hb dX8_lost_36 rfl hl (by decide) rfl (fun ls hl => ?_)
    refine lv_lconst (v := 0) hx hb dX8_lost_37 (by decide) ?_
    refine lv_lstore (lv' := [(4, .long (0:Int64)), (3, .int r5), (0, .ref h0), (1, .int x1), (2, .int x2)]) hx hb dX8_lost_38 hl (by decide) rfl (fun ls hl => ?_)
    refine lv_iconst (v := 0) hx hb dX8_lost_40 (by decide) ?_
    refine lv_istore (lv' := [(6, .int (0:Int32)), (4, .long (0:Int64)), (3, .int r5), (0, .ref h0), (1, .int x1), (2, .int x2)]) hx hb dX8_lost_41 hl (by decide) rfl (fun ls hl => ?_)
    obtain ⟨o14, o15, o16, o17, o18, o19, o20, o21, o22, hq, hok⟩ := g_bnd9 hok
    refine L_43 FUEL r5 (0:Int64) (0:Int32) s0_trial__all s0_trial__v s0_trial__loss s0_trial__result s0_trial__over s0_trial__heldAll s0_trial__heldRounded o3 o4 o14 o15 o16 o17 o18 o19 o20 o21 o22 _ _ _ hP hD hS (lv_sub hl [3, 4, 5, 2, 1, 0] rfl) hq (fun H locs ls hP hD hS hl => ?_)
    refine lv_lload hx hb dX8_lost_88 (lv_at hl 3 rfl) ?_
    refine lv_aload_n hx hb dX8_lost_90 rfl (lv_at hl 0 rfl) ?_
    refine va_get (ci := 8) (v := .ref h0_filter) (C := RX8) (T := TX8) (N := 14) hx hb hts hinX8 hown hK hP 0 rfl rfl 0 (by decide) (hts _ (List.mem_of_getElem? (i := 3) rfl)) (fun _ h9 => h9) rfl dX8_lost_91 ?_
    obtain ⟨r23, hq, hok⟩ := g_bnd1 hok
    refine cG (is := [1, 2]) (wc := (wm_X3_unit cA h0_filter h0_filter_numbers h0_filter_words s0_filter__all s0_filter__v s0_filter__loss s0_filter__result s0_filter__over s0_filter__heldAll s0_filter__heldRounded s0_filter_numbers)) (w1 := (wm_X3_unit cA h0_filter h0_filter_numbers h0_filter_words s0_filter__all s0_filter__v s0_filter__loss s0_filter__result s0_filter__over s0_filter__heldAll s0_filter__heldRounded s0_filter_numbers)) (rv := (some (.int r23))) (st1 := [.int r23, .long o14]) (va_runV (Ts := wsX8_lost) (As := []) (rest := [.long o14]) ⟨hx, hb, hml, hown, hts⟩ (c_X3_unit l G cA ts h0_filter h0_filter_numbers h0_filter_words s0_filter__all s0_filter__v s0_filter__loss s0_filter__result s0_filter__over s0_filter__heldAll s0_filter__heldRounded s0_filter_numbers r23 hq H.size) (cwV 0 hts gX8_lost_X3_unit rfl rfl rfl (by decide +kernel) ⟨Nat.le_of_ble_eq_true rfl, Nat.le_of_ble_eq_true rfl⟩) (pre_V (ci := 3) (q0 := 1) (is := [1, 2]) rfl rfl hP hD hS hA hK hZ (by decide +kernel) (by rfl)) rfl rfl hl.1 rfl (by exact lv_room (Nat.le_of_ble_eq_true rfl)) dX8_lost_94 ⟨Nat.le_refl _, Nat.le_refl _⟩) hP hD hS hA (by decide +kernel) (by rfl) (by rfl) rfl (fun H locs hP hD hS => ?_)
    have hP : va_P G vwCl (wm_X8_next cA h0 h0_filter h0_filter_numbers h0_filter_words h0_trial h0_trial_numbers h0_trial_words h0_kept h0_ways h0_spread h0_course h0_rows h0_changes h0_tape h0_bodies h0_causes s0__hasImage s0__hasCauses s0__stepsDone s0_filter__all s0_filter__v s0_filter__loss s0_filter__result s0_filter__over s0_filter__heldAll s0_filter__heldRounded s0_filter_numbers s0_filter_words o15 o16 o17 o18 o19 o20 o21 o3 o22) H := hP
    have hD : va_D A (wm_X8_next cA h0 h0_filter h0_filter_numbers h0_filter_words h0_trial h0_trial_numbers h0_trial_words h0_kept h0_ways h0_spread h0_course h0_rows h0_changes h0_tape h0_bodies h0_causes s0__hasImage s0__hasCauses s0__stepsDone s0_filter__all s0_filter__v s0_filter__loss s0_filter__result s0_filter__over s0_filter__heldAll s0_filter__heldRounded s0_filter_numbers s0_filter_words o15 o16 o17 o18 o19 o20 o21 o3 o22) := hD
    refine lv_i2l (v := (r23.toInt64)) hx hb dX8_lost_97 rfl ?_
    refine lv_iload_n hx hb dX8_lost_98 rfl (lv_at hl 2 rfl) ?_
    refine lv_i2l (v := (r5.toInt64)) hx hb dX8_lost_99 rfl ?_
    refine lv_lmul hx hb dX8_lost_100 ?_
    refine lv_iload_n hx hb dX8_lost_101 rfl (lv_at hl 1 rfl) ?_
    obtain ⟨r24, hq, hok⟩ := g_bnd1 hok
    refine cG (is := []) (wc := (wm_X0_find cA)) (w1 := (wm_X0_find cA)) (rv := (some (.long r24))) (st1 := [.long r24]) (va_runS (Ts := wsX8_lost) (As := [.long o14, .long ((r23.toInt64) * (r5.toInt64)), .int x2]) (rest := []) ⟨hx, hb, hml, hown, hts⟩ (c_X8_inLowestTerms l G cA ts o14 ((r23.toInt64) * (r5.toInt64)) x2 r24 hq H.size) (va_cwS 3 hts gX8_lost_X8_inLowestTerms rfl rfl rfl (by decide +kernel) ⟨Nat.le_of_ble_eq_true rfl, Nat.le_of_ble_eq_true rfl⟩) (pre_S (is := []) hP hD hS hA hK hZ (by decide +kernel) (by rfl)) rfl rfl hl.1 rfl (by exact lv_room (Nat.le_of_ble_eq_true rfl)) dX8_lost_102 ⟨Nat.le_refl _, Nat.le_refl _⟩) hP hD hS hA (by decide +kernel) (by rfl) (by rfl) rfl (fun H locs hP hD hS => ?_)
    have hP : va_P G vwCl (wm_X8_next cA h0 h0_filter h0_filter_numbers h0_filter_words h0_trial h0_trial_numbers h0_trial_words h0_kept h0_ways h0_spread h0_course h0_rows h0_changes h0_tape h0_bodies h0_causes s0__hasImage s0__hasCauses s0__stepsDone s0_filter__all s0_filter__v s0_filter__loss s0_filter__result s0_filter__over s0_filter__heldAll s0_filter__heldRounded s0_filter_numbers s0_filter_words o15 o16 o17 o18 o19 o20 o21 o3 o22) H := hP
    have hD : va_D A (wm_X8_next cA h0 h0_filter h0_filter_numbers h0_filter_words h0_trial h0_trial_numbers h0_trial_words h0_kept h0_ways h0_spread h0_course h0_rows h0_changes h0_tape h0_bodies h0_causes s0__hasImage s0__hasCauses s0__stepsDone s0_filter__all s0_filter__v s0_filter__loss s0_filter__result s0_filter__over s0_filter__heldAll s0_filter__heldRounded s0_filter_numbers s0_filter_words o15 o16 o17 o18 o19 o20 o21 o3 o22) := hD
    cases hok
    exact cr_l hx hb hr hlocks hQ dX8_lost_105 hP hS
  replace hok := g_pos hok c
  refine lv_ldc2 (v := -9223372036854775808) hx hb hown (hts _ (List.mem_of_getElem? (i := 1) rfl)) dX8_lost_14 ?_
  cases hok
  exact cr_l hx hb hr hlocks hQ dX8_lost_17 hP hS
