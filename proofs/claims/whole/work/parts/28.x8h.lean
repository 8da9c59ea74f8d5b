set_option maxHeartbeats 40000000 in
set_option maxRecDepth 100000 in
theorem c_X8_fits (l : Launch) (G : va_G) (cA : Nat → ClassId) (ts : Nat → Nat) (h0 : Nat) (h0_filter : Nat) (h0_filter_numbers : Nat) (h0_filter_words : Nat) (h0_trial : Nat) (h0_trial_numbers : Nat) (h0_trial_words : Nat) (h0_course : Nat) (h0_course_outputs : Nat) (h0_course_losses : Nat) (h0_rows : Nat) (h0_rows_e : Nat → Nat) (h0_rows_e_places : Nat → Nat) (h0_kept : Nat) (h0_ways : Nat) (h0_spread : Nat) (h0_changes : Nat) (h0_tape : Nat) (h0_bodies : Nat) (h0_causes : Nat) (x1 : Int32) (x2 : Int32) (x3 : Int32) (s0__hasImage : Int32) (s0__hasCauses : Int32) (s0__stepsDone : Int32) (s0_filter__all : Int32) (s0_filter__v : Int32) (s0_filter__loss : Int32) (s0_filter__result : Int32) (s0_filter__over : Int32) (s0_filter__heldAll : Int32) (s0_filter__heldRounded : Int32) (s0_filter_numbers : Nat → Int32) (s0_filter_words : Nat → Int32) (s0_trial__all : Int32) (s0_trial__v : Int32) (s0_trial__loss : Int32) (s0_trial__result : Int32) (s0_trial__over : Int32) (s0_trial__heldAll : Int32) (s0_trial__heldRounded : Int32) (s0_trial_numbers : Nat → Int32) (s0_trial_words : Nat → Int32) (s0_course__length : Int32) (s0_course__overs : Int32) (s0_course__halted : Int32) (s0_course__haltedBy : Int32) (s0_course_outputs : Nat → Int32) (s0_course_losses : Nat → Int32) (s0_rows_e__sort : Nat → Int32) (s0_rows_e__size : Nat → Int32) (s0_rows_e_places : Nat → Nat → Int64) (r : Int32) (o0_trial__all : Int32) (o0_trial__v : Int32) (o0_trial__loss : Int32) (o0_trial__result : Int32) (o0_trial__over : Int32) (o0_trial__heldAll : Int32) (o0_trial__heldRounded : Int32) (o0_trial_numbers : Nat → Int32) (o0_trial_words : Nat → Int32) (o0_course__length : Int32) (o0_course__overs : Int32) (o0_course__halted : Int32) (o0_course__haltedBy : Int32) (o0_course_outputs : Nat → Int32) (o0_course_losses : Nat → Int32) (hok : fX8_fits x1 x2 x3 s0_filter_numbers s0_filter_words s0_trial__all s0_trial__v s0_trial__loss s0_trial__result s0_trial__over s0_trial__heldAll s0_trial__heldRounded s0_trial_numbers s0_trial_words s0_course__length s0_course__overs s0_course__halted s0_course__haltedBy s0_course_outputs s0_course_losses s0_rows_e__sort s0_rows_e__size s0_rows_e_places = some (r, o0_trial__all, o0_trial__v, o0_trial__loss, o0_trial__result, o0_trial__over, o0_trial__heldAll, o0_trial__heldRounded, o0_trial_numbers, o0_trial_words, o0_course__length, o0_course__overs, o0_course__halted, o0_course__haltedBy, o0_course_outputs, o0_course_losses)) : Ct l G cA ts yX8_fits wsX8_fits 6 149 [.ref h0, .int x1, .int x2, .int x3] (wm_X8_followInThought cA h0 h0_filter h0_filter_numbers h0_filter_words h0_trial h0_trial_numbers h0_trial_words h0_course h0_course_outputs h0_course_losses h0_rows h0_rows_e h0_rows_e_places h0_kept h0_ways h0_spread h0_changes h0_tape h0_bodies h0_causes s0__hasImage s0__hasCauses s0__stepsDone s0_filter__all s0_filter__v s0_filter__loss s0_filter__result s0_filter__over s0_filter__heldAll s0_filter__heldRounded s0_filter_numbers s0_filter_words s0_trial__all s0_trial__v s0_trial__loss s0_trial__result s0_trial__over s0_trial__heldAll s0_trial__heldRounded s0_trial_numbers s0_trial_words s0_course__length s0_course__overs s0_course__halted s0_course__haltedBy s0_course_outputs s0_course_losses s0_rows_e__sort s0_rows_e__size s0_rows_e_places) (wm_X8_followInThought cA h0 h0_filter h0_filter_numbers h0_filter_words h0_trial h0_trial_numbers h0_trial_words h0_course h0_course_outputs h0_course_losses h0_rows h0_rows_e h0_rows_e_places h0_kept h0_ways h0_spread h0_changes h0_tape h0_bodies h0_causes s0__hasImage s0__hasCauses s0__stepsDone s0_filter__all s0_filter__v s0_filter__loss s0_filter__result s0_filter__over s0_filter__heldAll s0_filter__heldRounded s0_filter_numbers s0_filter_words o0_trial__all o0_trial__v o0_trial__loss o0_trial__result o0_trial__over o0_trial__heldAll o0_trial__heldRounded o0_trial_numbers o0_trial_words o0_course__length o0_course__overs o0_course__halted o0_course__haltedBy o0_course_outputs o0_course_losses s0_rows_e__sort s0_rows_e__size s0_rows_e_places) (some (.int r)) := by
  refine Ct.intro (cc := cX8_fits) (maxL := 9) (ret := some .int) (by decide +kernel) rfl (Nat.le_of_ble_eq_true rfl) ?_
  intro p e s m ar below meth c A Q hx hb hr hml hown hlocks hts hK hZ hA hQ hP hD hS ls hl
  have hown : s.vm.findClass RX8 = some m.cls := hown
  have hinX3 : ∀ w ∈ wsX30, w ∈ wsX8_fits := fun _ h => List.mem_cons_of_mem _ (List.mem_append_left _ (List.mem_append_left _ (List.mem_append_right _ (h))))
  have hinX8 : ∀ w ∈ wsX80, w ∈ wsX8_fits := fun _ h => List.mem_cons_of_mem _ (List.mem_append_left _ (List.mem_append_left _ (List.mem_append_left _ (List.mem_append_right _ (h)))))
  have hl : lv_has ls 9 [(0, .ref h0), (1, .int x1), (2, .int x2), (3, .int x3)] := hl
  have hP : va_P G vwCl (wm_X8_followInThought cA h0 h0_filter h0_filter_numbers h0_filter_words h0_trial h0_trial_numbers h0_trial_words h0_course h0_course_outputs h0_course_losses h0_rows h0_rows_e h0_rows_e_places h0_kept h0_ways h0_spread h0_changes h0_tape h0_bodies h0_causes s0__hasImage s0__hasCauses s0__stepsDone s0_filter__all s0_filter__v s0_filter__loss s0_filter__result s0_filter__over s0_filter__heldAll s0_filter__heldRounded s0_filter_numbers s0_filter_words s0_trial__all s0_trial__v s0_trial__loss s0_trial__result s0_trial__over s0_trial__heldAll s0_trial__heldRounded s0_trial_numbers s0_trial_words s0_course__length s0_course__overs s0_course__halted s0_course__haltedBy s0_course_outputs s0_course_losses s0_rows_e__sort s0_rows_e__size s0_rows_e_places) s.heap := hP
  have hD : va_D A (wm_X8_followInThought cA h0 h0_filter h0_filter_numbers h0_filter_words h0_trial h0_trial_numbers h0_trial_words h0_course h0_course_outputs h0_course_losses h0_rows h0_rows_e h0_rows_e_places h0_kept h0_ways h0_spread h0_changes h0_tape h0_bodies h0_causes s0__hasImage s0__hasCauses s0__stepsDone s0_filter__all s0_filter__v s0_filter__loss s0_filter__result s0_filter__over s0_filter__heldAll s0_filter__heldRounded s0_filter_numbers s0_filter_words s0_trial__all s0_trial__v s0_trial__loss s0_trial__result s0_trial__over s0_trial__heldAll s0_trial__heldRounded s0_trial_numbers s0_trial_words s0_course__length s0_course__overs s0_course__halted s0_course__haltedBy s0_course_outputs s0_course_losses s0_rows_e__sort s0_rows_e__size s0_rows_e_places) := hD
  have L_76 : ∀ (n : Nat) (y4 : Int32) (y5 : Int32) (y6 : Int32) (y7 : Int32) (y8 : Int32) (c0_trial__all : Int32) (c0_trial__v : Int32) (c0_trial__loss : Int32) (c0_trial__result : Int32) (c0_trial__over : Int32) (c0_trial__heldAll : Int32) (c0_trial__heldRounded : Int32) (c0_trial_numbers : Nat → Int32) (c0_trial_words : Nat → Int32) (c0_course__length : Int32) (c0_course__overs : Int32) (c0_course__halted : Int32) (c0_course__haltedBy : Int32) (c0_course_outputs : Nat → Int32) (c0_course_losses : Nat → Int32) (p0_0 : Int32) (p0_1 : Int32) (p0_2 : Int32) (p0_3 : Int32) (p0_4 : Int32) (p0_5 : Int32) (p0_6 : Int32) (p0_7 : Int32) (p0_8 : Int32) (p0_9 : Int32) (p0_10 : Nat → Int32) (p0_11 : Nat → Int32) (p0_12 : Int32) (p0_13 : Int32) (p0_14 : Int32) (p0_15 : Int32) (p0_16 : Nat → Int32) (p0_17 : Nat → Int32) (H : Heap) (locs : List Loc) (ls : Array Slot), va_P G vwCl (wm_X8_followInThought cA h0 h0_filter h0_filter_numbers h0_filter_words h0_trial h0_trial_numbers h0_trial_words h0_course h0_course_outputs h0_course_losses h0_rows h0_rows_e h0_rows_e_places h0_kept h0_ways h0_spread h0_changes h0_tape h0_bodies h0_causes s0__hasImage s0__hasCauses s0__stepsDone s0_filter__all s0_filter__v s0_filter__loss s0_filter__result s0_filter__over s0_filter__heldAll s0_filter__heldRounded s0_filter_numbers s0_filter_words c0_trial__all c0_trial__v c0_trial__loss c0_trial__result c0_trial__over c0_trial__heldAll c0_trial__heldRounded c0_trial_numbers c0_trial_words c0_course__length c0_course__overs c0_course__halted c0_course__haltedBy c0_course_outputs c0_course_losses s0_rows_e__sort s0_rows_e__size s0_rows_e_places) H → va_D A (wm_X8_followInThought cA h0 h0_filter h0_filter_numbers h0_filter_words h0_trial h0_trial_numbers h0_trial_words h0_course h0_course_outputs h0_course_losses h0_rows h0_rows_e h0_rows_e_places h0_kept h0_ways h0_spread h0_changes h0_tape h0_bodies h0_causes s0__hasImage s0__hasCauses s0__stepsDone s0_filter__all s0_filter__v s0_filter__loss s0_filter__result s0_filter__over s0_filter__heldAll s0_filter__heldRounded s0_filter_numbers s0_filter_words c0_trial__all c0_trial__v c0_trial__loss c0_trial__result c0_trial__over c0_trial__heldAll c0_trial__heldRounded c0_trial_numbers c0_trial_words c0_course__length c0_course__overs c0_course__halted c0_course__haltedBy c0_course_outputs c0_course_losses s0_rows_e__sort s0_rows_e__size s0_rows_e_places) → va_S A s.heap H locs → lv_has ls 9 [(0, .ref h0), (1, .int x1), (2, .int x2), (3, .int x3), (4, .int y4), (5, .int y5), (6, .int y6), (7, .int y7), (8, .int y8)] → fX8_fits_L76 x1 x2 x3 s0_filter_numbers s0_filter_words s0_rows_e__sort s0_rows_e__size s0_rows_e_places n y4 y5 y6 y7 y8 c0_trial__all c0_trial__v c0_trial__loss c0_trial__result c0_trial__over c0_trial__heldAll c0_trial__heldRounded c0_trial_numbers c0_trial_words c0_course__length c0_course__overs c0_course__halted c0_course__haltedBy c0_course_outputs c0_course_losses = some (p0_0, p0_1, p0_2, p0_3, p0_4, p0_5, p0_6, p0_7, p0_8, p0_9, p0_10, p0_11, p0_12, p0_13, p0_14, p0_15, p0_16, p0_17) → (∀ (H : Heap) (locs : List Loc) (ls : Array Slot), va_P G vwCl (wm_X8_followInThought cA h0 h0_filter h0_filter_numbers h0_filter_words h0_trial h0_trial_numbers h0_trial_words h0_course h0_course_outputs h0_course_losses h0_rows h0_rows_e h0_rows_e_places h0_kept h0_ways h0_spread h0_changes h0_tape h0_bodies h0_causes s0__hasImage s0__hasCauses s0__stepsDone s0_filter__all s0_filter__v s0_filter__loss s0_filter__result s0_filter__over s0_filter__heldAll s0_filter__heldRounded s0_filter_numbers s0_filter_words p0_3 p0_4 p0_5 p0_6 p0_7 p0_8 p0_9 p0_10 p0_11 p0_12 p0_13 p0_14 p0_15 p0_16 p0_17 s0_rows_e__sort s0_rows_e__size s0_rows_e_places) H → va_D A (wm_X8_followInThought cA h0 h0_filter h0_filter_numbers h0_filter_words h0_trial h0_trial_numbers h0_trial_words h0_course h0_course_outputs h0_course_losses h0_rows h0_rows_e h0_rows_e_places h0_kept h0_ways h0_spread h0_changes h0_tape h0_bodies h0_causes s0__hasImage s0__hasCauses s0__stepsDone s0_filter__all s0_filter__v s0_filter__loss s0_filter__result s0_filter__over s0_filter__heldAll s0_filter__heldRounded s0_filter_numbers s0_filter_words p0_3 p0_4 p0_5 p0_6 p0_7 p0_8 p0_9 p0_10 p0_11 p0_12 p0_13 p0_14 p0_15 p0_16 p0_17 s0_rows_e__sort s0_rows_e__size s0_rows_e_places) → va_S A s.heap H locs → lv_has ls 9 [(3, .int x3), (5, .int p0_0), (6, .int p0_1), (7, .int p0_2)] → W p l e (rmX 6 149) s m ar below meth c H locs 0 0 Q (F0 m 168 ls [])) → W p l e (rmX 6 149) s m ar below meth c H locs 0 0 Q (F0 m 76 ls []) := by
    intro n
    induction n with
    | zero =>
      intro y4 y5 y6 y7 y8 c0_trial__all c0_trial__v c0_trial__loss c0_trial__result c0_trial__over c0_trial__heldAll c0_trial__heldRounded c0_trial_numbers c0_trial_words c0_course__length c0_course__overs c0_course__halted c0_course__haltedBy c0_course_outputs c0_course_losses p0_0 p0_1 p0_2 p0_3 p0_4 p0_5 p0_6 p0_7 p0_8 p0_9 p0_10 p0_11 p0_12 p0_13 p0_14 p0_15 p0_16 p0_17 H locs ls hP hD hS hl hok
      rw [fX8_fits_L76] at hok
      cases hok
    | succ n ih =>
      intro y4 y5 y6 y7 y8 c0_trial__all c0_trial__v c0_trial__loss c0_trial__result c0_trial__over c0_trial__heldAll c0_trial__heldRounded c0_trial_numbers c0_trial_words c0_course__length c0_course__overs c0_course__halted c0_course__haltedBy c0_course_outputs c0_course_losses p0_0 p0_1 p0_2 p0_3 p0_4 p0_5 p0_6 p0_7 p0_8 p0_9 p0_10 p0_11 p0_12 p0_13 p0_14 p0_15 p0_16 p0_17 H locs ls hP hD hS hl hok K
      rw [fX8_fits_L76] at hok
      refine lv_iload hx hb dX8_fits_76 (lv_at hl 8 rfl) ?_
      refine va_gets hx hb hZ.1.1.1.1 hS hown (hts _ (List.mem_of_getElem? (i := 3) rfl)) (fun _ h9 => h9) dX8_fits_78 ?_
      refine lv_iload hx hb dX8_fits_81 (lv_at hl 4 rfl) ?_
      obtain ⟨hin, hok⟩ := g_no hok
      refine va_ti (v := .int (tb tLOW y4.toNatClampNeg)) hx hb hZ.1.1.1.2 hS hin rfl dX8_fits_83 ?_
      refine lv_icmp_lt (tgt := 168) hx hb dX8_fits_84 (by decide) (fun c => ?_) (fun c => ?_)
      · replace hok := g_pos hok c
        cases hok
        exact K _ _ _ hP hD hS (lv_sub hl [3, 5, 6, 7] rfl)
      replace hok := g_neg hok c
      refine lv_aload_n hx hb dX8_fits_87 rfl (lv_at hl 0 rfl) ?_
      refine va_get (ci := 8) (v := .ref h0_trial) (C := RX8) (T := TX8) (N := 14) hx hb hts hinX8 hown hK hP 0 rfl rfl 1 (by decide) (hts _ (List.mem_of_getElem? (i := 4) rfl)) (fun _ h9 => h9) rfl dX8_fits_88 ?_
      refine lv_aload_n hx hb dX8_fits_91 rfl (lv_at hl 0 rfl) ?_
      refine va_get (ci := 8) (v := .ref h0_filter) (C := RX8) (T := TX8) (N := 14) hx hb hts hinX8 hown hK hP 0 rfl rfl 0 (by decide) (hts _ (List.mem_of_getElem? (i := 5) rfl)) (fun _ h9 => h9) rfl dX8_fits_92 ?_
      obtain ⟨o5, o6, hq, hok⟩ := g_bnd2 hok
      refine cG (is := [4, 5, 6, 1, 2, 3]) (wc := (wm_X3_take cA h0_trial h0_trial_numbers h0_trial_words h0_filter h0_filter_numbers h0_filter_words c0_trial__all c0_trial__v c0_trial__loss c0_trial__result c0_trial__over c0_trial__heldAll c0_trial__heldRounded c0_trial_numbers c0_trial_words s0_filter__all s0_filter__v s0_filter__loss s0_filter__result s0_filter__over s0_filter__heldAll s0_filter__heldRounded s0_filter_numbers s0_filter_words)) (w1 := (wm_X3_take cA h0_trial h0_trial_numbers h0_trial_words h0_filter h0_filter_numbers h0_filter_words c0_trial__all c0_trial__v c0_trial__loss c0_trial__result c0_trial__over c0_trial__heldAll c0_trial__heldRounded o5 o6 s0_filter__all s0_filter__v s0_filter__loss s0_filter__result s0_filter__over s0_filter__heldAll s0_filter__heldRounded s0_filter_numbers s0_filter_words)) (rv := none) (st1 := []) (va_runV (Ts := wsX8_fits) (As := [.ref h0_filter]) (rest := []) ⟨hx, hb, hml, hown, hts⟩ (c_X3_take l G cA ts h0_trial h0_trial_numbers h0_trial_words h0_filter h0_filter_numbers h0_filter_words c0_trial__all c0_trial__v c0_trial__loss c0_trial__result c0_trial__over c0_trial__heldAll c0_trial__heldRounded c0_trial_numbers c0_trial_words s0_filter__all s0_filter__v s0_filter__loss s0_filter__result s0_filter__over s0_filter__heldAll s0_filter__heldRounded s0_filter_numbers s0_filter_words o5 o6 hq H.size) (cwV 1 hts gX8_fits_X3_take rfl rfl rfl (by decide +kernel) ⟨Nat.le_of_ble_eq_true rfl, Nat.le_of_ble_eq_true rfl⟩) (pre_V (ci := 3) (q0 := 4) (is := [4, 5, 6, 1, 2, 3]) rfl rfl hP hD hS hA hK hZ (by decide +kernel) (by rfl)) rfl rfl hl.1 rfl (by exact lv_room (Nat.le_of_ble_eq_true rfl)) dX8_fits_95 ⟨Nat.le_refl _, Nat.le_refl _⟩) hP hD hS hA (by decide +kernel) (by rfl) (by rfl) rfl (fun H locs hP hD hS => ?_)
      have hP : va_P G vwCl (wm_X8_followInThought cA h0 h0_filter h0_filter_numbers h0_filter_words h0_trial h0_trial_numbers h0_trial_words h0_course h0_course_outputs h0_course_losses h0_rows h0_rows_e h0_rows_e_places h0_kept h0_ways h0_spread h0_changes h0_tape h0_bodies h0_causes s0__hasImage s0__hasCauses s0__stepsDone s0_filter__all s0_filter__v s0_filter__loss s0_filter__result s0_filter__over s0_filter__heldAll s0_filter__heldRounded s0_filter_numbers s0_filter_words c0_trial__all c0_trial__v c0_trial__loss c0_trial__result c0_trial__over c0_trial__heldAll c0_trial__heldRounded o5 o6 c0_course__length c0_course__overs c0_course__halted c0_course__haltedBy c0_course_outputs c0_course_losses s0_rows_e__sort s0_rows_e__size s0_rows_e_places) H := hP
      have hD : va_D A (wm_X8_followInThought cA h0 h0_filter h0_filter_numbers h0_filter_words h0_trial h0_trial_numbers h0_trial_words h0_course h0_course_outputs h0_course_losses h0_rows h0_rows_e h0_rows_e_places h0_kept h0_ways h0_spread h0_changes h0_tape h0_bodies h0_causes s0__hasImage s0__hasCauses s0__stepsDone s0_filter__all s0_filter__v s0_filter__loss s0_filter__result s0_filter__over s0_filter__heldAll s0_filter__heldRounded s0_filter_numbers s0_filter_words c0_trial__all c0_trial__v c0_trial__loss c0_trial__result c0_trial__over c0_trial__heldAll c0_trial__heldRounded o5 o6 c0_course__length c0_course__overs c0_course__halted c0_course__haltedBy c0_course_outputs c0_course_losses s0_rows_e__sort s0_rows_e__size s0_rows_e_places) := hD
      refine lv_aload_n hx hb dX8_fits_98 rfl (lv_at hl 0 rfl) ?_
      refine va_get (ci := 8) (v := .ref h0_trial) (C := RX8) (T := TX8) (N := 14) hx hb hts hinX8 hown hK hP 0 rfl rfl 1 (by decide) (hts _ (List.mem_of_getElem? (i := 4) rfl)) (fun _ h9 => h9) rfl dX8_fits_99 ?_
      refine va_get (ci := 3) (v := .ref h0_trial_numbers) (C := RX3) (T := TX3) (N := 9) hx hb hts hinX3 hown hK hP 4 rfl rfl 0 (by decide) (hts _ (List.mem_of_getElem? (i := 6) rfl)) (fun _ h9 => h9) rfl dX8_fits_102 ?_
      refine lv_iload hx hb dX8_fits_105 (lv_at hl 4 rfl) ?_
      refine lv_iload hx hb dX8_fits_107 (lv_at hl 8 rfl) ?_
      obtain ⟨hin, hok⟩ := g_no hok
      refine x_iast (k := y4.toNatClampNeg) hx hb hK hP hD hS 5 0 rfl rfl hin rfl dX8_fits_109 (fun H locs hP hD hS => ?_)
      have hP : va_P G vwCl (wm_X8_followInThought cA h0 h0_filter h0_filter_numbers h0_filter_words h0_trial h0_trial_numbers h0_trial_words h0_course h0_course_outputs h0_course_losses h0_rows h0_rows_e h0_rows_e_places h0_kept h0_ways h0_spread h0_changes h0_tape h0_bodies h0_causes s0__hasImage s0__hasCauses s0__stepsDone s0_filter__all s0_filter__v s0_filter__loss s0_filter__result s0_filter__over s0_filter__heldAll s0_filter__heldRounded s0_filter_numbers s0_filter_words c0_trial__all c0_trial__v c0_trial__loss c0_trial__result c0_trial__over c0_trial__heldAll c0_trial__heldRounded (upd o5 y4.toNatClampNeg y8) o6 c0_course__length c0_course__overs c0_course__halted c0_course__haltedBy c0_course_outputs c0_course_losses s0_rows_e__sort s0_rows_e__size s0_rows_e_places) H := hP
      have hD : va_D A (wm_X8_followInThought cA h0 h0_filter h0_filter_numbers h0_filter_words h0_trial h0_trial_numbers h0_trial_words h0_course h0_course_outputs h0_course_losses h0_rows h0_rows_e h0_rows_e_places h0_kept h0_ways h0_spread h0_changes h0_tape h0_bodies h0_causes s0__hasImage s0__hasCauses s0__stepsDone s0_filter__all s0_filter__v s0_filter__loss s0_filter__result s0_filter__over s0_filter__heldAll s0_filter__heldRounded s0_filter_numbers s0_filter_words c0_trial__all c0_trial__v c0_trial__loss c0_trial__result c0_trial__over c0_trial__heldAll c0_trial__heldRounded (upd o5 y4.toNatClampNeg y8) o6 c0_course__length c0_course__overs c0_course__halted c0_course__haltedBy c0_course_outputs c0_course_losses s0_rows_e__sort s0_rows_e__size s0_rows_e_places) := hD
      refine lv_aload_n hx hb dX8_fits_110 rfl (lv_at hl 0 rfl) ?_
      refine va_get (ci := 8) (v := .ref h0_course) (C := RX8) (T := TX8) (N := 14) hx hb hts hinX8 hown hK hP 0 rfl rfl 6 (by decide) (hts _ (List.mem_of_getElem? (i := 7) rfl)) (fun _ h9 => h9) rfl dX8_fits_111 ?_
      refine lv_aload_n hx hb dX8_fits_114 rfl (lv_at hl 0 rfl) ?_
      refine va_get (ci := 8) (v := .ref h0_trial) (C := RX8) (T := TX8) (N := 14) hx hb hts hinX8 hown hK hP 0 rfl rfl 1 (by decide) (hts _ (List.mem_of_getElem? (i := 4) rfl)) (fun _ h9 => h9) rfl dX8_fits_115 ?_
      refine lv_aload_n hx hb dX8_fits_118 rfl (lv_at hl 0 rfl) ?_
      refine va_get (ci := 8) (v := .ref h0_rows) (C := RX8) (T := TX8) (N := 14) hx hb hts hinX8 hown hK hP 0 rfl rfl 7 (by decide) (hts _ (List.mem_of_getElem? (i := 8) rfl)) (fun _ h9 => h9) rfl dX8_fits_119 ?_
      refine lv_iload_n hx hb dX8_fits_122 rfl (lv_at hl 1 rfl) ?_
      obtain ⟨hin7, hok⟩ := g_no hok
      refine va_aldq hx hb hK hP 10 4 rfl rfl hin7 dX8_fits_123 ?_
      refine W.eq (congrArg (fun z => F0 m 124 ls (z :: [.ref h0_trial, .ref h0_course])) (rf_at (Nat.not_le.mp fun q => hin7 (Or.inr q)))) ?_
      obtain ⟨o8, o9, o10, o11, o12, o13, o14, o15, o16, o17, o18, o19, o20, o21, hq, hok⟩ := g_bnd14 hok
      refine cG (is := [7, 8, 9, 4, 5, 6, 11 + 2 * x1.toNatClampNeg, 12 + 2 * x1.toNatClampNeg]) (wc := (wm_X2_follow cA h0_course h0_course_outputs h0_course_losses h0_trial h0_trial_numbers h0_trial_words (h0_rows_e x1.toNatClampNeg) (h0_rows_e_places x1.toNatClampNeg) c0_course__length c0_course__overs c0_course__halted c0_course__haltedBy c0_course_outputs c0_course_losses c0_trial__all c0_trial__v c0_trial__loss c0_trial__result c0_trial__over c0_trial__heldAll c0_trial__heldRounded (upd o5 y4.toNatClampNeg y8) o6 (s0_rows_e__sort x1.toNatClampNeg) (s0_rows_e__size x1.toNatClampNeg) (s0_rows_e_places x1.toNatClampNeg))) (w1 := (wm_X2_follow cA h0_course h0_course_outputs h0_course_losses h0_trial h0_trial_numbers h0_trial_words (h0_rows_e x1.toNatClampNeg) (h0_rows_e_places x1.toNatClampNeg) o8 o9 o10 o11 o12 o13 o14 o15 o16 o17 o18 o19 o20 (upd o5 y4.toNatClampNeg y8) o21 (s0_rows_e__sort x1.toNatClampNeg) (s0_rows_e__size x1.toNatClampNeg) (s0_rows_e_places x1.toNatClampNeg))) (rv := none) (st1 := []) (va_runV (Ts := wsX8_fits) (As := [.ref h0_trial, .ref (h0_rows_e x1.toNatClampNeg)]) (rest := []) ⟨hx, hb, hml, hown, hts⟩ (c_X2_follow l G cA ts h0_course h0_course_outputs h0_course_losses h0_trial h0_trial_numbers h0_trial_words (h0_rows_e x1.toNatClampNeg) (h0_rows_e_places x1.toNatClampNeg) c0_course__length c0_course__overs c0_course__halted c0_course__haltedBy c0_course_outputs c0_course_losses c0_trial__all c0_trial__v c0_trial__loss c0_trial__result c0_trial__over c0_trial__heldAll c0_trial__heldRounded (upd o5 y4.toNatClampNeg y8) o6 (s0_rows_e__sort x1.toNatClampNeg) (s0_rows_e__size x1.toNatClampNeg) (s0_rows_e_places x1.toNatClampNeg) o8 o9 o10 o11 o12 o13 o14 o15 o16 o17 o18 o19 o20 o21 hq H.size) (cwV 2 hts gX8_fits_X2_follow rfl rfl rfl (by decide +kernel) ⟨Nat.le_of_ble_eq_true rfl, Nat.le_of_ble_eq_true rfl⟩) (pre_V (ci := 2) (q0 := 7) (is := [7, 8, 9, 4, 5, 6, 11 + 2 * x1.toNatClampNeg, 12 + 2 * x1.toNatClampNeg]) rfl rfl hP hD hS hA hK hZ (by rcases lt4 (Nat.not_le.mp fun q => hin7 (Or.inr q)) with e | e | e | e <;> rw [e] <;> rfl) (by rcases lt4 (Nat.not_le.mp fun q => hin7 (Or.inr q)) with e | e | e | e <;> rw [e] <;> rfl)) rfl rfl hl.1 rfl (by exact lv_room (Nat.le_of_ble_eq_true rfl)) dX8_fits_124 ⟨Nat.le_refl _, Nat.le_refl _⟩) hP hD hS hA (by rcases lt4 (Nat.not_le.mp fun q => hin7 (Or.inr q)) with e | e | e | e <;> rw [e] <;> rfl) (by rcases lt4 (Nat.not_le.mp fun q => hin7 (Or.inr q)) with e | e | e | e <;> rw [e] <;> rfl) (by rfl) rfl (fun H locs hP hD hS => ?_)
      obtain ⟨hP, hD⟩ : va_P G vwCl (wm_X8_followInThought cA h0 h0_filter h0_filter_numbers h0_filter_words h0_trial h0_trial_numbers h0_trial_words h0_course h0_course_outputs h0_course_losses h0_rows h0_rows_e h0_rows_e_places h0_kept h0_ways h0_spread h0_changes h0_tape h0_bodies h0_causes s0__hasImage s0__hasCauses s0__stepsDone s0_filter__all s0_filter__v s0_filter__loss s0_filter__result s0_filter__over s0_filter__heldAll s0_filter__heldRounded s0_filter_numbers s0_filter_words o14 o15 o16 o17 o18 o19 o20 (upd o5 y4.toNatClampNeg y8) o21 o8 o9 o10 o11 o12 o13 s0_rows_e__sort s0_rows_e__size s0_rows_e_places) H ∧ va_D A (wm_X8_followInThought cA h0 h0_filter h0_filter_numbers h0_filter_words h0_trial h0_trial_numbers h0_trial_words h0_course h0_course_outputs h0_course_losses h0_rows h0_rows_e h0_rows_e_places h0_kept h0_ways h0_spread h0_changes h0_tape h0_bodies h0_causes s0__hasImage s0__hasCauses s0__stepsDone s0_filter__all s0_filter__v s0_filter__loss s0_filter__result s0_filter__over s0_filter__heldAll s0_filter__heldRounded s0_filter_numbers s0_filter_words o14 o15 o16 o17 o18 o19 o20 (upd o5 y4.toNatClampNeg y8) o21 o8 o9 o10 o11 o12 o13 s0_rows_e__sort s0_rows_e__size s0_rows_e_places) := PD_eq hP hD (by rcases lt4 (Nat.not_le.mp fun q => hin7 (Or.inr q)) with e | e | e | e <;> rw [e] <;> rfl)
      refine lv_aload_n hx hb dX8_fits_127 rfl (lv_at hl 0 rfl) ?_
      refine va_get (ci := 8) (v := .ref h0_course) (C := RX8) (T := TX8) (N := 14) hx hb hts hinX8 hown hK hP 0 rfl rfl 6 (by decide) (hts _ (List.mem_of_getElem? (i := 7) rfl)) (fun _ h9 => h9) rfl dX8_fits_128 ?_
      refine lv_aload_n hx hb dX8_fits_131 rfl (lv_at hl 0 rfl) ?_
      refine va_get (ci := 8) (v := .ref h0_rows) (C := RX8) (T := TX8) (N := 14) hx hb hts hinX8 hown hK hP 0 rfl rfl 7 (by decide) (hts _ (List.mem_of_getElem? (i := 8) rfl)) (fun _ h9 => h9) rfl dX8_fits_132 ?_
      refine lv_iload_n hx hb dX8_fits_135 rfl (lv_at hl 2 rfl) ?_
      obtain ⟨hin22, hok⟩ := g_no hok
      refine va_aldq hx hb hK hP 10 4 rfl rfl hin22 dX8_fits_136 ?_
      refine W.eq (congrArg (fun z => F0 m 137 ls (z :: [.ref h0_course])) (rf_at (Nat.not_le.mp fun q => hin22 (Or.inr q)))) ?_
      obtain ⟨r23, hq, hok⟩ := g_bnd1 hok
      refine cG (is := [7, 8, 11 + 2 * x2.toNatClampNeg, 12 + 2 * x2.toNatClampNeg]) (wc := (wm_X2_howManyLike cA h0_course h0_course_outputs (h0_rows_e x2.toNatClampNeg) (h0_rows_e_places x2.toNatClampNeg) h0_course_losses o8 o9 o10 o11 o12 (s0_rows_e__sort x2.toNatClampNeg) (s0_rows_e__size x2.toNatClampNeg) (s0_rows_e_places x2.toNatClampNeg))) (w1 := (wm_X2_howManyLike cA h0_course h0_course_outputs (h0_rows_e x2.toNatClampNeg) (h0_rows_e_places x2.toNatClampNeg) h0_course_losses o8 o9 o10 o11 o12 (s0_rows_e__sort x2.toNatClampNeg) (s0_rows_e__size x2.toNatClampNeg) (s0_rows_e_places x2.toNatClampNeg))) (rv := (some (.int r23))) (st1 := [.int r23]) (va_runV (Ts := wsX8_fits) (As := [.ref (h0_rows_e x2.toNatClampNeg)]) (rest := []) ⟨hx, hb, hml, hown, hts⟩ (c_X2_hasAsFirst l G cA ts h0_course h0_course_outputs (h0_rows_e x2.toNatClampNeg) (h0_rows_e_places x2.toNatClampNeg) h0_course_losses o8 o9 o10 o11 o12 (s0_rows_e__sort x2.toNatClampNeg) (s0_rows_e__size x2.toNatClampNeg) (s0_rows_e_places x2.toNatClampNeg) r23 hq H.size) (cwV 1 hts gX8_fits_X2_hasAsFirst rfl rfl rfl (by decide +kernel) ⟨Nat.le_of_ble_eq_true rfl, Nat.le_of_ble_eq_true rfl⟩) (pre_V (ci := 2) (q0 := 7) (is := [7, 8, 11 + 2 * x2.toNatClampNeg, 12 + 2 * x2.toNatClampNeg]) rfl rfl hP hD hS hA hK hZ (by rcases lt4 (Nat.not_le.mp fun q => hin22 (Or.inr q)) with e | e | e | e <;> rw [e] <;> rfl) (by rcases lt4 (Nat.not_le.mp fun q => hin22 (Or.inr q)) with e | e | e | e <;> rw [e] <;> rfl)) rfl rfl hl.1 rfl (by exact lv_room (Nat.le_of_ble_eq_true rfl)) dX8_fits_137 ⟨Nat.le_refl _, Nat.le_refl _⟩) hP hD hS hA (by rcases lt4 (Nat.not_le.mp fun q => hin22 (Or.inr q)) with e | e | e | e <;> rw [e] <;> rfl) (by rcases lt4 (Nat.not_le.mp fun q => hin22 (Or.inr q)) with e | e | e | e <;> rw [e] <;> rfl) (by rfl) rfl (fun H locs hP hD hS => ?_)
      obtain ⟨hP, hD⟩ : va_P G vwCl (wm_X8_followInThought cA h0 h0_filter h0_filter_numbers h0_filter_words h0_trial h0_trial_numbers h0_trial_words h0_course h0_course_outputs h0_course_losses h0_rows h0_rows_e h0_rows_e_places h0_kept h0_ways h0_spread h0_changes h0_tape h0_bodies h0_causes s0__hasImage s0__hasCauses s0__stepsDone s0_filter__all s0_filter__v s0_filter__loss s0_filter__result s0_filter__over s0_filter__heldAll s0_filter__heldRounded s0_filter_numbers s0_filter_words o14 o15 o16 o17 o18 o19 o20 (upd o5 y4.toNatClampNeg y8) o21 o8 o9 o10 o11 o12 o13 s0_rows_e__sort s0_rows_e__size s0_rows_e_places) H ∧ va_D A (wm_X8_followInThought cA h0 h0_filter h0_filter_numbers h0_filter_words h0_trial h0_trial_numbers h0_trial_words h0_course h0_course_outputs h0_course_losses h0_rows h0_rows_e h0_rows_e_places h0_kept h0_ways h0_spread h0_changes h0_tape h0_bodies h0_causes s0__hasImage s0__hasCauses s0__stepsDone s0_filter__all s0_filter__v s0_filter__loss s0_filter__result s0_filter__over s0_filter__heldAll s0_filter__heldRounded s0_filter_numbers s0_filter_words o14 o15 o16 o17 o18 o19 o20 (upd o5 y4.toNatClampNeg y8) o21 o8 o9 o10 o11 o12 o13 s0_rows_e__sort s0_rows_e__size s0_rows_e_places) := PD_eq hP hD (by rcases lt4 (Nat.not_le.mp fun q => hin22 (Or.inr q)) with e | e | e | e <;> rw [e] <;> rfl)
      refine lv_if_eq (tgt := 162) hx hb dX8_fits_140 (by decide) (fun c => ?_) (fun c => ?_)
      · replace hok := g_pos hok c
        refine lv_iinc (v := (y8 + (-1))) (lv' := [(8, .int (y8 + (-1))), (0, .ref h0), (1, .int x1), (2, .int x2), (3, .int x3), (4, .int y4), (5, .int y5), (6, .int y6), (7, .int y7)]) hx hb dX8_fits_162 hl (k := 8) rfl rfl (by decide) rfl (fun ls hl => ?_)
        refine lv_goto (tgt := 76) hx hb dX8_fits_165 (by decide) ?_
        exact ih y4 y5 y6 y7 (y8 + (-1)) o14 o15 o16 o17 o18 o19 o20 (upd o5 y4.toNatClampNeg y8) o21 o8 o9 o10 o11 o12 o13 p0_0 p0_1 p0_2 p0_3 p0_4 p0_5 p0_6 p0_7 p0_8 p0_9 p0_10 p0_11 p0_12 p0_13 p0_14 p0_15 p0_16 p0_17 _ _ _ hP hD hS (lv_sub hl [1, 2, 3, 4, 5, 6, 7, 8, 0] rfl) hok K
      replace hok := g_neg hok c
      refine lv_iinc (v := (y6 + 1)) (lv' := [(6, .int (y6 + 1)), (0, .ref h0), (1, .int x1), (2, .int x2), (3, .int x3), (4, .int y4), (5, .int y5), (7, .int y7), (8, .int y8)]) hx hb dX8_fits_143 hl (k := 6) rfl rfl (by decide) rfl (fun ls hl => ?_)
      refine lv_iload hx hb dX8_fits_146 (lv_at hl 8 rfl) ?_
      refine lv_istore (lv' := [(7, .int y8), (6, .int (y6 + 1)), (0, .ref h0), (1, .int x1), (2, .int x2), (3, .int x3), (4, .int y4), (5, .int y5), (8, .int y8)]) hx hb dX8_fits_148 hl (by decide) rfl (fun ls hl => ?_)
      refine lv_iload hx hb dX8_fits_150 (lv_at hl 7 rfl) ?_
      refine lv_iconst (v := 1) hx hb dX8_fits_152 (by decide) ?_
      refine lv_iload hx hb dX8_fits_153 (lv_at hl 8 rfl) ?_
      refine lv_bipush (v := 31) hx hb dX8_fits_155 (by decide) ?_
      refine lv_iand hx hb dX8_fits_157 ?_
      refine lv_ishl hx hb dX8_fits_158 ?_
      refine lv_ior hx hb dX8_fits_159 ?_
      refine lv_istore (lv' := [(5, .int (y5 ||| ((1:Int32) <<< ((y8 &&& (31:Int32)) &&& 31)))), (7, .int y8), (6, .int (y6 + 1)), (0, .ref h0), (1, .int x1), (2, .int x2), (3, .int x3), (4, .int y4), (8, .int y8)]) hx hb dX8_fits_160 hl (by decide) rfl (fun ls hl => ?_)
      refine lv_iinc (v := (y8 + (-1))) (lv' := [(8, .int (y8 + (-1))), (5, .int (y5 ||| ((1:Int32) <<< ((y8 &&& (31:Int32)) &&& 31)))), (7, .int y8), (6, .int (y6 + 1)), (0, .ref h0), (1, .int x1), (2, .int x2), (3, .int x3), (4, .int y4)]) hx hb dX8_fits_162 hl (k := 8) rfl rfl (by decide) rfl (fun ls hl => ?_)
      refine lv_goto (tgt := 76) hx hb dX8_fits_165 (by decide) ?_
      exact ih y4 (y5 ||| ((1:Int32) <<< ((y8 &&& (31:Int32)) &&& 31))) (y6 + 1) y8 (y8 + (-1)) o14 o15 o16 o17 o18 o19 o20 (upd o5 y4.toNatClampNeg y8) o21 o8 o9 o10 o11 o12 o13 p0_0 p0_1 p0_2 p0_3 p0_4 p0_5 p0_6 p0_7 p0_8 p0_9 p0_10 p0_11 p0_12 p0_13 p0_14 p0_15 p0_16 p0_17 _ _ _ hP hD hS (lv_sub hl [4, 5, 6, 7, 8, 1, 3, 2, 0] rfl) hok K
  unfold fX8_fits at hok
  refine lv_iload_n hx hb dX8_fits_0 rfl (lv_at hl 1 rfl) ?_
  obtain ⟨r1, hq, hok⟩ := g_bnd1 hok
  refine cG (is := []) (wc := (wm_X0_find cA)) (w1 := (wm_X0_find cA)) (rv := (some (.int r1))) (st1 := [.int r1]) (va_runS (Ts := wsX8_fits) (As := [.int x1]) (rest := []) ⟨hx, hb, hml, hown, hts⟩ (c_X8_isRow l G cA ts x1 r1 hq s.heap.size) (va_cwS 1 hts gX8_fits_X8_isRow rfl rfl rfl (by decide +kernel) ⟨Nat.le_of_ble_eq_true rfl, Nat.le_of_ble_eq_true rfl⟩) (pre_S (is := []) hP hD hS hA hK hZ (by decide +kernel) (by rfl)) rfl rfl hl.1 rfl (by exact lv_room (Nat.le_of_ble_eq_true rfl)) dX8_fits_1 ⟨Nat.le_refl _, Nat.le_refl _⟩) hP hD hS hA (by decide +kernel) (by rfl) (by rfl) rfl (fun H locs hP hD hS => ?_)
  have hP : va_P G vwCl (wm_X8_followInThought cA h0 h0_filter h0_filter_numbers h0_filter_words h0_trial h0_trial_numbers h0_trial_words h0_course h0_course_outputs h0_course_losses h0_rows h0_rows_e h0_rows_e_places h0_kept h0_ways h0_spread h0_changes h0_tape h0_bodies h0_causes s0__hasImage s0__hasCauses s0__stepsDone s0_filter__all s0_filter__v s0_filter__loss s0_filter__result s0_filter__over s0_filter__heldAll s0_filter__heldRounded s0_filter_numbers s0_filter_words s0_trial__all s0_trial__v s0_trial__loss s0_trial__result s0_trial__over s0_trial__heldAll s0_trial__heldRounded s0_trial_numbers s0_trial_words s0_course__length s0_course__overs s0_course__halted s0_course__haltedBy s0_course_outputs s0_course_losses s0_rows_e__sort s0_rows_e__size s0_rows_e_places) H := hP
  have hD : va_D A (wm_X8_followInThought cA h0 h0_filter h0_filter_numbers h0_filter_words h0_trial h0_trial_numbers h0_trial_words h0_course h0_course_outputs h0_course_losses h0_rows h0_rows_e h0_rows_e_places h0_kept h0_ways h0_spread h0_changes h0_tape h0_bodies h0_causes s0__hasImage s0__hasCauses s0__stepsDone s0_filter__all s0_filter__v s0_filter__loss s0_filter__result s0_filter__over s0_filter__heldAll s0_filter__heldRounded s0_filter_numbers s0_filter_words s0_trial__all s0_trial__v s0_trial__loss s0_trial__result s0_trial__over s0_trial__heldAll s0_trial__heldRounded s0_trial_numbers s0_trial_words s0_course__length s0_course__overs s0_course__halted s0_course__haltedBy s0_course_outputs s0_course_losses s0_rows_e__sort s0_rows_e__size s0_rows_e_places) := hD
  refine lv_if_eq (tgt := 26) hx hb dX8_fits_4 (by decide) (fun c => ?_) (fun c => ?_)
  · replace hok := g_pos hok c
    refine lv_sipush (v := -1001) hx hb dX8_fits_26 (by decide) ?_
    obtain ⟨e, hok⟩ := g_pr hok
    try subst e
    obtain ⟨e, hok⟩ := g_pr hok
    try subst e
    obtain ⟨e, hok⟩ := g_pr hok
    try subst e
    obtain ⟨e, hok⟩ := g_pr hok
    try subst e
    obtain ⟨e, hok⟩ := g_pr hok
    try subst e
    obtain ⟨e, hok⟩ := g_pr hok
    try subst e
    obtain ⟨e, hok⟩ := g_pr hok
    try subst e
    obtain ⟨e, hok⟩ := g_pr hok
    try subst e
    obtain ⟨e, hok⟩ := g_pr hok
    try subst e
    obtain ⟨e, hok⟩ := g_pr hok
    try subst e
    obtain ⟨e, hok⟩ := g_pr hok
    try subst e
    obtain ⟨e, hok⟩ := g_pr hok
    try subst e
    obtain ⟨e, hok⟩ := g_pr hok
    try subst e
    obtain ⟨e, hok⟩ := g_pr hok
    try subst e
    obtain ⟨e, hok⟩ := g_pr hok
    try subst e
    cases hok
    exact cr_i hx hb hr hlocks hQ dX8_fits_29 hP hS
  replace hok := g_neg hok c
  refine lv_iload_n hx hb dX8_fits_7 rfl (lv_at hl 2 rfl) ?_
  obtain ⟨r2, hq, hok⟩ := g_bnd1 hok
  refine cG (is := []) (wc := (wm_X0_find cA)) (w1 := (wm_X0_find cA)) (rv := (some (.int r2))) (st1 := [.int r2]) (va_runS (Ts := wsX8_fits) (As := [.int x2]) (rest := []) ⟨hx, hb, hml, hown, hts⟩ (c_X8_isRow l G cA ts x2 r2 hq H.size) (va_cwS 1 hts gX8_fits_X8_isRow rfl rfl rfl (by decide +kernel) ⟨Nat.le_of_ble_eq_true rfl, Nat.le_of_ble_eq_true rfl⟩) (pre_S (is := []) hP hD hS hA hK hZ (by decide +kernel) (by rfl)) rfl rfl hl.1 rfl (by exact lv_room (Nat.le_of_ble_eq_true rfl)) dX8_fits_8 ⟨Nat.le_refl _, Nat.le_refl _⟩) hP hD hS hA (by decide +kernel) (by rfl) (by rfl) rfl (fun H locs hP hD hS => ?_)
  have hP : va_P G vwCl (wm_X8_followInThought cA h0 h0_filter h0_filter_numbers h0_filter_words h0_trial h0_trial_numbers h0_trial_words h0_course h0_course_outputs h0_course_losses h0_rows h0_rows_e h0_rows_e_places h0_kept h0_ways h0_spread h0_changes h0_tape h0_bodies h0_causes s0__hasImage s0__hasCauses s0__stepsDone s0_filter__all s0_filter__v s0_filter__loss s0_filter__result s0_filter__over s0_filter__heldAll s0_filter__heldRounded s0_filter_numbers s0_filter_words s0_trial__all s0_trial__v s0_trial__loss s0_trial__result s0_trial__over s0_trial__heldAll s0_trial__heldRounded s0_trial_numbers s0_trial_words s0_course__length s0_course__overs s0_course__halted s0_course__haltedBy s0_course_outputs s0_course_losses s0_rows_e__sort s0_rows_e__size s0_rows_e_places) H := hP
  have hD : va_D A (wm_X8_followInThought cA h0 h0_filter h0_filter_numbers h0_filter_words h0_trial h0_trial_numbers h0_trial_words h0_course h0_course_outputs h0_course_losses h0_rows h0_rows_e h0_rows_e_places h0_kept h0_ways h0_spread h0_changes h0_tape h0_bodies h0_causes s0__hasImage s0__hasCauses s0__stepsDone s0_filter__all s0_filter__v s0_filter__loss s0_filter__result s0_filter__over s0_filter__heldAll s0_filter__heldRounded s0_filter_numbers s0_filter_words s0_trial__all s0_trial__v s0_trial__loss s0_trial__result s0_trial__over s0_trial__heldAll s0_trial__heldRounded s0_trial_numbers s0_trial_words s0_course__length s0_course__overs s0_course__halted s0_course__haltedBy s0_course_outputs s0_course_losses s0_rows_e__sort s0_rows_e__size s0_rows_e_places) := hD
  refine lv_if_eq (tgt := 26) hx hb dX8_fits_11 (by decide) (fun c => ?_) (fun c => ?_)
  · replace hok := g_pos hok c
    refine lv_sipush (v := -1001) hx hb dX8_fits_26 (by decide) ?_
    obtain ⟨e, hok⟩ := g_pr hok
    try subst e
    obtain ⟨e, hok⟩ := g_pr hok
    try subst e
    obtain ⟨e, hok⟩ := g_pr hok
    try subst e
    obtain ⟨e, hok⟩ := g_pr hok
    try subst e
    obtain ⟨e, hok⟩ := g_pr hok
    try subst e
    obtain ⟨e, hok⟩ := g_pr hok
    try subst e
    obtain ⟨e, hok⟩ := g_pr hok
    try subst e
    obtain ⟨e, hok⟩ := g_pr hok
    try subst e
    obtain ⟨e, hok⟩ := g_pr hok
    try subst e
    obtain ⟨e, hok⟩ := g_pr hok
    try subst e
    obtain ⟨e, hok⟩ := g_pr hok
    try subst e
    obtain ⟨e, hok⟩ := g_pr hok
    try subst e
    obtain ⟨e, hok⟩ := g_pr hok
    try subst e
    obtain ⟨e, hok⟩ := g_pr hok
    try subst e
    obtain ⟨e, hok⟩ := g_pr hok
    try subst e
    cases hok
    exact cr_i hx hb hr hlocks hQ dX8_fits_29 hP hS
  replace hok := g_neg hok c
  refine lv_iload_n hx hb dX8_fits_14 rfl (lv_at hl 3 rfl) ?_
  refine lv_if_lt (tgt := 26) hx hb dX8_fits_15 (by decide) (fun c => ?_) (fun c => ?_)
  · replace hok := g_pos hok c
    refine lv_sipush (v := -1001) hx hb dX8_fits_26 (by decide) ?_
    obtain ⟨e, hok⟩ := g_pr hok
    try subst e
    obtain ⟨e, hok⟩ := g_pr hok
    try subst e
    obtain ⟨e, hok⟩ := g_pr hok
    try subst e
    obtain ⟨e, hok⟩ := g_pr hok
    try subst e
    obtain ⟨e, hok⟩ := g_pr hok
    try subst e
    obtain ⟨e, hok⟩ := g_pr hok
    try subst e
    obtain ⟨e, hok⟩ := g_pr hok
    try subst e
    obtain ⟨e, hok⟩ := g_pr hok
    try subst e
    obtain ⟨e, hok⟩ := g_pr hok
    try subst e
    obtain ⟨e, hok⟩ := g_pr hok
    try subst e
    obtain ⟨e, hok⟩ := g_pr hok
    try subst e
    obtain ⟨e, hok⟩ := g_pr hok
    try subst e
    obtain ⟨e, hok⟩ := g_pr hok
    try subst e
    obtain ⟨e, hok⟩ := g_pr hok
    try subst e
    obtain ⟨e, hok⟩ := g_pr hok
    try subst e
    cases hok
    exact cr_i hx hb hr hlocks hQ dX8_fits_29 hP hS
  replace hok := g_neg hok c
  refine lv_iload_n hx hb dX8_fits_18 rfl (lv_at hl 3 rfl) ?_
  refine va_gets hx hb hZ.1.1.2.2.1.1 hS hown (hts _ (List.mem_of_getElem? (i := 1) rfl)) (fun _ h9 => h9) dX8_fits_19 ?_
  refine va_tlen (v := 6) hx hb hZ.1.1.2.2.1.2 hS rfl dX8_fits_22 ?_
  refine lv_icmp_lt (tgt := 30) hx hb dX8_fits_23 (by decide) (fun c => ?_) (fun c => ?_)
  · replace hok := g_pos hok c
    refine lv_aload_n hx hb dX8_fits_30 rfl (lv_at hl 0 rfl) ?_
    refine lv_iload_n hx hb dX8_fits_31 rfl (lv_at hl 1 rfl) ?_
    obtain ⟨r3, hq, hok⟩ := g_bnd1 hok
    refine cG (is := [0, 10, 11, 13, 15, 17]) (wc := (wm_X8_isMissing cA h0 h0_rows h0_rows_e h0_filter h0_trial h0_kept h0_ways h0_spread h0_course h0_changes h0_tape h0_bodies h0_causes h0_rows_e_places s0__hasImage s0__hasCauses s0__stepsDone s0_rows_e__sort s0_rows_e__size)) (w1 := (wm_X8_isMissing cA h0 h0_rows h0_rows_e h0_filter h0_trial h0_kept h0_ways h0_spread h0_course h0_changes h0_tape h0_bodies h0_causes h0_rows_e_places s0__hasImage s0__hasCauses s0__stepsDone s0_rows_e__sort s0_rows_e__size)) (rv := (some (.int r3))) (st1 := [.int r3]) (va_runV (Ts := wsX8_fits) (As := [.int x1]) (rest := []) ⟨hx, hb, hml, hown, hts⟩ (c_X8_isMissing l G cA ts h0 h0_rows h0_rows_e h0_filter h0_trial h0_kept h0_ways h0_spread h0_course h0_changes h0_tape h0_bodies h0_causes h0_rows_e_places x1 s0__hasImage s0__hasCauses s0__stepsDone s0_rows_e__sort s0_rows_e__size r3 hq H.size) (cwV 1 hts gX8_fits_X8_isMissing rfl rfl rfl (by decide +kernel) ⟨Nat.le_of_ble_eq_true rfl, Nat.le_of_ble_eq_true rfl⟩) (pre_V (ci := 8) (q0 := 0) (is := [0, 10, 11, 13, 15, 17]) rfl rfl hP hD hS hA hK hZ (by decide +kernel) (by rfl)) rfl rfl hl.1 rfl (by exact lv_room (Nat.le_of_ble_eq_true rfl)) dX8_fits_32 ⟨Nat.le_refl _, Nat.le_refl _⟩) hP hD hS hA (by decide +kernel) (by rfl) (by rfl) rfl (fun H locs hP hD hS => ?_)
    have hP : va_P G vwCl (wm_X8_followInThought cA h0 h0_filter h0_filter_numbers h0_filter_words h0_trial h0_trial_numbers h0_trial_words h0_course h0_course_outputs h0_course_losses h0_rows h0_rows_e h0_rows_e_places h0_kept h0_ways h0_spread h0_changes h0_tape h0_bodies h0_causes s0__hasImage s0__hasCauses s0__stepsDone s0_filter__all s0_filter__v s0_filter__loss s0_filter__result s0_filter__over s0_filter__heldAll s0_filter__heldRounded s0_filter_numbers s0_filter_words s0_trial__all s0_trial__v s0_trial__loss s0_trial__result s0_trial__over s0_trial__heldAll s0_trial__heldRounded s0_trial_numbers s0_trial_words s0_course__length s0_course__overs s0_course__halted s0_course__haltedBy s0_course_outputs s0_course_losses s0_rows_e__sort s0_rows_e__size s0_rows_e_places) H := hP
    have hD : va_D A (wm_X8_followInThought cA h0 h0_filter h0_filter_numbers h0_filter_words h0_trial h0_trial_numbers h0_trial_words h0_course h0_course_outputs h0_course_losses h0_rows h0_rows_e h0_rows_e_places h0_kept h0_ways h0_spread h0_changes h0_tape h0_bodies h0_causes s0__hasImage s0__hasCauses s0__stepsDone s0_filter__all s0_filter__v s0_filter__loss s0_filter__result s0_filter__over s0_filter__heldAll s0_filter__heldRounded s0_filter_numbers s0_filter_words s0_trial__all s0_trial__v s0_trial__loss s0_trial__result s0_trial__over s0_trial__heldAll s0_trial__heldRounded s0_trial_numbers s0_trial_words s0_course__length s0_course__overs s0_course__halted s0_course__haltedBy s0_course_outputs s0_course_losses s0_rows_e__sort s0_rows_e__size s0_rows_e_places) := hD
    refine lv_if_ne (tgt := 46) hx hb dX8_fits_35 (by decide) (fun c => ?_) (fun c => ?_)
    · replace hok := g_neg hok c
      refine lv_sipush (v := -1011) hx hb dX8_fits_46 (by decide) ?_
      obtain ⟨e, hok⟩ := g_pr hok
      try subst e
      obtain ⟨e, hok⟩ := g_pr hok
      try subst e
      obtain ⟨e, hok⟩ := g_pr hok
      try subst e
      obtain ⟨e, hok⟩ := g_pr hok
      try subst e
      obtain ⟨e, hok⟩ := g_pr hok
      try subst e
      obtain ⟨e, hok⟩ := g_pr hok
      try subst e
      obtain ⟨e, hok⟩ := g_pr hok
      try subst e
      obtain ⟨e, hok⟩ := g_pr hok
      try subst e
      obtain ⟨e, hok⟩ := g_pr hok
      try subst e
      obtain ⟨e, hok⟩ := g_pr hok
      try subst e
      obtain ⟨e, hok⟩ := g_pr hok
      try subst e
      obtain ⟨e, hok⟩ := g_pr hok
      try subst e
      obtain ⟨e, hok⟩ := g_pr hok
      try subst e
      obtain ⟨e, hok⟩ := g_pr hok
      try subst e
      obtain ⟨e, hok⟩ := g_pr hok
      try subst e
      cases hok
      exact cr_i hx hb hr hlocks hQ dX8_fits_49 hP hS
    replace hok := g_pos hok c
    refine lv_aload_n hx hb dX8_fits_38 rfl (lv_at hl 0 rfl) ?_
    refine lv_iload_n hx hb dX8_fits_39 rfl (lv_at hl 2 rfl) ?_
    obtain ⟨r4, hq, hok⟩ := g_bnd1 hok
    refine cG (is := [0, 10, 11, 13, 15, 17]) (wc := (wm_X8_isMissing cA h0 h0_rows h0_rows_e h0_filter h0_trial h0_kept h0_ways h0_spread h0_course h0_changes h0_tape h0_bodies h0_causes h0_rows_e_places s0__hasImage s0__hasCauses s0__stepsDone s0_rows_e__sort s0_rows_e__size)) (w1 := (wm_X8_isMissing cA h0 h0_rows h0_rows_e h0_filter h0_trial h0_kept h0_ways h0_spread h0_course h0_changes h0_tape h0_bodies h0_causes h0_rows_e_places s0__hasImage s0__hasCauses s0__stepsDone s0_rows_e__sort s0_rows_e__size)) (rv := (some (.int r4))) (st1 := [.int r4]) (va_runV (Ts := wsX8_fits) (As := [.int x2]) (rest := []) ⟨hx, hb, hml, hown, hts⟩ (c_X8_isMissing l G cA ts h0 h0_rows h0_rows_e h0_filter h0_trial h0_kept h0_ways h0_spread h0_course h0_changes h0_tape h0_bodies h0_causes h0_rows_e_places x2 s0__hasImage s0__hasCauses s0__stepsDone s0_rows_e__sort s0_rows_e__size r4 hq H.size) (cwV 1 hts gX8_fits_X8_isMissing rfl rfl rfl (by decide +kernel) ⟨Nat.le_of_ble_eq_true rfl, Nat.le_of_ble_eq_true rfl⟩) (pre_V (ci := 8) (q0 := 0) (is := [0, 10, 11, 13, 15, 17]) rfl rfl hP hD hS hA hK hZ (by decide +kernel) (by rfl)) rfl rfl hl.1 rfl (by exact lv_room (Nat.le_of_ble_eq_true rfl)) dX8_fits_40 ⟨Nat.le_refl _, Nat.le_refl _⟩) hP hD hS hA (by decide +kernel) (by rfl) (by rfl) rfl (fun H locs hP hD hS => ?_)
    have hP : va_P G vwCl (wm_X8_followInThought cA h0 h0_filter h0_filter_numbers h0_filter_words h0_trial h0_trial_numbers h0_trial_words h0_course h0_course_outputs h0_course_losses h0_rows h0_rows_e h0_rows_e_places h0_kept h0_ways h0_spread h0_changes h0_tape h0_bodies h0_causes s0__hasImage s0__hasCauses s0__stepsDone s0_filter__all s0_filter__v s0_filter__loss s0_filter__result s0_filter__over s0_filter__heldAll s0_filter__heldRounded s0_filter_numbers s0_filter_words s0_trial__all s0_trial__v s0_trial__loss s0_trial__result s0_trial__over s0_trial__heldAll s0_trial__heldRounded s0_trial_numbers s0_trial_words s0_course__length s0_course__overs s0_course__halted s0_course__haltedBy s0_course_outputs s0_course_losses s0_rows_e__sort s0_rows_e__size s0_rows_e_places) H := hP
    have hD : va_D A (wm_X8_followInThought cA h0 h0_filter h0_filter_numbers h0_filter_words h0_trial h0_trial_numbers h0_trial_words h0_course h0_course_outputs h0_course_losses h0_rows h0_rows_e h0_rows_e_places h0_kept h0_ways h0_spread h0_changes h0_tape h0_bodies h0_causes s0__hasImage s0__hasCauses s0__stepsDone s0_filter__all s0_filter__v s0_filter__loss s0_filter__result s0_filter__over s0_filter__heldAll s0_filter__heldRounded s0_filter_numbers s0_filter_words s0_trial__all s0_trial__v s0_trial__loss s0_trial__result s0_trial__over s0_trial__heldAll s0_trial__heldRounded s0_trial_numbers s0_trial_words s0_course__length s0_course__overs s0_course__halted s0_course__haltedBy s0_course_outputs s0_course_losses s0_rows_e__sort s0_rows_e__size s0_rows_e_places) := hD
    refine lv_if_eq (tgt := 50) hx hb dX8_fits_43 (by decide) (fun c => ?_) (fun c => ?_)
    · replace hok := g_pos hok c
      refine va_gets hx hb hZ.1.1.2.2.1.1 hS hown (hts _ (List.mem_of_getElem? (i := 1) rfl)) (fun _ h9 => h9) dX8_fits_50 ?_
      refine lv_iload_n hx hb dX8_fits_53 rfl (lv_at hl 3 rfl) ?_
      obtain ⟨hin, hok⟩ := g_no hok
      refine va_ti (v := .int (tb tTRIED x3.toNatClampNeg)) hx hb hZ.1.1.2.2.1.2 hS hin rfl dX8_fits_54 ?_
      refine lv_istore (lv' := [(4, .int (tb tTRIED x3.toNatClampNeg)), (0, .ref h0), (1, .int x1), (2, .int x2), (3, .int x3)]) hx hb dX8_fits_55 hl (by decide) rfl (fun ls hl => ?_)
      refine lv_iconst (v := 0) hx hb dX8_fits_57 (by decide) ?_
      refine lv_istore (lv' := [(5, .int (0:Int32)), (4, .int (tb tTRIED x3.toNatClampNeg)), (0, .ref h0), (1, .int x1), (2, .int x2), (3, .int x3)]) hx hb dX8_fits_58 hl (by decide) rfl (fun ls hl => ?_)
      refine lv_iconst (v := 0) hx hb dX8_fits_60 (by decide) ?_
      refine lv_istore (lv' := [(6, .int (0:Int32)), (5, .int (0:Int32)), (4, .int (tb tTRIED x3.toNatClampNeg)), (0, .ref h0), (1, .int x1), (2, .int x2), (3, .int x3)]) hx hb dX8_fits_61 hl (by decide) rfl (fun ls hl => ?_)
      refine lv_sipush (v := -1002) hx hb dX8_fits_63 (by decide) ?_
      refine lv_istore (lv' := [(7, .int (-1002:Int32)), (6, .int (0:Int32)), (5, .int (0:Int32)), (4, .int (tb tTRIED x3.toNatClampNeg)), (0, .ref h0), (1, .int x1), (2, .int x2), (3, .int x3)]) hx hb dX8_fits_66 hl (by decide) rfl (fun ls hl => ?_)
      refine va_gets hx hb hZ.1.1.2.1.1 hS hown (hts _ (List.mem_of_getElem? (i := 2) rfl)) (fun _ h9 => h9) dX8_fits_68 ?_
      refine lv_iload hx hb dX8_fits_71 (lv_at hl 3 rfl) ?_
      obtain ⟨hin, hok⟩ := g_no hok
      refine va_ti (v := .int (tb tHIGH (tb tTRIED x3.toNatClampNeg).toNatClampNeg)) hx hb hZ.1.1.2.1.2 hS hin rfl dX8_fits_73 ?_
      refine lv_istore (lv' := [(8, .int (tb tHIGH (tb tTRIED x3.toNatClampNeg).toNatClampNeg)), (7, .int (-1002:Int32)), (6, .int (0:Int32)), (5, .int (0:Int32)), (4, .int (tb tTRIED x3.toNatClampNeg)), (0, .ref h0), (1, .int x1), (2, .int x2), (3, .int x3)]) hx hb dX8_fits_74 hl (by decide) rfl (fun ls hl => ?_)
      obtain ⟨o24, o25, o26, o27, o28, o29, o30, o31, o32, o33, o34, o35, o36, o37, o38, o39, o40, o41, hq, hok⟩ := g_bnd18 hok
      refine L_76 FUEL (tb tTRIED x3.toNatClampNeg) (0:Int32) (0:Int32) (-1002:Int32) (tb tHIGH (tb tTRIED x3.toNatClampNeg).toNatClampNeg) s0_trial__all s0_trial__v s0_trial__loss s0_trial__result s0_trial__over s0_trial__heldAll s0_trial__heldRounded s0_trial_numbers s0_trial_words s0_course__length s0_course__overs s0_course__halted s0_course__haltedBy s0_course_outputs s0_course_losses o24 o25 o26 o27 o28 o29 o30 o31 o32 o33 o34 o35 o36 o37 o38 o39 o40 o41 _ _ _ hP hD hS (lv_sub hl [5, 6, 7, 8, 4, 3, 2, 1, 0] rfl) hq (fun H locs ls hP hD hS hl => ?_)
      refine lv_iload_n hx hb dX8_fits_168 rfl (lv_at hl 0 rfl) ?_
      refine lv_iconst (v := 4) hx hb dX8_fits_169 (by decide) ?_
      refine lv_icmp_ge (tgt := 178) hx hb dX8_fits_170 (by decide) (fun c => ?_) (fun c => ?_)
      · replace hok := g_pos hok c
        refine lv_iload_n hx hb dX8_fits_178 rfl (lv_at hl 0 rfl) ?_
        refine lv_iconst (v := 4) hx hb dX8_fits_179 (by decide) ?_
        refine lv_icmp_ne (tgt := 188) hx hb dX8_fits_180 (by decide) (fun c => ?_) (fun c => ?_)
        · replace hok := g_neg hok c
          refine lv_iload hx hb dX8_fits_188 (lv_at hl 3 rfl) ?_
          obtain ⟨e, hok⟩ := g_pr hok
          try subst e
          obtain ⟨e, hok⟩ := g_pr hok
          try subst e
          obtain ⟨e, hok⟩ := g_pr hok
          try subst e
          obtain ⟨e, hok⟩ := g_pr hok
          try subst e
          obtain ⟨e, hok⟩ := g_pr hok
          try subst e
          obtain ⟨e, hok⟩ := g_pr hok
          try subst e
          obtain ⟨e, hok⟩ := g_pr hok
          try subst e
          obtain ⟨e, hok⟩ := g_pr hok
          try subst e
          obtain ⟨e, hok⟩ := g_pr hok
          try subst e
          obtain ⟨e, hok⟩ := g_pr hok
          try subst e
          obtain ⟨e, hok⟩ := g_pr hok
          try subst e
          obtain ⟨e, hok⟩ := g_pr hok
          try subst e
          obtain ⟨e, hok⟩ := g_pr hok
          try subst e
          obtain ⟨e, hok⟩ := g_pr hok
          try subst e
          obtain ⟨e, hok⟩ := g_pr hok
          try subst e
          cases hok
          exact cr_i hx hb hr hlocks hQ dX8_fits_190 hP hS
        replace hok := g_pos hok c
        refine lv_iload hx hb dX8_fits_183 (lv_at hl 2 rfl) ?_
        refine lv_goto (tgt := 190) hx hb dX8_fits_185 (by decide) ?_
        obtain ⟨e, hok⟩ := g_pr hok
        try subst e
        obtain ⟨e, hok⟩ := g_pr hok
        try subst e
        obtain ⟨e, hok⟩ := g_pr hok
        try subst e
        obtain ⟨e, hok⟩ := g_pr hok
        try subst e
        obtain ⟨e, hok⟩ := g_pr hok
        try subst e
        obtain ⟨e, hok⟩ := g_pr hok
        try subst e
        obtain ⟨e, hok⟩ := g_pr hok
        try subst e
        obtain ⟨e, hok⟩ := g_pr hok
        try subst e
        obtain ⟨e, hok⟩ := g_pr hok
        try subst e
        obtain ⟨e, hok⟩ := g_pr hok
        try subst e
        obtain ⟨e, hok⟩ := g_pr hok
        try subst e
        obtain ⟨e, hok⟩ := g_pr hok
        try subst e
        obtain ⟨e, hok⟩ := g_pr hok
        try subst e
        obtain ⟨e, hok⟩ := g_pr hok
        try subst e
        obtain ⟨e, hok⟩ := g_pr hok
        try subst e
        cases hok
        exact cr_i hx hb hr hlocks hQ dX8_fits_190 hP hS
      replace hok := g_neg hok c
      refine lv_iload hx hb dX8_fits_173 (lv_at hl 1 rfl) ?_
      refine lv_goto (tgt := 190) hx hb dX8_fits_175 (by decide) ?_
      obtain ⟨e, hok⟩ := g_pr hok
      try subst e
      obtain ⟨e, hok⟩ := g_pr hok
      try subst e
      obtain ⟨e, hok⟩ := g_pr hok
      try subst e
      obtain ⟨e, hok⟩ := g_pr hok
      try subst e
      obtain ⟨e, hok⟩ := g_pr hok
      try subst e
      obtain ⟨e, hok⟩ := g_pr hok
      try subst e
      obtain ⟨e, hok⟩ := g_pr hok
      try subst e
      obtain ⟨e, hok⟩ := g_pr hok
      try subst e
      obtain ⟨e, hok⟩ := g_pr hok
      try subst e
      obtain ⟨e, hok⟩ := g_pr hok
      try subst e
      obtain ⟨e, hok⟩ := g_pr hok
      try subst e
      obtain ⟨e, hok⟩ := g_pr hok
      try subst e
      obtain ⟨e, hok⟩ := g_pr hok
      try subst e
      obtain ⟨e, hok⟩ := g_pr hok
      try subst e
      obtain ⟨e, hok⟩ := g_pr hok
      try subst e
      cases hok
      exact cr_i hx hb hr hlocks hQ dX8_fits_190 hP hS
    replace hok := g_neg hok c
    refine lv_sipush (v := -1011) hx hb dX8_fits_46 (by decide) ?_
    obtain ⟨e, hok⟩ := g_pr hok
    try subst e
    obtain ⟨e, hok⟩ := g_pr hok
    try subst e
    obtain ⟨e, hok⟩ := g_pr hok
    try subst e
    obtain ⟨e, hok⟩ := g_pr hok
    try subst e
    obtain ⟨e, hok⟩ := g_pr hok
    try subst e
    obtain ⟨e, hok⟩ := g_pr hok
    try subst e
    obtain ⟨e, hok⟩ := g_pr hok
    try subst e
    obtain ⟨e, hok⟩ := g_pr hok
    try subst e
    obtain ⟨e, hok⟩ := g_pr hok
    try subst e
    obtain ⟨e, hok⟩ := g_pr hok
    try subst e
    obtain ⟨e, hok⟩ := g_pr hok
    try subst e
    obtain ⟨e, hok⟩ := g_pr hok
    try subst e
    obtain ⟨e, hok⟩ := g_pr hok
    try subst e
    obtain ⟨e, hok⟩ := g_pr hok
    try subst e
    obtain ⟨e, hok⟩ := g_pr hok
    try subst e
    cases hok
    exact cr_i hx hb hr hlocks hQ dX8_fits_49 hP hS
  replace hok := g_neg hok c
  refine lv_sipush (v := -1001) hx hb dX8_fits_26 (by decide) ?_
  obtain ⟨e, hok⟩ := g_pr hok
  try subst e
  obtain ⟨e, hok⟩ := g_pr hok
  try subst e
  obtain ⟨e, hok⟩ := g_pr hok
  try subst e
  obtain ⟨e, hok⟩ := g_pr hok
  try subst e
  obtain ⟨e, hok⟩ := g_pr hok
  try subst e
  obtain ⟨e, hok⟩ := g_pr hok
  try subst e
  obtain ⟨e, hok⟩ := g_pr hok
  try subst e
  obtain ⟨e, hok⟩ := g_pr hok
  try subst e
  obtain ⟨e, hok⟩ := g_pr hok
  try subst e
  obtain ⟨e, hok⟩ := g_pr hok
  try subst e
  obtain ⟨e, hok⟩ := g_pr hok
  try subst e
  obtain ⟨e, hok⟩ := g_pr hok
  try subst e
  obtain ⟨e, hok⟩ := g_pr hok
  try subst e
  obtain ⟨e, hok⟩ := g_pr hok
  try subst e
  obtain ⟨e, hok⟩ := g_pr hok
  try subst e
  cases hok
  exact cr_i hx hb hr hlocks hQ dX8_fits_29 hP hS
set_option maxHeartbeats 40000000 in
set_option maxRecDepth 100000 in
theorem c_X8_judge (l : Launch) (G : va_G) (cA : Nat → ClassId) (ts : Nat → Nat) (h0 : Nat) (h0_filter : Nat) (h0_filter_numbers : Nat) (h0_filter_words : Nat) (h0_trial : Nat) (h0_trial_numbers : Nat) (h0_trial_words : Nat) (h0_course : Nat) (h0_course_outputs : Nat) (h0_course_losses : Nat) (h0_rows : Nat) (h0_rows_e : Nat → Nat) (h0_rows_e_places : Nat → Nat) (h0_kept : Nat) (h0_ways : Nat) (h0_spread : Nat) (h0_changes : Nat) (h0_tape : Nat) (h0_bodies : Nat) (h0_causes : Nat) (x1 : Int32) (x2 : Int32) (s0__hasImage : Int32) (s0__hasCauses : Int32) (s0__stepsDone : Int32) (s0_filter__all : Int32) (s0_filter__v : Int32) (s0_filter__loss : Int32) (s0_filter__result : Int32) (s0_filter__over : Int32) (s0_filter__heldAll : Int32) (s0_filter__heldRounded : Int32) (s0_filter_numbers : Nat → Int32) (s0_filter_words : Nat → Int32) (s0_trial__all : Int32) (s0_trial__v : Int32) (s0_trial__loss : Int32) (s0_trial__result : Int32) (s0_trial__over : Int32) (s0_trial__heldAll : Int32) (s0_trial__heldRounded : Int32) (s0_trial_numbers : Nat → Int32) (s0_trial_words : Nat → Int32) (s0_course__length : Int32) (s0_course__overs : Int32) (s0_course__halted : Int32) (s0_course__haltedBy : Int32) (s0_course_outputs : Nat → Int32) (s0_course_losses : Nat → Int32) (s0_rows_e__sort : Nat → Int32) (s0_rows_e__size : Nat → Int32) (s0_rows_e_places : Nat → Nat → Int64) (r : Int32) (o0_trial__all : Int32) (o0_trial__v : Int32) (o0_trial__loss : Int32) (o0_trial__result : Int32) (o0_trial__over : Int32) (o0_trial__heldAll : Int32) (o0_trial__heldRounded : Int32) (o0_trial_numbers : Nat → Int32) (o0_trial_words : Nat → Int32) (o0_course__length : Int32) (o0_course__overs : Int32) (o0_course__halted : Int32) (o0_course__haltedBy : Int32) (o0_course_outputs : Nat → Int32) (o0_course_losses : Nat → Int32) (hok : fX8_judge x1 x2 s0_filter_numbers s0_filter_words s0_trial__all s0_trial__v s0_trial__loss s0_trial__result s0_trial__over s0_trial__heldAll s0_trial__heldRounded s0_trial_numbers s0_trial_words s0_course__length s0_course__overs s0_course__halted s0_course__haltedBy s0_course_outputs s0_course_losses s0_rows_e__sort s0_rows_e__size s0_rows_e_places = some (r, o0_trial__all, o0_trial__v, o0_trial__loss, o0_trial__result, o0_trial__over, o0_trial__heldAll, o0_trial__heldRounded, o0_trial_numbers, o0_trial_words, o0_course__length, o0_course__overs, o0_course__halted, o0_course__haltedBy, o0_course_outputs, o0_course_losses)) : Ct l G cA ts yX8_judge wsX8_judge 7 170 [.ref h0, .int x1, .int x2] (wm_X8_followInThought cA h0 h0_filter h0_filter_numbers h0_filter_words h0_trial h0_trial_numbers h0_trial_words h0_course h0_course_outputs h0_course_losses h0_rows h0_rows_e h0_rows_e_places h0_kept h0_ways h0_spread h0_changes h0_tape h0_bodies h0_causes s0__hasImage s0__hasCauses s0__stepsDone s0_filter__all s0_filter__v s0_filter__loss s0_filter__result s0_filter__over s0_filter__heldAll s0_filter__heldRounded s0_filter_numbers s0_filter_words s0_trial__all s0_trial__v s0_trial__loss s0_trial__result s0_trial__over s0_trial__heldAll s0_trial__heldRounded s0_trial_numbers s0_trial_words s0_course__length s0_course__overs s0_course__halted s0_course__haltedBy s0_course_outputs s0_course_losses s0_rows_e__sort s0_rows_e__size s0_rows_e_places) (wm_X8_followInThought cA h0 h0_filter h0_filter_numbers h0_filter_words h0_trial h0_trial_numbers h0_trial_words h0_course h0_course_outputs h0_course_losses h0_rows h0_rows_e h0_rows_e_places h0_kept h0_ways h0_spread h0_changes h0_tape h0_bodies h0_causes s0__hasImage s0__hasCauses s0__stepsDone s0_filter__all s0_filter__v s0_filter__loss s0_filter__result s0_filter__over s0_filter__heldAll s0_filter__heldRounded s0_filter_numbers s0_filter_words o0_trial__all o0_trial__v o0_trial__loss o0_trial__result o0_trial__over o0_trial__heldAll o0_trial__heldRounded o0_trial_numbers o0_trial_words o0_course__length o0_course__overs o0_course__halted o0_course__haltedBy o0_course_outputs o0_course_losses s0_rows_e__sort s0_rows_e__size s0_rows_e_places) (some (.int r)) := by
  refine Ct.intro (cc := cX8_judge) (maxL := 5) (ret := some .int) (by decide +kernel) rfl (Nat.le_of_ble_eq_true rfl) ?_
  intro p e s m ar below meth c A Q hx hb hr hml hown hlocks hts hK hZ hA hQ hP hD hS ls hl
  have hown : s.vm.findClass RX8 = some m.cls := hown
  have hinX2 : ∀ w ∈ wsX20, w ∈ wsX8_judge := fun _ h => List.mem_cons_of_mem _ (List.mem_append_left _ (List.mem_append_right _ (h)))
  have hinX4 : ∀ w ∈ wsX40, w ∈ wsX8_judge := fun _ h => List.mem_cons_of_mem _ (List.mem_append_left _ (List.mem_append_left _ (List.mem_append_right _ (h))))
  have hinX8 : ∀ w ∈ wsX80, w ∈ wsX8_judge := fun _ h => List.mem_cons_of_mem _ (List.mem_append_left _ (List.mem_append_left _ (List.mem_append_left _ (List.mem_append_right _ (h)))))
  have hl : lv_has ls 5 [(0, .ref h0), (1, .int x1), (2, .int x2)] := hl
  have hP : va_P G vwCl (wm_X8_followInThought cA h0 h0_filter h0_filter_numbers h0_filter_words h0_trial h0_trial_numbers h0_trial_words h0_course h0_course_outputs h0_course_losses h0_rows h0_rows_e h0_rows_e_places h0_kept h0_ways h0_spread h0_changes h0_tape h0_bodies h0_causes s0__hasImage s0__hasCauses s0__stepsDone s0_filter__all s0_filter__v s0_filter__loss s0_filter__result s0_filter__over s0_filter__heldAll s0_filter__heldRounded s0_filter_numbers s0_filter_words s0_trial__all s0_trial__v s0_trial__loss s0_trial__result s0_trial__over s0_trial__heldAll s0_trial__heldRounded s0_trial_numbers s0_trial_words s0_course__length s0_course__overs s0_course__halted s0_course__haltedBy s0_course_outputs s0_course_losses s0_rows_e__sort s0_rows_e__size s0_rows_e_places) s.heap := hP
  have hD : va_D A (wm_X8_followInThought cA h0 h0_filter h0_filter_numbers h0_filter_words h0_trial h0_trial_numbers h0_trial_words h0_course h0_course_outputs h0_course_losses h0_rows h0_rows_e h0_rows_e_places h0_kept h0_ways h0_spread h0_changes h0_tape h0_bodies h0_causes s0__hasImage s0__hasCauses s0__stepsDone s0_filter__all s0_filter__v s0_filter__loss s0_filter__result s0_filter__over s0_filter__heldAll s0_filter__heldRounded s0_filter_numbers s0_filter_words s0_trial__all s0_trial__v s0_trial__loss s0_trial__result s0_trial__over s0_trial__heldAll s0_trial__heldRounded s0_trial_numbers s0_trial_words s0_course__length s0_course__overs s0_course__halted s0_course__haltedBy s0_course_outputs s0_course_losses s0_rows_e__sort s0_rows_e__size s0_rows_e_places) := hD
  unfold fX8_judge at hok
  refine lv_iload_n hx hb dX8_judge_0 rfl (lv_at hl 1 rfl) ?_
  obtain ⟨r1, hq, hok⟩ := g_bnd1 hok
  refine cG (is := []) (wc := (wm_X0_find cA)) (w1 := (wm_X0_find cA)) (rv := (some (.int r1))) (st1 := [.int r1]) (va_runS (Ts := wsX8_judge) (As := [.int x1]) (rest := []) ⟨hx, hb, hml, hown, hts⟩ (c_X8_isRow l G cA ts x1 r1 hq s.heap.size) (va_cwS 1 hts gX8_judge_X8_isRow rfl rfl rfl (by decide +kernel) ⟨Nat.le_of_ble_eq_true rfl, Nat.le_of_ble_eq_true rfl⟩) (pre_S (is := []) hP hD hS hA hK hZ (by decide +kernel) (by rfl)) rfl rfl hl.1 rfl (by exact lv_room (Nat.le_of_ble_eq_true rfl)) dX8_judge_1 ⟨Nat.le_refl _, Nat.le_refl _⟩) hP hD hS hA (by decide +kernel) (by rfl) (by rfl) rfl (fun H locs hP hD hS => ?_)
  have hP : va_P G vwCl (wm_X8_followInThought cA h0 h0_filter h0_filter_numbers h0_filter_words h0_trial h0_trial_numbers h0_trial_words h0_course h0_course_outputs h0_course_losses h0_rows h0_rows_e h0_rows_e_places h0_kept h0_ways h0_spread h0_changes h0_tape h0_bodies h0_causes s0__hasImage s0__hasCauses s0__stepsDone s0_filter__all s0_filter__v s0_filter__loss s0_filter__result s0_filter__over s0_filter__heldAll s0_filter__heldRounded s0_filter_numbers s0_filter_words s0_trial__all s0_trial__v s0_trial__loss s0_trial__result s0_trial__over s0_trial__heldAll s0_trial__heldRounded s0_trial_numbers s0_trial_words s0_course__length s0_course__overs s0_course__halted s0_course__haltedBy s0_course_outputs s0_course_losses s0_rows_e__sort s0_rows_e__size s0_rows_e_places) H := hP
  have hD : va_D A (wm_X8_followInThought cA h0 h0_filter h0_filter_numbers h0_filter_words h0_trial h0_trial_numbers h0_trial_words h0_course h0_course_outputs h0_course_losses h0_rows h0_rows_e h0_rows_e_places h0_kept h0_ways h0_spread h0_changes h0_tape h0_bodies h0_causes s0__hasImage s0__hasCauses s0__stepsDone s0_filter__all s0_filter__v s0_filter__loss s0_filter__result s0_filter__over s0_filter__heldAll s0_filter__heldRounded s0_filter_numbers s0_filter_words s0_trial__all s0_trial__v s0_trial__loss s0_trial__result s0_trial__over s0_trial__heldAll s0_trial__heldRounded s0_trial_numbers s0_trial_words s0_course__length s0_course__overs s0_course__halted s0_course__haltedBy s0_course_outputs s0_course_losses s0_rows_e__sort s0_rows_e__size s0_rows_e_places) := hD
  refine lv_if_eq (tgt := 14) hx hb dX8_judge_4 (by decide) (fun c => ?_) (fun c => ?_)
  · replace hok := g_pos hok c
    refine lv_iconst (v := -1) hx hb dX8_judge_14 (by decide) ?_
    obtain ⟨e, hok⟩ := g_pr hok
    try subst e
    obtain ⟨e, hok⟩ := g_pr hok
    try subst e
    obtain ⟨e, hok⟩ := g_pr hok
    try subst e
    obtain ⟨e, hok⟩ := g_pr hok
    try subst e
    obtain ⟨e, hok⟩ := g_pr hok
    try subst e
    obtain ⟨e, hok⟩ := g_pr hok
    try subst e
    obtain ⟨e, hok⟩ := g_pr hok
    try subst e
    obtain ⟨e, hok⟩ := g_pr hok
    try subst e
    obtain ⟨e, hok⟩ := g_pr hok
    try subst e
    obtain ⟨e, hok⟩ := g_pr hok
    try subst e
    obtain ⟨e, hok⟩ := g_pr hok
    try subst e
    obtain ⟨e, hok⟩ := g_pr hok
    try subst e
    obtain ⟨e, hok⟩ := g_pr hok
    try subst e
    obtain ⟨e, hok⟩ := g_pr hok
    try subst e
    obtain ⟨e, hok⟩ := g_pr hok
    try subst e
    cases hok
    exact cr_i hx hb hr hlocks hQ dX8_judge_15 hP hS
  replace hok := g_neg hok c
  refine lv_iload_n hx hb dX8_judge_7 rfl (lv_at hl 2 rfl) ?_
  obtain ⟨r2, hq, hok⟩ := g_bnd1 hok
  refine cG (is := []) (wc := (wm_X0_find cA)) (w1 := (wm_X0_find cA)) (rv := (some (.int r2))) (st1 := [.int r2]) (va_runS (Ts := wsX8_judge) (As := [.int x2]) (rest := []) ⟨hx, hb, hml, hown, hts⟩ (c_X8_isRow l G cA ts x2 r2 hq H.size) (va_cwS 1 hts gX8_judge_X8_isRow rfl rfl rfl (by decide +kernel) ⟨Nat.le_of_ble_eq_true rfl, Nat.le_of_ble_eq_true rfl⟩) (pre_S (is := []) hP hD hS hA hK hZ (by decide +kernel) (by rfl)) rfl rfl hl.1 rfl (by exact lv_room (Nat.le_of_ble_eq_true rfl)) dX8_judge_8 ⟨Nat.le_refl _, Nat.le_refl _⟩) hP hD hS hA (by decide +kernel) (by rfl) (by rfl) rfl (fun H locs hP hD hS => ?_)
  have hP : va_P G vwCl (wm_X8_followInThought cA h0 h0_filter h0_filter_numbers h0_filter_words h0_trial h0_trial_numbers h0_trial_words h0_course h0_course_outputs h0_course_losses h0_rows h0_rows_e h0_rows_e_places h0_kept h0_ways h0_spread h0_changes h0_tape h0_bodies h0_causes s0__hasImage s0__hasCauses s0__stepsDone s0_filter__all s0_filter__v s0_filter__loss s0_filter__result s0_filter__over s0_filter__heldAll s0_filter__heldRounded s0_filter_numbers s0_filter_words s0_trial__all s0_trial__v s0_trial__loss s0_trial__result s0_trial__over s0_trial__heldAll s0_trial__heldRounded s0_trial_numbers s0_trial_words s0_course__length s0_course__overs s0_course__halted s0_course__haltedBy s0_course_outputs s0_course_losses s0_rows_e__sort s0_rows_e__size s0_rows_e_places) H := hP
  have hD : va_D A (wm_X8_followInThought cA h0 h0_filter h0_filter_numbers h0_filter_words h0_trial h0_trial_numbers h0_trial_words h0_course h0_course_outputs h0_course_losses h0_rows h0_rows_e h0_rows_e_places h0_kept h0_ways h0_spread h0_changes h0_tape h0_bodies h0_causes s0__hasImage s0__hasCauses s0__stepsDone s0_filter__all s0_filter__v s0_filter__loss s0_filter__result s0_filter__over s0_filter__heldAll s0_filter__heldRounded s0_filter_numbers s0_filter_words s0_trial__all s0_trial__v s0_trial__loss s0_trial__result s0_trial__over s0_trial__heldAll s0_trial__heldRounded s0_trial_numbers s0_trial_words s0_course__length s0_course__overs s0_course__halted s0_course__haltedBy s0_course_outputs s0_course_losses s0_rows_e__sort s0_rows_e__size s0_rows_e_places) := hD
  refine lv_if_ne (tgt := 16) hx hb dX8_judge_11 (by decide) (fun c => ?_) (fun c => ?_)
  · replace hok := g_neg hok c
    refine lv_aload_n hx hb dX8_judge_16 rfl (lv_at hl 0 rfl) ?_
    refine lv_iload_n hx hb dX8_judge_17 rfl (lv_at hl 1 rfl) ?_
    obtain ⟨r3, hq, hok⟩ := g_bnd1 hok
    refine cG (is := [0, 10, 11, 13, 15, 17]) (wc := (wm_X8_isMissing cA h0 h0_rows h0_rows_e h0_filter h0_trial h0_kept h0_ways h0_spread h0_course h0_changes h0_tape h0_bodies h0_causes h0_rows_e_places s0__hasImage s0__hasCauses s0__stepsDone s0_rows_e__sort s0_rows_e__size)) (w1 := (wm_X8_isMissing cA h0 h0_rows h0_rows_e h0_filter h0_trial h0_kept h0_ways h0_spread h0_course h0_changes h0_tape h0_bodies h0_causes h0_rows_e_places s0__hasImage s0__hasCauses s0__stepsDone s0_rows_e__sort s0_rows_e__size)) (rv := (some (.int r3))) (st1 := [.int r3]) (va_runV (Ts := wsX8_judge) (As := [.int x1]) (rest := []) ⟨hx, hb, hml, hown, hts⟩ (c_X8_isMissing l G cA ts h0 h0_rows h0_rows_e h0_filter h0_trial h0_kept h0_ways h0_spread h0_course h0_changes h0_tape h0_bodies h0_causes h0_rows_e_places x1 s0__hasImage s0__hasCauses s0__stepsDone s0_rows_e__sort s0_rows_e__size r3 hq H.size) (cwV 1 hts gX8_judge_X8_isMissing rfl rfl rfl (by decide +kernel) ⟨Nat.le_of_ble_eq_true rfl, Nat.le_of_ble_eq_true rfl⟩) (pre_V (ci := 8) (q0 := 0) (is := [0, 10, 11, 13, 15, 17]) rfl rfl hP hD hS hA hK hZ (by decide +kernel) (by rfl)) rfl rfl hl.1 rfl (by exact lv_room (Nat.le_of_ble_eq_true rfl)) dX8_judge_18 ⟨Nat.le_refl _, Nat.le_refl _⟩) hP hD hS hA (by decide +kernel) (by rfl) (by rfl) rfl (fun H locs hP hD hS => ?_)
    have hP : va_P G vwCl (wm_X8_followInThought cA h0 h0_filter h0_filter_numbers h0_filter_words h0_trial h0_trial_numbers h0_trial_words h0_course h0_course_outputs h0_course_losses h0_rows h0_rows_e h0_rows_e_places h0_kept h0_ways h0_spread h0_changes h0_tape h0_bodies h0_causes s0__hasImage s0__hasCauses s0__stepsDone s0_filter__all s0_filter__v s0_filter__loss s0_filter__result s0_filter__over s0_filter__heldAll s0_filter__heldRounded s0_filter_numbers s0_filter_words s0_trial__all s0_trial__v s0_trial__loss s0_trial__result s0_trial__over s0_trial__heldAll s0_trial__heldRounded s0_trial_numbers s0_trial_words s0_course__length s0_course__overs s0_course__halted s0_course__haltedBy s0_course_outputs s0_course_losses s0_rows_e__sort s0_rows_e__size s0_rows_e_places) H := hP
    have hD : va_D A (wm_X8_followInThought cA h0 h0_filter h0_filter_numbers h0_filter_words h0_trial h0_trial_numbers h0_trial_words h0_course h0_course_outputs h0_course_losses h0_rows h0_rows_e h0_rows_e_places h0_kept h0_ways h0_spread h0_changes h0_tape h0_bodies h0_causes s0__hasImage s0__hasCauses s0__stepsDone s0_filter__all s0_filter__v s0_filter__loss s0_filter__result s0_filter__over s0_filter__heldAll s0_filter__heldRounded s0_filter_numbers s0_filter_words s0_trial__all s0_trial__v s0_trial__loss s0_trial__result s0_trial__over s0_trial__heldAll s0_trial__heldRounded s0_trial_numbers s0_trial_words s0_course__length s0_course__overs s0_course__halted s0_course__haltedBy s0_course_outputs s0_course_losses s0_rows_e__sort s0_rows_e__size s0_rows_e_places) := hD
    refine lv_if_ne (tgt := 32) hx hb dX8_judge_21 (by decide) (fun c => ?_) (fun c => ?_)
    · replace hok := g_neg hok c
      refine lv_bipush (v := -11) hx hb dX8_judge_32 (by decide) ?_
      obtain ⟨e, hok⟩ := g_pr hok
      try subst e
      obtain ⟨e, hok⟩ := g_pr hok
      try subst e
      obtain ⟨e, hok⟩ := g_pr hok
      try subst e
      obtain ⟨e, hok⟩ := g_pr hok
      try subst e
      obtain ⟨e, hok⟩ := g_pr hok
      try subst e
      obtain ⟨e, hok⟩ := g_pr hok
      try subst e
      obtain ⟨e, hok⟩ := g_pr hok
      try subst e
      obtain ⟨e, hok⟩ := g_pr hok
      try subst e
      obtain ⟨e, hok⟩ := g_pr hok
      try subst e
      obtain ⟨e, hok⟩ := g_pr hok
      try subst e
      obtain ⟨e, hok⟩ := g_pr hok
      try subst e
      obtain ⟨e, hok⟩ := g_pr hok
      try subst e
      obtain ⟨e, hok⟩ := g_pr hok
      try subst e
      obtain ⟨e, hok⟩ := g_pr hok
      try subst e
      obtain ⟨e, hok⟩ := g_pr hok
      try subst e
      cases hok
      exact cr_i hx hb hr hlocks hQ dX8_judge_34 hP hS
    replace hok := g_pos hok c
    refine lv_aload_n hx hb dX8_judge_24 rfl (lv_at hl 0 rfl) ?_
    refine lv_iload_n hx hb dX8_judge_25 rfl (lv_at hl 2 rfl) ?_
    obtain ⟨r4, hq, hok⟩ := g_bnd1 hok
    refine cG (is := [0, 10, 11, 13, 15, 17]) (wc := (wm_X8_isMissing cA h0 h0_rows h0_rows_e h0_filter h0_trial h0_kept h0_ways h0_spread h0_course h0_changes h0_tape h0_bodies h0_causes h0_rows_e_places s0__hasImage s0__hasCauses s0__stepsDone s0_rows_e__sort s0_rows_e__size)) (w1 := (wm_X8_isMissing cA h0 h0_rows h0_rows_e h0_filter h0_trial h0_kept h0_ways h0_spread h0_course h0_changes h0_tape h0_bodies h0_causes h0_rows_e_places s0__hasImage s0__hasCauses s0__stepsDone s0_rows_e__sort s0_rows_e__size)) (rv := (some (.int r4))) (st1 := [.int r4]) (va_runV (Ts := wsX8_judge) (As := [.int x2]) (rest := []) ⟨hx, hb, hml, hown, hts⟩ (c_X8_isMissing l G cA ts h0 h0_rows h0_rows_e h0_filter h0_trial h0_kept h0_ways h0_spread h0_course h0_changes h0_tape h0_bodies h0_causes h0_rows_e_places x2 s0__hasImage s0__hasCauses s0__stepsDone s0_rows_e__sort s0_rows_e__size r4 hq H.size) (cwV 1 hts gX8_judge_X8_isMissing rfl rfl rfl (by decide +kernel) ⟨Nat.le_of_ble_eq_true rfl, Nat.le_of_ble_eq_true rfl⟩) (pre_V (ci := 8) (q0 := 0) (is := [0, 10, 11, 13, 15, 17]) rfl rfl hP hD hS hA hK hZ (by decide +kernel) (by rfl)) rfl rfl hl.1 rfl (by exact lv_room (Nat.le_of_ble_eq_true rfl)) dX8_judge_26 ⟨Nat.le_refl _, Nat.le_refl _⟩) hP hD hS hA (by decide +kernel) (by rfl) (by rfl) rfl (fun H locs hP hD hS => ?_)
    have hP : va_P G vwCl (wm_X8_followInThought cA h0 h0_filter h0_filter_numbers h0_filter_words h0_trial h0_trial_numbers h0_trial_words h0_course h0_course_outputs h0_course_losses h0_rows h0_rows_e h0_rows_e_places h0_kept h0_ways h0_spread h0_changes h0_tape h0_bodies h0_causes s0__hasImage s0__hasCauses s0__stepsDone s0_filter__all s0_filter__v s0_filter__loss s0_filter__result s0_filter__over s0_filter__heldAll s0_filter__heldRounded s0_filter_numbers s0_filter_words s0_trial__all s0_trial__v s0_trial__loss s0_trial__result s0_trial__over s0_trial__heldAll s0_trial__heldRounded s0_trial_numbers s0_trial_words s0_course__length s0_course__overs s0_course__halted s0_course__haltedBy s0_course_outputs s0_course_losses s0_rows_e__sort s0_rows_e__size s0_rows_e_places) H := hP
    have hD : va_D A (wm_X8_followInThought cA h0 h0_filter h0_filter_numbers h0_filter_words h0_trial h0_trial_numbers h0_trial_words h0_course h0_course_outputs h0_course_losses h0_rows h0_rows_e h0_rows_e_places h0_kept h0_ways h0_spread h0_changes h0_tape h0_bodies h0_causes s0__hasImage s0__hasCauses s0__stepsDone s0_filter__all s0_filter__v s0_filter__loss s0_filter__result s0_filter__over s0_filter__heldAll s0_filter__heldRounded s0_filter_numbers s0_filter_words s0_trial__all s0_trial__v s0_trial__loss s0_trial__result s0_trial__over s0_trial__heldAll s0_trial__heldRounded s0_trial_numbers s0_trial_words s0_course__length s0_course__overs s0_course__halted s0_course__haltedBy s0_course_outputs s0_course_losses s0_rows_e__sort s0_rows_e__size s0_rows_e_places) := hD
    refine lv_if_eq (tgt := 35) hx hb dX8_judge_29 (by decide) (fun c => ?_) (fun c => ?_)
    · replace hok := g_pos hok c
      refine lv_aload_n hx hb dX8_judge_35 rfl (lv_at hl 0 rfl) ?_
      refine lv_iload_n hx hb dX8_judge_36 rfl (lv_at hl 1 rfl) ?_
      obtain ⟨o5, o6, o7, o8, o9, o10, o11, o12, o13, o14, o15, o16, o17, o18, o19, hq, hok⟩ := g_bnd15 hok
      refine cG (is := [0, 1, 2, 3, 4, 5, 6, 7, 8, 9, 10, 11, 12, 13, 14, 15, 16, 17, 18]) (wc := (wm_X8_followInThought cA h0 h0_filter h0_filter_numbers h0_filter_words h0_trial h0_trial_numbers h0_trial_words h0_course h0_course_outputs h0_course_losses h0_rows h0_rows_e h0_rows_e_places h0_kept h0_ways h0_spread h0_changes h0_tape h0_bodies h0_causes s0__hasImage s0__hasCauses s0__stepsDone s0_filter__all s0_filter__v s0_filter__loss s0_filter__result s0_filter__over s0_filter__heldAll s0_filter__heldRounded s0_filter_numbers s0_filter_words s0_trial__all s0_trial__v s0_trial__loss s0_trial__result s0_trial__over s0_trial__heldAll s0_trial__heldRounded s0_trial_numbers s0_trial_words s0_course__length s0_course__overs s0_course__halted s0_course__haltedBy s0_course_outputs s0_course_losses s0_rows_e__sort s0_rows_e__size s0_rows_e_places)) (w1 := (wm_X8_followInThought cA h0 h0_filter h0_filter_numbers h0_filter_words h0_trial h0_trial_numbers h0_trial_words h0_course h0_course_outputs h0_course_losses h0_rows h0_rows_e h0_rows_e_places h0_kept h0_ways h0_spread h0_changes h0_tape h0_bodies h0_causes s0__hasImage s0__hasCauses s0__stepsDone s0_filter__all s0_filter__v s0_filter__loss s0_filter__result s0_filter__over s0_filter__heldAll s0_filter__heldRounded s0_filter_numbers s0_filter_words o5 o6 o7 o8 o9 o10 o11 o12 o13 o14 o15 o16 o17 o18 o19 s0_rows_e__sort s0_rows_e__size s0_rows_e_places)) (rv := none) (st1 := []) (va_runV (Ts := wsX8_judge) (As := [.int x1]) (rest := []) ⟨hx, hb, hml, hown, hts⟩ (c_X8_followInThought l G cA ts h0 h0_filter h0_filter_numbers h0_filter_words h0_trial h0_trial_numbers h0_trial_words h0_course h0_course_outputs h0_course_losses h0_rows h0_rows_e h0_rows_e_places h0_kept h0_ways h0_spread h0_changes h0_tape h0_bodies h0_causes x1 s0__hasImage s0__hasCauses s0__stepsDone s0_filter__all s0_filter__v s0_filter__loss s0_filter__result s0_filter__over s0_filter__heldAll s0_filter__heldRounded s0_filter_numbers s0_filter_words s0_trial__all s0_trial__v s0_trial__loss s0_trial__result s0_trial__over s0_trial__heldAll s0_trial__heldRounded s0_trial_numbers s0_trial_words s0_course__length s0_course__overs s0_course__halted s0_course__haltedBy s0_course_outputs s0_course_losses s0_rows_e__sort s0_rows_e__size s0_rows_e_places o5 o6 o7 o8 o9 o10 o11 o12 o13 o14 o15 o16 o17 o18 o19 hq H.size) (cwV 1 hts gX8_judge_X8_followInThought rfl rfl rfl (by decide +kernel) ⟨Nat.le_of_ble_eq_true rfl, Nat.le_of_ble_eq_true rfl⟩) (pre_V (ci := 8) (q0 := 0) (is := [0, 1, 2, 3, 4, 5, 6, 7, 8, 9, 10, 11, 12, 13, 14, 15, 16, 17, 18]) rfl rfl hP hD hS hA hK hZ (by decide +kernel) (by rfl)) rfl rfl hl.1 rfl (by exact lv_room (Nat.le_of_ble_eq_true rfl)) dX8_judge_37 ⟨Nat.le_refl _, Nat.le_refl _⟩) hP hD hS hA (by decide +kernel) (by rfl) (by rfl) rfl (fun H locs hP hD hS => ?_)
      obtain ⟨hP, hD⟩ : va_P G vwCl (wm_X8_followInThought cA h0 h0_filter h0_filter_numbers h0_filter_words h0_trial h0_trial_numbers h0_trial_words h0_course h0_course_outputs h0_course_losses h0_rows h0_rows_e h0_rows_e_places h0_kept h0_ways h0_spread h0_changes h0_tape h0_bodies h0_causes s0__hasImage s0__hasCauses s0__stepsDone s0_filter__all s0_filter__v s0_filter__loss s0_filter__result s0_filter__over s0_filter__heldAll s0_filter__heldRounded s0_filter_numbers s0_filter_words o5 o6 o7 o8 o9 o10 o11 o12 o13 o14 o15 o16 o17 o18 o19 s0_rows_e__sort s0_rows_e__size s0_rows_e_places) H ∧ va_D A (wm_X8_followInThought cA h0 h0_filter h0_filter_numbers h0_filter_words h0_trial h0_trial_numbers h0_trial_words h0_course h0_course_outputs h0_course_losses h0_rows h0_rows_e h0_rows_e_places h0_kept h0_ways h0_spread h0_changes h0_tape h0_bodies h0_causes s0__hasImage s0__hasCauses s0__stepsDone s0_filter__all s0_filter__v s0_filter__loss s0_filter__result s0_filter__over s0_filter__heldAll s0_filter__heldRounded s0_filter_numbers s0_filter_words o5 o6 o7 o8 o9 o10 o11 o12 o13 o14 o15 o16 o17 o18 o19 s0_rows_e__sort s0_rows_e__size s0_rows_e_places) := PD_eq hP hD (rp_eq (js := []) 19 (by decide +kernel) rfl rfl (by rfl) (by rfl) (by decide +kernel))
      refine lv_aload_n hx hb dX8_judge_40 rfl (lv_at hl 0 rfl) ?_
      refine va_get (ci := 8) (v := .ref h0_rows) (C := RX8) (T := TX8) (N := 14) hx hb hts hinX8 hown hK hP 0 rfl rfl 7 (by decide) (hts _ (List.mem_of_getElem? (i := 1) rfl)) (fun _ h9 => h9) rfl dX8_judge_41 ?_
      refine lv_iload_n hx hb dX8_judge_44 rfl (lv_at hl 2 rfl) ?_
      obtain ⟨hin20, hok⟩ := g_no hok
      refine va_aldq hx hb hK hP 10 4 rfl rfl hin20 dX8_judge_45 ?_
      refine W.eq (congrArg (fun z => F0 m 46 ls (z :: [])) (rf_at (Nat.not_le.mp fun q => hin20 (Or.inr q)))) ?_
      refine va_get (fs := [.ref (h0_rows_e_places x2.toNatClampNeg), .int (s0_rows_e__sort x2.toNatClampNeg), .int (s0_rows_e__size x2.toNatClampNeg)]) (ci := 4) (v := .int (s0_rows_e__size x2.toNatClampNeg)) (C := RX4) (T := TX4) (N := 3) hx hb hts hinX4 hown hK hP (11 + 2 * x2.toNatClampNeg) (by rcases lt4 (Nat.not_le.mp fun q => hin20 (Or.inr q)) with e | e | e | e <;> rw [e] <;> rfl) rfl 2 (by decide) (hts _ (List.mem_of_getElem? (i := 2) rfl)) (fun _ h9 => h9) rfl dX8_judge_46 ?_
      refine lv_istore_n (lv' := [(3, .int (s0_rows_e__size x2.toNatClampNeg)), (0, .ref h0), (1, .int x1), (2, .int x2)]) hx hb dX8_judge_49 rfl hl (by decide) rfl (fun ls hl => ?_)
      refine lv_aload_n hx hb dX8_judge_50 rfl (lv_at hl 1 rfl) ?_
      refine va_get (ci := 8) (v := .ref h0_course) (C := RX8) (T := TX8) (N := 14) hx hb hts hinX8 hown hK hP 0 rfl rfl 6 (by decide) (hts _ (List.mem_of_getElem? (i := 3) rfl)) (fun _ h9 => h9) rfl dX8_judge_51 ?_
      refine lv_aload_n hx hb dX8_judge_54 rfl (lv_at hl 1 rfl) ?_
      refine va_get (ci := 8) (v := .ref h0_rows) (C := RX8) (T := TX8) (N := 14) hx hb hts hinX8 hown hK hP 0 rfl rfl 7 (by decide) (hts _ (List.mem_of_getElem? (i := 1) rfl)) (fun _ h9 => h9) rfl dX8_judge_55 ?_
      refine lv_iload_n hx hb dX8_judge_58 rfl (lv_at hl 3 rfl) ?_
      obtain ⟨hin21, hok⟩ := g_no hok
      refine va_aldq hx hb hK hP 10 4 rfl rfl hin21 dX8_judge_59 ?_
      refine W.eq (congrArg (fun z => F0 m 60 ls (z :: [.ref h0_course])) (rf_at (Nat.not_le.mp fun q => hin21 (Or.inr q)))) ?_
      obtain ⟨r22, hq, hok⟩ := g_bnd1 hok
      refine cG (is := [7, 8, 11 + 2 * x2.toNatClampNeg, 12 + 2 * x2.toNatClampNeg]) (wc := (wm_X2_howManyLike cA h0_course h0_course_outputs (h0_rows_e x2.toNatClampNeg) (h0_rows_e_places x2.toNatClampNeg) h0_course_losses o14 o15 o16 o17 o18 (s0_rows_e__sort x2.toNatClampNeg) (s0_rows_e__size x2.toNatClampNeg) (s0_rows_e_places x2.toNatClampNeg))) (w1 := (wm_X2_howManyLike cA h0_course h0_course_outputs (h0_rows_e x2.toNatClampNeg) (h0_rows_e_places x2.toNatClampNeg) h0_course_losses o14 o15 o16 o17 o18 (s0_rows_e__sort x2.toNatClampNeg) (s0_rows_e__size x2.toNatClampNeg) (s0_rows_e_places x2.toNatClampNeg))) (rv := (some (.int r22))) (st1 := [.int r22]) (va_runV (Ts := wsX8_judge) (As := [.ref (h0_rows_e x2.toNatClampNeg)]) (rest := []) ⟨hx, hb, hml, hown, hts⟩ (c_X2_howManyLike l G cA ts h0_course h0_course_outputs (h0_rows_e x2.toNatClampNeg) (h0_rows_e_places x2.toNatClampNeg) h0_course_losses o14 o15 o16 o17 o18 (s0_rows_e__sort x2.toNatClampNeg) (s0_rows_e__size x2.toNatClampNeg) (s0_rows_e_places x2.toNatClampNeg) r22 hq H.size) (cwV 1 hts gX8_judge_X2_howManyLike rfl rfl rfl (by decide +kernel) ⟨Nat.le_of_ble_eq_true rfl, Nat.le_of_ble_eq_true rfl⟩) (pre_V (ci := 2) (q0 := 7) (is := [7, 8, 11 + 2 * x2.toNatClampNeg, 12 + 2 * x2.toNatClampNeg]) rfl rfl hP hD hS hA hK hZ (by rcases lt4 (Nat.not_le.mp fun q => hin21 (Or.inr q)) with e | e | e | e <;> rw [e] <;> rfl) (by rcases lt4 (Nat.not_le.mp fun q => hin21 (Or.inr q)) with e | e | e | e <;> rw [e] <;> rfl)) rfl rfl hl.1 rfl (by exact lv_room (Nat.le_of_ble_eq_true rfl)) dX8_judge_60 ⟨Nat.le_refl _, Nat.le_refl _⟩) hP hD hS hA (by rcases lt4 (Nat.not_le.mp fun q => hin21 (Or.inr q)) with e | e | e | e <;> rw [e] <;> rfl) (by rcases lt4 (Nat.not_le.mp fun q => hin21 (Or.inr q)) with e | e | e | e <;> rw [e] <;> rfl) (by rfl) rfl (fun H locs hP hD hS => ?_)
      obtain ⟨hP, hD⟩ : va_P G vwCl (wm_X8_followInThought cA h0 h0_filter h0_filter_numbers h0_filter_words h0_trial h0_trial_numbers h0_trial_words h0_course h0_course_outputs h0_course_losses h0_rows h0_rows_e h0_rows_e_places h0_kept h0_ways h0_spread h0_changes h0_tape h0_bodies h0_causes s0__hasImage s0__hasCauses s0__stepsDone s0_filter__all s0_filter__v s0_filter__loss s0_filter__result s0_filter__over s0_filter__heldAll s0_filter__heldRounded s0_filter_numbers s0_filter_words o5 o6 o7 o8 o9 o10 o11 o12 o13 o14 o15 o16 o17 o18 o19 s0_rows_e__sort s0_rows_e__size s0_rows_e_places) H ∧ va_D A (wm_X8_followInThought cA h0 h0_filter h0_filter_numbers h0_filter_words h0_trial h0_trial_numbers h0_trial_words h0_course h0_course_outputs h0_course_losses h0_rows h0_rows_e h0_rows_e_places h0_kept h0_ways h0_spread h0_changes h0_tape h0_bodies h0_causes s0__hasImage s0__hasCauses s0__stepsDone s0_filter__all s0_filter__v s0_filter__loss s0_filter__result s0_filter__over s0_filter__heldAll s0_filter__heldRounded s0_filter_numbers s0_filter_words o5 o6 o7 o8 o9 o10 o11 o12 o13 o14 o15 o16 o17 o18 o19 s0_rows_e__sort s0_rows_e__size s0_rows_e_places) := PD_eq hP hD (by rcases lt4 (Nat.not_le.mp fun q => hin21 (Or.inr q)) with e | e | e | e <;> rw [e] <;> rfl)
      refine lv_istore (lv' := [(4, .int r22), (3, .int (s0_rows_e__size x2.toNatClampNeg)), (0, .ref h0), (1, .int x1), (2, .int x2)]) hx hb dX8_judge_63 hl (by decide) rfl (fun ls hl => ?_)
      refine lv_iload hx hb dX8_judge_65 (lv_at hl 0 rfl) ?_
      refine lv_iload_n hx hb dX8_judge_67 rfl (lv_at hl 1 rfl) ?_
      refine lv_icmp_ge (tgt := 74) hx hb dX8_judge_68 (by decide) (fun c => ?_) (fun c => ?_)
      · replace hok := g_pos hok c
        refine lv_iload_n hx hb dX8_judge_74 rfl (lv_at hl 1 rfl) ?_
        refine lv_aload_n hx hb dX8_judge_75 rfl (lv_at hl 2 rfl) ?_
        refine va_get (ci := 8) (v := .ref h0_course) (C := RX8) (T := TX8) (N := 14) hx hb hts hinX8 hown hK hP 0 rfl rfl 6 (by decide) (hts _ (List.mem_of_getElem? (i := 3) rfl)) (fun _ h9 => h9) rfl dX8_judge_76 ?_
        refine va_get (ci := 2) (v := .int o14) (C := RX2) (T := TX2) (N := 6) hx hb hts hinX2 hown hK hP 7 rfl rfl 2 (by decide) (hts _ (List.mem_of_getElem? (i := 4) rfl)) (fun _ h9 => h9) rfl dX8_judge_79 ?_
        refine lv_icmp_ge (tgt := 92) hx hb dX8_judge_82 (by decide) (fun c => ?_) (fun c => ?_)
        · replace hok := g_pos hok c
          refine lv_bipush (v := -2) hx hb dX8_judge_92 (by decide) ?_
          obtain ⟨e, hok⟩ := g_pr hok
          try subst e
          obtain ⟨e, hok⟩ := g_pr hok
          try subst e
          obtain ⟨e, hok⟩ := g_pr hok
          try subst e
          obtain ⟨e, hok⟩ := g_pr hok
          try subst e
          obtain ⟨e, hok⟩ := g_pr hok
          try subst e
          obtain ⟨e, hok⟩ := g_pr hok
          try subst e
          obtain ⟨e, hok⟩ := g_pr hok
          try subst e
          obtain ⟨e, hok⟩ := g_pr hok
          try subst e
          obtain ⟨e, hok⟩ := g_pr hok
          try subst e
          obtain ⟨e, hok⟩ := g_pr hok
          try subst e
          obtain ⟨e, hok⟩ := g_pr hok
          try subst e
          obtain ⟨e, hok⟩ := g_pr hok
          try subst e
          obtain ⟨e, hok⟩ := g_pr hok
          try subst e
          obtain ⟨e, hok⟩ := g_pr hok
          try subst e
          obtain ⟨e, hok⟩ := g_pr hok
          try subst e
          cases hok
          exact cr_i hx hb hr hlocks hQ dX8_judge_94 hP hS
        replace hok := g_neg hok c
        refine lv_bipush (v := 100) hx hb dX8_judge_85 (by decide) ?_
        refine lv_iload_n hx hb dX8_judge_87 rfl (lv_at hl 1 rfl) ?_
        refine lv_iadd hx hb dX8_judge_88 ?_
        refine lv_goto (tgt := 94) hx hb dX8_judge_89 (by decide) ?_
        obtain ⟨e, hok⟩ := g_pr hok
        try subst e
        obtain ⟨e, hok⟩ := g_pr hok
        try subst e
        obtain ⟨e, hok⟩ := g_pr hok
        try subst e
        obtain ⟨e, hok⟩ := g_pr hok
        try subst e
        obtain ⟨e, hok⟩ := g_pr hok
        try subst e
        obtain ⟨e, hok⟩ := g_pr hok
        try subst e
        obtain ⟨e, hok⟩ := g_pr hok
        try subst e
        obtain ⟨e, hok⟩ := g_pr hok
        try subst e
        obtain ⟨e, hok⟩ := g_pr hok
        try subst e
        obtain ⟨e, hok⟩ := g_pr hok
        try subst e
        obtain ⟨e, hok⟩ := g_pr hok
        try subst e
        obtain ⟨e, hok⟩ := g_pr hok
        try subst e
        obtain ⟨e, hok⟩ := g_pr hok
        try subst e
        obtain ⟨e, hok⟩ := g_pr hok
        try subst e
        obtain ⟨e, hok⟩ := g_pr hok
        try subst e
        cases hok
        exact cr_i hx hb hr hlocks hQ dX8_judge_94 hP hS
      replace hok := g_neg hok c
      refine lv_iload hx hb dX8_judge_71 (lv_at hl 0 rfl) ?_
      obtain ⟨e, hok⟩ := g_pr hok
      try subst e
      obtain ⟨e, hok⟩ := g_pr hok
      try subst e
      obtain ⟨e, hok⟩ := g_pr hok
      try subst e
      obtain ⟨e, hok⟩ := g_pr hok
      try subst e
      obtain ⟨e, hok⟩ := g_pr hok
      try subst e
      obtain ⟨e, hok⟩ := g_pr hok
      try subst e
      obtain ⟨e, hok⟩ := g_pr hok
      try subst e
      obtain ⟨e, hok⟩ := g_pr hok
      try subst e
      obtain ⟨e, hok⟩ := g_pr hok
      try subst e
      obtain ⟨e, hok⟩ := g_pr hok
      try subst e
      obtain ⟨e, hok⟩ := g_pr hok
      try subst e
      obtain ⟨e, hok⟩ := g_pr hok
      try subst e
      obtain ⟨e, hok⟩ := g_pr hok
      try subst e
      obtain ⟨e, hok⟩ := g_pr hok
      try subst e
      obtain ⟨e, hok⟩ := g_pr hok
      try subst e
      cases hok
      exact cr_i hx hb hr hlocks hQ dX8_judge_73 hP hS
    replace hok := g_neg hok c
    refine lv_bipush (v := -11) hx hb dX8_judge_32 (by decide) ?_
    obtain ⟨e, hok⟩ := g_pr hok
    try subst e
    obtain ⟨e, hok⟩ := g_pr hok
    try subst e
    obtain ⟨e, hok⟩ := g_pr hok
    try subst e
    obtain ⟨e, hok⟩ := g_pr hok
    try subst e
    obtain ⟨e, hok⟩ := g_pr hok
    try subst e
    obtain ⟨e, hok⟩ := g_pr hok
    try subst e
    obtain ⟨e, hok⟩ := g_pr hok
    try subst e
    obtain ⟨e, hok⟩ := g_pr hok
    try subst e
    obtain ⟨e, hok⟩ := g_pr hok
    try subst e
    obtain ⟨e, hok⟩ := g_pr hok
    try subst e
    obtain ⟨e, hok⟩ := g_pr hok
    try subst e
    obtain ⟨e, hok⟩ := g_pr hok
    try subst e
    obtain ⟨e, hok⟩ := g_pr hok
    try subst e
    obtain ⟨e, hok⟩ := g_pr hok
    try subst e
    obtain ⟨e, hok⟩ := g_pr hok
    try subst e
    cases hok
    exact cr_i hx hb hr hlocks hQ dX8_judge_34 hP hS
  replace hok := g_pos hok c
  refine lv_iconst (v := -1) hx hb dX8_judge_14 (by decide) ?_
  obtain ⟨e, hok⟩ := g_pr hok
  try subst e
  obtain ⟨e, hok⟩ := g_pr hok
  try subst e
  obtain ⟨e, hok⟩ := g_pr hok
  try subst e
  obtain ⟨e, hok⟩ := g_pr hok
  try subst e
  obtain ⟨e, hok⟩ := g_pr hok
  try subst e
  obtain ⟨e, hok⟩ := g_pr hok
  try subst e
  obtain ⟨e, hok⟩ := g_pr hok
  try subst e
  obtain ⟨e, hok⟩ := g_pr hok
  try subst e
  obtain ⟨e, hok⟩ := g_pr hok
  try subst e
  obtain ⟨e, hok⟩ := g_pr hok
  try subst e
  obtain ⟨e, hok⟩ := g_pr hok
  try subst e
  obtain ⟨e, hok⟩ := g_pr hok
  try subst e
  obtain ⟨e, hok⟩ := g_pr hok
  try subst e
  obtain ⟨e, hok⟩ := g_pr hok
  try subst e
  obtain ⟨e, hok⟩ := g_pr hok
  try subst e
  cases hok
  exact cr_i hx hb hr hlocks hQ dX8_judge_15 hP hS
