set_option maxHeartbeats 40000000 in
set_option maxRecDepth 100000 in
theorem c_X8_level (l : Launch) (G : va_G) (cA : Nat → ClassId) (ts : Nat → Nat) (h0 : Nat) (h0_filter : Nat) (h0_filter_numbers : Nat) (h0_filter_words : Nat) (h0_trial : Nat) (h0_trial_numbers : Nat) (h0_trial_words : Nat) (h0_course : Nat) (h0_course_outputs : Nat) (h0_course_losses : Nat) (h0_rows : Nat) (h0_rows_e : Nat → Nat) (h0_rows_e_places : Nat → Nat) (h0_kept : Nat) (h0_ways : Nat) (h0_spread : Nat) (h0_changes : Nat) (h0_tape : Nat) (h0_bodies : Nat) (h0_causes : Nat) (x1 : Int32) (x2 : Int32) (x3 : Int32) (s0__hasImage : Int32) (s0__hasCauses : Int32) (s0__stepsDone : Int32) (s0_filter__all : Int32) (s0_filter__v : Int32) (s0_filter__loss : Int32) (s0_filter__result : Int32) (s0_filter__over : Int32) (s0_filter__heldAll : Int32) (s0_filter__heldRounded : Int32) (s0_filter_numbers : Nat → Int32) (s0_filter_words : Nat → Int32) (s0_trial__all : Int32) (s0_trial__v : Int32) (s0_trial__loss : Int32) (s0_trial__result : Int32) (s0_trial__over : Int32) (s0_trial__heldAll : Int32) (s0_trial__heldRounded : Int32) (s0_trial_numbers : Nat → Int32) (s0_trial_words : Nat → Int32) (s0_course__length : Int32) (s0_course__overs : Int32) (s0_course__halted : Int32) (s0_course__haltedBy : Int32) (s0_course_outputs : Nat → Int32) (s0_course_losses : Nat → Int32) (s0_rows_e__sort : Nat → Int32) (s0_rows_e__size : Nat → Int32) (s0_rows_e_places : Nat → Nat → Int64) (r : Int32) (o0_trial__all : Int32) (o0_trial__v : Int32) (o0_trial__loss : Int32) (o0_trial__result : Int32) (o0_trial__over : Int32) (o0_trial__heldAll : Int32) (o0_trial__heldRounded : Int32) (o0_trial_numbers : Nat → Int32) (o0_trial_words : Nat → Int32) (o0_course__length : Int32) (o0_course__overs : Int32) (o0_course__halted : Int32) (o0_course__haltedBy : Int32) (o0_course_outputs : Nat → Int32) (o0_course_losses : Nat → Int32) (hok : fX8_level x1 x2 x3 s0_filter_numbers s0_filter_words s0_trial__all s0_trial__v s0_trial__loss s0_trial__result s0_trial__over s0_trial__heldAll s0_trial__heldRounded s0_trial_numbers s0_trial_words s0_course__length s0_course__overs s0_course__halted s0_course__haltedBy s0_course_outputs s0_course_losses s0_rows_e__sort s0_rows_e__size s0_rows_e_places = some (r, o0_trial__all, o0_trial__v, o0_trial__loss, o0_trial__result, o0_trial__over, o0_trial__heldAll, o0_trial__heldRounded, o0_trial_numbers, o0_trial_words, o0_course__length, o0_course__overs, o0_course__halted, o0_course__haltedBy, o0_course_outputs, o0_course_losses)) : Ct l G cA ts yX8_level wsX8_level 7 170 [.ref h0, .int x1, .int x2, .int x3] (wm_X8_followInThought cA h0 h0_filter h0_filter_numbers h0_filter_words h0_trial h0_trial_numbers h0_trial_words h0_course h0_course_outputs h0_course_losses h0_rows h0_rows_e h0_rows_e_places h0_kept h0_ways h0_spread h0_changes h0_tape h0_bodies h0_causes s0__hasImage s0__hasCauses s0__stepsDone s0_filter__all s0_filter__v s0_filter__loss s0_filter__result s0_filter__over s0_filter__heldAll s0_filter__heldRounded s0_filter_numbers s0_filter_words s0_trial__all s0_trial__v s0_trial__loss s0_trial__result s0_trial__over s0_trial__heldAll s0_trial__heldRounded s0_trial_numbers s0_trial_words s0_course__length s0_course__overs s0_course__halted s0_course__haltedBy s0_course_outputs s0_course_losses s0_rows_e__sort s0_rows_e__size s0_rows_e_places) (wm_X8_followInThought cA h0 h0_filter h0_filter_numbers h0_filter_words h0_trial h0_trial_numbers h0_trial_words h0_course h0_course_outputs h0_course_losses h0_rows h0_rows_e h0_rows_e_places h0_kept h0_ways h0_spread h0_changes h0_tape h0_bodies h0_causes s0__hasImage s0__hasCauses s0__stepsDone s0_filter__all s0_filter__v s0_filter__loss s0_filter__result s0_filter__over s0_filter__heldAll s0_filter__heldRounded s0_filter_numbers s0_filter_words o0_trial__all o0_trial__v o0_trial__loss o0_trial__result o0_trial__over o0_trial__heldAll o0_trial__heldRounded o0_trial_numbers o0_trial_words o0_course__length o0_course__overs o0_course__halted o0_course__haltedBy o0_course_outputs o0_course_losses s0_rows_e__sort s0_rows_e__size s0_rows_e_places) (some (.int r)) := by
  refine Ct.intro (cc := cX8_level) (maxL := 6) (ret := some .int) (by decide +kernel) rfl (Nat.le_of_ble_eq_true rfl) ?_
  intro p e s m ar below meth c A Q hx hb hr hml hown hlocks hts hK hZ hA hQ hP hD hS ls hl
  have hown : s.vm.findClass RX8 = some m.cls := hown
  have hinX2 : ∀ w ∈ wsX20, w ∈ wsX8_level := fun _ h => List.mem_cons_of_mem _ (List.mem_append_left _ (List.mem_append_left _ (List.mem_append_right _ (h))))
  have hinX8 : ∀ w ∈ wsX80, w ∈ wsX8_level := fun _ h => List.mem_cons_of_mem _ (List.mem_append_left _ (List.mem_append_left _ (List.mem_append_left _ (List.mem_append_right _ (h)))))
  have hl : lv_has ls 6 [(0, .ref h0), (1, .int x1), (2, .int x2), (3, .int x3)] := hl
  have hP : va_P G vwCl (wm_X8_followInThought cA h0 h0_filter h0_filter_numbers h0_filter_words h0_trial h0_trial_numbers h0_trial_words h0_course h0_course_outputs h0_course_losses h0_rows h0_rows_e h0_rows_e_places h0_kept h0_ways h0_spread h0_changes h0_tape h0_bodies h0_causes s0__hasImage s0__hasCauses s0__stepsDone s0_filter__all s0_filter__v s0_filter__loss s0_filter__result s0_filter__over s0_filter__heldAll s0_filter__heldRounded s0_filter_numbers s0_filter_words s0_trial__all s0_trial__v s0_trial__loss s0_trial__result s0_trial__over s0_trial__heldAll s0_trial__heldRounded s0_trial_numbers s0_trial_words s0_course__length s0_course__overs s0_course__halted s0_course__haltedBy s0_course_outputs s0_course_losses s0_rows_e__sort s0_rows_e__size s0_rows_e_places) s.heap := hP
  have hD : va_D A (wm_X8_followInThought cA h0 h0_filter h0_filter_numbers h0_filter_words h0_trial h0_trial_numbers h0_trial_words h0_course h0_course_outputs h0_course_losses h0_rows h0_rows_e h0_rows_e_places h0_kept h0_ways h0_spread h0_changes h0_tape h0_bodies h0_causes s0__hasImage s0__hasCauses s0__stepsDone s0_filter__all s0_filter__v s0_filter__loss s0_filter__result s0_filter__over s0_filter__heldAll s0_filter__heldRounded s0_filter_numbers s0_filter_words s0_trial__all s0_trial__v s0_trial__loss s0_trial__result s0_trial__over s0_trial__heldAll s0_trial__heldRounded s0_trial_numbers s0_trial_words s0_course__length s0_course__overs s0_course__halted s0_course__haltedBy s0_course_outputs s0_course_losses s0_rows_e__sort s0_rows_e__size s0_rows_e_places) := hD
  unfold fX8_level at hok
  refine lv_iload_n hx hb dX8_level_0 rfl (lv_at hl 1 rfl) ?_
  obtain ⟨r1, hq, hok⟩ := g_bnd1 hok
  refine cG (is := []) (wc := (wm_X0_find cA)) (w1 := (wm_X0_find cA)) (rv := (some (.int r1))) (st1 := [.int r1]) (va_runS (Ts := wsX8_level) (As := [.int x1]) (rest := []) ⟨hx, hb, hml, hown, hts⟩ (c_X8_isRow l G cA ts x1 r1 hq s.heap.size) (va_cwS 1 hts gX8_level_X8_isRow rfl rfl rfl (by decide +kernel) ⟨Nat.le_of_ble_eq_true rfl, Nat.le_of_ble_eq_true rfl⟩) (pre_S (is := []) hP hD hS hA hK hZ (by decide +kernel) (by rfl)) rfl rfl hl.1 rfl (by exact lv_room (Nat.le_of_ble_eq_true rfl)) dX8_level_1 ⟨Nat.le_refl _, Nat.le_refl _⟩) hP hD hS hA (by decide +kernel) (by rfl) (by rfl) rfl (fun H locs hP hD hS => ?_)
  have hP : va_P G vwCl (wm_X8_followInThought cA h0 h0_filter h0_filter_numbers h0_filter_words h0_trial h0_trial_numbers h0_trial_words h0_course h0_course_outputs h0_course_losses h0_rows h0_rows_e h0_rows_e_places h0_kept h0_ways h0_spread h0_changes h0_tape h0_bodies h0_causes s0__hasImage s0__hasCauses s0__stepsDone s0_filter__all s0_filter__v s0_filter__loss s0_filter__result s0_filter__over s0_filter__heldAll s0_filter__heldRounded s0_filter_numbers s0_filter_words s0_trial__all s0_trial__v s0_trial__loss s0_trial__result s0_trial__over s0_trial__heldAll s0_trial__heldRounded s0_trial_numbers s0_trial_words s0_course__length s0_course__overs s0_course__halted s0_course__haltedBy s0_course_outputs s0_course_losses s0_rows_e__sort s0_rows_e__size s0_rows_e_places) H := hP
  have hD : va_D A (wm_X8_followInThought cA h0 h0_filter h0_filter_numbers h0_filter_words h0_trial h0_trial_numbers h0_trial_words h0_course h0_course_outputs h0_course_losses h0_rows h0_rows_e h0_rows_e_places h0_kept h0_ways h0_spread h0_changes h0_tape h0_bodies h0_causes s0__hasImage s0__hasCauses s0__stepsDone s0_filter__all s0_filter__v s0_filter__loss s0_filter__result s0_filter__over s0_filter__heldAll s0_filter__heldRounded s0_filter_numbers s0_filter_words s0_trial__all s0_trial__v s0_trial__loss s0_trial__result s0_trial__over s0_trial__heldAll s0_trial__heldRounded s0_trial_numbers s0_trial_words s0_course__length s0_course__overs s0_course__halted s0_course__haltedBy s0_course_outputs s0_course_losses s0_rows_e__sort s0_rows_e__size s0_rows_e_places) := hD
  refine lv_if_eq (tgt := 24) hx hb dX8_level_4 (by decide) (fun c => ?_) (fun c => ?_)
  · replace hok := g_pos hok c
    refine lv_ldc (v := -1000000) hx hb hown (hts _ (List.mem_of_getElem? (i := 1) rfl)) dX8_level_24 ?_
    obtain ⟨e, hok⟩ := g_pr hok
    try subst e
    obtain ⟨e, hok⟩ := g_pr hok
    try subst e
    obtain ⟨e, hok⟩ := g_pr hok
    try subst e
    obtain ⟨e, hok⟩ := g_pr hok
    try subst e
    obtain ⟨e, hok⟩ := g_pr hok
    try subst e
    obtain ⟨e, hok⟩ := g_pr hok
    try subst e
    obtain ⟨e, hok⟩ := g_pr hok
    try subst e
    obtain ⟨e, hok⟩ := g_pr hok
    try subst e
    obtain ⟨e, hok⟩ := g_pr hok
    try subst e
    obtain ⟨e, hok⟩ := g_pr hok
    try subst e
    obtain ⟨e, hok⟩ := g_pr hok
    try subst e
    obtain ⟨e, hok⟩ := g_pr hok
    try subst e
    obtain ⟨e, hok⟩ := g_pr hok
    try subst e
    obtain ⟨e, hok⟩ := g_pr hok
    try subst e
    obtain ⟨e, hok⟩ := g_pr hok
    try subst e
    cases hok
    exact cr_i hx hb hr hlocks hQ dX8_level_26 hP hS
  replace hok := g_neg hok c
  refine lv_iload_n hx hb dX8_level_7 rfl (lv_at hl 3 rfl) ?_
  refine lv_if_lt (tgt := 24) hx hb dX8_level_8 (by decide) (fun c => ?_) (fun c => ?_)
  · replace hok := g_pos hok c
    refine lv_ldc (v := -1000000) hx hb hown (hts _ (List.mem_of_getElem? (i := 1) rfl)) dX8_level_24 ?_
    obtain ⟨e, hok⟩ := g_pr hok
    try subst e
    obtain ⟨e, hok⟩ := g_pr hok
    try subst e
    obtain ⟨e, hok⟩ := g_pr hok
    try subst e
    obtain ⟨e, hok⟩ := g_pr hok
    try subst e
    obtain ⟨e, hok⟩ := g_pr hok
    try subst e
    obtain ⟨e, hok⟩ := g_pr hok
    try subst e
    obtain ⟨e, hok⟩ := g_pr hok
    try subst e
    obtain ⟨e, hok⟩ := g_pr hok
    try subst e
    obtain ⟨e, hok⟩ := g_pr hok
    try subst e
    obtain ⟨e, hok⟩ := g_pr hok
    try subst e
    obtain ⟨e, hok⟩ := g_pr hok
    try subst e
    obtain ⟨e, hok⟩ := g_pr hok
    try subst e
    obtain ⟨e, hok⟩ := g_pr hok
    try subst e
    obtain ⟨e, hok⟩ := g_pr hok
    try subst e
    obtain ⟨e, hok⟩ := g_pr hok
    try subst e
    cases hok
    exact cr_i hx hb hr hlocks hQ dX8_level_26 hP hS
  replace hok := g_neg hok c
  refine lv_iload_n hx hb dX8_level_11 rfl (lv_at hl 3 rfl) ?_
  refine lv_iconst (v := 2) hx hb dX8_level_12 (by decide) ?_
  refine lv_icmp_gt (tgt := 24) hx hb dX8_level_13 (by decide) (fun c => ?_) (fun c => ?_)
  · replace hok := g_pos hok c
    refine lv_ldc (v := -1000000) hx hb hown (hts _ (List.mem_of_getElem? (i := 1) rfl)) dX8_level_24 ?_
    obtain ⟨e, hok⟩ := g_pr hok
    try subst e
    obtain ⟨e, hok⟩ := g_pr hok
    try subst e
    obtain ⟨e, hok⟩ := g_pr hok
    try subst e
    obtain ⟨e, hok⟩ := g_pr hok
    try subst e
    obtain ⟨e, hok⟩ := g_pr hok
    try subst e
    obtain ⟨e, hok⟩ := g_pr hok
    try subst e
    obtain ⟨e, hok⟩ := g_pr hok
    try subst e
    obtain ⟨e, hok⟩ := g_pr hok
    try subst e
    obtain ⟨e, hok⟩ := g_pr hok
    try subst e
    obtain ⟨e, hok⟩ := g_pr hok
    try subst e
    obtain ⟨e, hok⟩ := g_pr hok
    try subst e
    obtain ⟨e, hok⟩ := g_pr hok
    try subst e
    obtain ⟨e, hok⟩ := g_pr hok
    try subst e
    obtain ⟨e, hok⟩ := g_pr hok
    try subst e
    obtain ⟨e, hok⟩ := g_pr hok
    try subst e
    cases hok
    exact cr_i hx hb hr hlocks hQ dX8_level_26 hP hS
  replace hok := g_neg hok c
  refine lv_aload_n hx hb dX8_level_16 rfl (lv_at hl 0 rfl) ?_
  refine lv_iload_n hx hb dX8_level_17 rfl (lv_at hl 1 rfl) ?_
  obtain ⟨r2, hq, hok⟩ := g_bnd1 hok
  refine cG (is := [0, 10, 11, 13, 15, 17]) (wc := (wm_X8_isMissing cA h0 h0_rows h0_rows_e h0_filter h0_trial h0_kept h0_ways h0_spread h0_course h0_changes h0_tape h0_bodies h0_causes h0_rows_e_places s0__hasImage s0__hasCauses s0__stepsDone s0_rows_e__sort s0_rows_e__size)) (w1 := (wm_X8_isMissing cA h0 h0_rows h0_rows_e h0_filter h0_trial h0_kept h0_ways h0_spread h0_course h0_changes h0_tape h0_bodies h0_causes h0_rows_e_places s0__hasImage s0__hasCauses s0__stepsDone s0_rows_e__sort s0_rows_e__size)) (rv := (some (.int r2))) (st1 := [.int r2]) (va_runV (Ts := wsX8_level) (As := [.int x1]) (rest := []) ⟨hx, hb, hml, hown, hts⟩ (c_X8_isMissing l G cA ts h0 h0_rows h0_rows_e h0_filter h0_trial h0_kept h0_ways h0_spread h0_course h0_changes h0_tape h0_bodies h0_causes h0_rows_e_places x1 s0__hasImage s0__hasCauses s0__stepsDone s0_rows_e__sort s0_rows_e__size r2 hq H.size) (cwV 1 hts gX8_level_X8_isMissing rfl rfl rfl (by decide +kernel) ⟨Nat.le_of_ble_eq_true rfl, Nat.le_of_ble_eq_true rfl⟩) (pre_V (ci := 8) (q0 := 0) (is := [0, 10, 11, 13, 15, 17]) rfl rfl hP hD hS hA hK hZ (by decide +kernel) (by rfl)) rfl rfl hl.1 rfl (by exact lv_room (Nat.le_of_ble_eq_true rfl)) dX8_level_18 ⟨Nat.le_refl _, Nat.le_refl _⟩) hP hD hS hA (by decide +kernel) (by rfl) (by rfl) rfl (fun H locs hP hD hS => ?_)
  have hP : va_P G vwCl (wm_X8_followInThought cA h0 h0_filter h0_filter_numbers h0_filter_words h0_trial h0_trial_numbers h0_trial_words h0_course h0_course_outputs h0_course_losses h0_rows h0_rows_e h0_rows_e_places h0_kept h0_ways h0_spread h0_changes h0_tape h0_bodies h0_causes s0__hasImage s0__hasCauses s0__stepsDone s0_filter__all s0_filter__v s0_filter__loss s0_filter__result s0_filter__over s0_filter__heldAll s0_filter__heldRounded s0_filter_numbers s0_filter_words s0_trial__all s0_trial__v s0_trial__loss s0_trial__result s0_trial__over s0_trial__heldAll s0_trial__heldRounded s0_trial_numbers s0_trial_words s0_course__length s0_course__overs s0_course__halted s0_course__haltedBy s0_course_outputs s0_course_losses s0_rows_e__sort s0_rows_e__size s0_rows_e_places) H := hP
  have hD : va_D A (wm_X8_followInThought cA h0 h0_filter h0_filter_numbers h0_filter_words h0_trial h0_trial_numbers h0_trial_words h0_course h0_course_outputs h0_course_losses h0_rows h0_rows_e h0_rows_e_places h0_kept h0_ways h0_spread h0_changes h0_tape h0_bodies h0_causes s0__hasImage s0__hasCauses s0__stepsDone s0_filter__all s0_filter__v s0_filter__loss s0_filter__result s0_filter__over s0_filter__heldAll s0_filter__heldRounded s0_filter_numbers s0_filter_words s0_trial__all s0_trial__v s0_trial__loss s0_trial__result s0_trial__over s0_trial__heldAll s0_trial__heldRounded s0_trial_numbers s0_trial_words s0_course__length s0_course__overs s0_course__halted s0_course__haltedBy s0_course_outputs s0_course_losses s0_rows_e__sort s0_rows_e__size s0_rows_e_places) := hD
  refine lv_if_eq (tgt := 27) hx hb dX8_level_21 (by decide) (fun c => ?_) (fun c => ?_)
  · replace hok := g_pos hok c
    refine lv_aload_n hx hb dX8_level_27 rfl (lv_at hl 0 rfl) ?_
    refine lv_iload_n hx hb dX8_level_28 rfl (lv_at hl 1 rfl) ?_
    obtain ⟨o3, o4, o5, o6, o7, o8, o9, o10, o11, o12, o13, o14, o15, o16, o17, hq, hok⟩ := g_bnd15 hok
    refine cG (is := [0, 1, 2, 3, 4, 5, 6, 7, 8, 9, 10, 11, 12, 13, 14, 15, 16, 17, 18]) (wc := (wm_X8_followInThought cA h0 h0_filter h0_filter_numbers h0_filter_words h0_trial h0_trial_numbers h0_trial_words h0_course h0_course_outputs h0_course_losses h0_rows h0_rows_e h0_rows_e_places h0_kept h0_ways h0_spread h0_changes h0_tape h0_bodies h0_causes s0__hasImage s0__hasCauses s0__stepsDone s0_filter__all s0_filter__v s0_filter__loss s0_filter__result s0_filter__over s0_filter__heldAll s0_filter__heldRounded s0_filter_numbers s0_filter_words s0_trial__all s0_trial__v s0_trial__loss s0_trial__result s0_trial__over s0_trial__heldAll s0_trial__heldRounded s0_trial_numbers s0_trial_words s0_course__length s0_course__overs s0_course__halted s0_course__haltedBy s0_course_outputs s0_course_losses s0_rows_e__sort s0_rows_e__size s0_rows_e_places)) (w1 := (wm_X8_followInThought cA h0 h0_filter h0_filter_numbers h0_filter_words h0_trial h0_trial_numbers h0_trial_words h0_course h0_course_outputs h0_course_losses h0_rows h0_rows_e h0_rows_e_places h0_kept h0_ways h0_spread h0_changes h0_tape h0_bodies h0_causes s0__hasImage s0__hasCauses s0__stepsDone s0_filter__all s0_filter__v s0_filter__loss s0_filter__result s0_filter__over s0_filter__heldAll s0_filter__heldRounded s0_filter_numbers s0_filter_words o3 o4 o5 o6 o7 o8 o9 o10 o11 o12 o13 o14 o15 o16 o17 s0_rows_e__sort s0_rows_e__size s0_rows_e_places)) (rv := none) (st1 := []) (va_runV (Ts := wsX8_level) (As := [.int x1]) (rest := []) ⟨hx, hb, hml, hown, hts⟩ (c_X8_followInThought l G cA ts h0 h0_filter h0_filter_numbers h0_filter_words h0_trial h0_trial_numbers h0_trial_words h0_course h0_course_outputs h0_course_losses h0_rows h0_rows_e h0_rows_e_places h0_kept h0_ways h0_spread h0_changes h0_tape h0_bodies h0_causes x1 s0__hasImage s0__hasCauses s0__stepsDone s0_filter__all s0_filter__v s0_filter__loss s0_filter__result s0_filter__over s0_filter__heldAll s0_filter__heldRounded s0_filter_numbers s0_filter_words s0_trial__all s0_trial__v s0_trial__loss s0_trial__result s0_trial__over s0_trial__heldAll s0_trial__heldRounded s0_trial_numbers s0_trial_words s0_course__length s0_course__overs s0_course__halted s0_course__haltedBy s0_course_outputs s0_course_losses s0_rows_e__sort s0_rows_e__size s0_rows_e_places o3 o4 o5 o6 o7 o8 o9 o10 o11 o12 o13 o14 o15 o16 o17 hq H.size) (cwV 1 hts gX8_level_X8_followInThought rfl rfl rfl (by decide +kernel) ⟨Nat.le_of_ble_eq_true rfl, Nat.le_of_ble_eq_true rfl⟩) (pre_V (ci := 8) (q0 := 0) (is := [0, 1, 2, 3, 4, 5, 6, 7, 8, 9, 10, 11, 12, 13, 14, 15, 16, 17, 18]) rfl rfl hP hD hS hA hK hZ (by decide +kernel) (by rfl)) rfl rfl hl.1 rfl (by exact lv_room (Nat.le_of_ble_eq_true rfl)) dX8_level_29 ⟨Nat.le_refl _, Nat.le_refl _⟩) hP hD hS hA (by decide +kernel) (by rfl) (by rfl) rfl (fun H locs hP hD hS => ?_)
    obtain ⟨hP, hD⟩ : va_P G vwCl (wm_X8_followInThought cA h0 h0_filter h0_filter_numbers h0_filter_words h0_trial h0_trial_numbers h0_trial_words h0_course h0_course_outputs h0_course_losses h0_rows h0_rows_e h0_rows_e_places h0_kept h0_ways h0_spread h0_changes h0_tape h0_bodies h0_causes s0__hasImage s0__hasCauses s0__stepsDone s0_filter__all s0_filter__v s0_filter__loss s0_filter__result s0_filter__over s0_filter__heldAll s0_filter__heldRounded s0_filter_numbers s0_filter_words o3 o4 o5 o6 o7 o8 o9 o10 o11 o12 o13 o14 o15 o16 o17 s0_rows_e__sort s0_rows_e__size s0_rows_e_places) H ∧ va_D A (wm_X8_followInThought cA h0 h0_filter h0_filter_numbers h0_filter_words h0_trial h0_trial_numbers h0_trial_words h0_course h0_course_outputs h0_course_losses h0_rows h0_rows_e h0_rows_e_places h0_kept h0_ways h0_spread h0_changes h0_tape h0_bodies h0_causes s0__hasImage s0__hasCauses s0__stepsDone s0_filter__all s0_filter__v s0_filter__loss s0_filter__result s0_filter__over s0_filter__heldAll s0_filter__heldRounded s0_filter_numbers s0_filter_words o3 o4 o5 o6 o7 o8 o9 o10 o11 o12 o13 o14 o15 o16 o17 s0_rows_e__sort s0_rows_e__size s0_rows_e_places) := PD_eq hP hD (rp_eq (js := []) 19 (by decide +kernel) rfl rfl (by rfl) (by rfl) (by decide +kernel))
    refine lv_aload_n hx hb dX8_level_32 rfl (lv_at hl 0 rfl) ?_
    refine va_get (ci := 8) (v := .ref h0_course) (C := RX8) (T := TX8) (N := 14) hx hb hts hinX8 hown hK hP 0 rfl rfl 6 (by decide) (hts _ (List.mem_of_getElem? (i := 2) rfl)) (fun _ h9 => h9) rfl dX8_level_33 ?_
    refine lv_iload_n hx hb dX8_level_36 rfl (lv_at hl 2 rfl) ?_
    obtain ⟨r18, hq, hok⟩ := g_bnd1 hok
    refine cG (is := [7, 9]) (wc := (wm_X2_lossesTogether cA h0_course h0_course_losses h0_course_outputs o12 o13 o14 o15 o17)) (w1 := (wm_X2_lossesTogether cA h0_course h0_course_losses h0_course_outputs o12 o13 o14 o15 o17)) (rv := (some (.int r18))) (st1 := [.int r18]) (va_runV (Ts := wsX8_level) (As := [.int x2]) (rest := []) ⟨hx, hb, hml, hown, hts⟩ (c_X2_placeOfLevel l G cA ts h0_course h0_course_losses h0_course_outputs x2 o12 o13 o14 o15 o17 r18 hq H.size) (cwV 1 hts gX8_level_X2_placeOfLevel rfl rfl rfl (by decide +kernel) ⟨Nat.le_of_ble_eq_true rfl, Nat.le_of_ble_eq_true rfl⟩) (pre_V (ci := 2) (q0 := 7) (is := [7, 9]) rfl rfl hP hD hS hA hK hZ (by decide +kernel) (by rfl)) rfl rfl hl.1 rfl (by exact lv_room (Nat.le_of_ble_eq_true rfl)) dX8_level_37 ⟨Nat.le_refl _, Nat.le_refl _⟩) hP hD hS hA (by decide +kernel) (by rfl) (by rfl) rfl (fun H locs hP hD hS => ?_)
    have hP : va_P G vwCl (wm_X8_followInThought cA h0 h0_filter h0_filter_numbers h0_filter_words h0_trial h0_trial_numbers h0_trial_words h0_course h0_course_outputs h0_course_losses h0_rows h0_rows_e h0_rows_e_places h0_kept h0_ways h0_spread h0_changes h0_tape h0_bodies h0_causes s0__hasImage s0__hasCauses s0__stepsDone s0_filter__all s0_filter__v s0_filter__loss s0_filter__result s0_filter__over s0_filter__heldAll s0_filter__heldRounded s0_filter_numbers s0_filter_words o3 o4 o5 o6 o7 o8 o9 o10 o11 o12 o13 o14 o15 o16 o17 s0_rows_e__sort s0_rows_e__size s0_rows_e_places) H := hP
    have hD : va_D A (wm_X8_followInThought cA h0 h0_filter h0_filter_numbers h0_filter_words h0_trial h0_trial_numbers h0_trial_words h0_course h0_course_outputs h0_course_losses h0_rows h0_rows_e h0_rows_e_places h0_kept h0_ways h0_spread h0_changes h0_tape h0_bodies h0_causes s0__hasImage s0__hasCauses s0__stepsDone s0_filter__all s0_filter__v s0_filter__loss s0_filter__result s0_filter__over s0_filter__heldAll s0_filter__heldRounded s0_filter_numbers s0_filter_words o3 o4 o5 o6 o7 o8 o9 o10 o11 o12 o13 o14 o15 o16 o17 s0_rows_e__sort s0_rows_e__size s0_rows_e_places) := hD
    refine lv_istore (lv' := [(4, .int r18), (0, .ref h0), (1, .int x1), (2, .int x2), (3, .int x3)]) hx hb dX8_level_40 hl (by decide) rfl (fun ls hl => ?_)
    refine lv_iload hx hb dX8_level_42 (lv_at hl 0 rfl) ?_
    refine lv_if_lt (tgt := 54) hx hb dX8_level_44 (by decide) (fun c => ?_) (fun c => ?_)
    · replace hok := g_pos hok c
      refine lv_ldc (v := -1000000) hx hb hown (hts _ (List.mem_of_getElem? (i := 1) rfl)) dX8_level_54 ?_
      obtain ⟨e, hok⟩ := g_pr hok
      try subst e
      obtain ⟨e, hok⟩ := g_pr hok
      try subst e
      obtain ⟨e, hok⟩ := g_pr hok
      try subst e
      obtain ⟨e, hok⟩ := g_pr hok
      try subst e
      obtain ⟨e, hok⟩ := g_pr hok
      try subst e
      obtain ⟨e, hok⟩ := g_pr hok
      try subst e
      obtain ⟨e, hok⟩ := g_pr hok
      try subst e
      obtain ⟨e, hok⟩ := g_pr hok
      try subst e
      obtain ⟨e, hok⟩ := g_pr hok
      try subst e
      obtain ⟨e, hok⟩ := g_pr hok
      try subst e
      obtain ⟨e, hok⟩ := g_pr hok
      try subst e
      obtain ⟨e, hok⟩ := g_pr hok
      try subst e
      obtain ⟨e, hok⟩ := g_pr hok
      try subst e
      obtain ⟨e, hok⟩ := g_pr hok
      try subst e
      obtain ⟨e, hok⟩ := g_pr hok
      try subst e
      cases hok
      exact cr_i hx hb hr hlocks hQ dX8_level_56 hP hS
    replace hok := g_neg hok c
    refine lv_iload hx hb dX8_level_47 (lv_at hl 0 rfl) ?_
    refine lv_bipush (v := 40) hx hb dX8_level_49 (by decide) ?_
    refine lv_icmp_lt (tgt := 57) hx hb dX8_level_51 (by decide) (fun c => ?_) (fun c => ?_)
    · replace hok := g_pos hok c
      refine lv_aload_n hx hb dX8_level_57 rfl (lv_at hl 1 rfl) ?_
      refine va_get (ci := 8) (v := .ref h0_course) (C := RX8) (T := TX8) (N := 14) hx hb hts hinX8 hown hK hP 0 rfl rfl 6 (by decide) (hts _ (List.mem_of_getElem? (i := 2) rfl)) (fun _ h9 => h9) rfl dX8_level_58 ?_
      refine va_get (ci := 2) (v := .ref h0_course_losses) (C := RX2) (T := TX2) (N := 6) hx hb hts hinX2 hown hK hP 7 rfl rfl 1 (by decide) (hts _ (List.mem_of_getElem? (i := 3) rfl)) (fun _ h9 => h9) rfl dX8_level_61 ?_
      refine lv_iload hx hb dX8_level_64 (lv_at hl 0 rfl) ?_
      obtain ⟨hin, hok⟩ := g_no hok
      refine x_iald (k := r18.toNatClampNeg) hx hb hK hP 9 0 rfl rfl hin rfl dX8_level_66 ?_
      refine lv_istore (lv' := [(5, .int (o17 r18.toNatClampNeg)), (4, .int r18), (0, .ref h0), (1, .int x1), (2, .int x2), (3, .int x3)]) hx hb dX8_level_67 hl (by decide) rfl (fun ls hl => ?_)
      refine lv_iload_n hx hb dX8_level_69 rfl (lv_at hl 5 rfl) ?_
      refine lv_iconst (v := 2) hx hb dX8_level_70 (by decide) ?_
      refine lv_icmp_ne (tgt := 86) hx hb dX8_level_71 (by decide) (fun c => ?_) (fun c => ?_)
      · replace hok := g_neg hok c
        refine lv_iload hx hb dX8_level_86 (lv_at hl 0 rfl) ?_
        refine lv_i2l (v := ((o17 r18.toNatClampNeg).toInt64)) hx hb dX8_level_88 rfl ?_
        refine lv_aload_n hx hb dX8_level_89 rfl (lv_at hl 2 rfl) ?_
        refine va_get (ci := 8) (v := .ref h0_filter) (C := RX8) (T := TX8) (N := 14) hx hb hts hinX8 hown hK hP 0 rfl rfl 0 (by decide) (hts _ (List.mem_of_getElem? (i := 4) rfl)) (fun _ h9 => h9) rfl dX8_level_90 ?_
        obtain ⟨r19, hq, hok⟩ := g_bnd1 hok
        refine cG (is := [1, 2]) (wc := (wm_X3_unit cA h0_filter h0_filter_numbers h0_filter_words s0_filter__all s0_filter__v s0_filter__loss s0_filter__result s0_filter__over s0_filter__heldAll s0_filter__heldRounded s0_filter_numbers)) (w1 := (wm_X3_unit cA h0_filter h0_filter_numbers h0_filter_words s0_filter__all s0_filter__v s0_filter__loss s0_filter__result s0_filter__over s0_filter__heldAll s0_filter__heldRounded s0_filter_numbers)) (rv := (some (.int r19))) (st1 := [.int r19, .long ((o17 r18.toNatClampNeg).toInt64)]) (va_runV (Ts := wsX8_level) (As := []) (rest := [.long ((o17 r18.toNatClampNeg).toInt64)]) ⟨hx, hb, hml, hown, hts⟩ (c_X3_unit l G cA ts h0_filter h0_filter_numbers h0_filter_words s0_filter__all s0_filter__v s0_filter__loss s0_filter__result s0_filter__over s0_filter__heldAll s0_filter__heldRounded s0_filter_numbers r19 hq H.size) (cwV 0 hts gX8_level_X3_unit rfl rfl rfl (by decide +kernel) ⟨Nat.le_of_ble_eq_true rfl, Nat.le_of_ble_eq_true rfl⟩) (pre_V (ci := 3) (q0 := 1) (is := [1, 2]) rfl rfl hP hD hS hA hK hZ (by decide +kernel) (by rfl)) rfl rfl hl.1 rfl (by exact lv_room (Nat.le_of_ble_eq_true rfl)) dX8_level_93 ⟨Nat.le_refl _, Nat.le_refl _⟩) hP hD hS hA (by decide +kernel) (by rfl) (by rfl) rfl (fun H locs hP hD hS => ?_)
        have hP : va_P G vwCl (wm_X8_followInThought cA h0 h0_filter h0_filter_numbers h0_filter_words h0_trial h0_trial_numbers h0_trial_words h0_course h0_course_outputs h0_course_losses h0_rows h0_rows_e h0_rows_e_places h0_kept h0_ways h0_spread h0_changes h0_tape h0_bodies h0_causes s0__hasImage s0__hasCauses s0__stepsDone s0_filter__all s0_filter__v s0_filter__loss s0_filter__result s0_filter__over s0_filter__heldAll s0_filter__heldRounded s0_filter_numbers s0_filter_words o3 o4 o5 o6 o7 o8 o9 o10 o11 o12 o13 o14 o15 o16 o17 s0_rows_e__sort s0_rows_e__size s0_rows_e_places) H := hP
        have hD : va_D A (wm_X8_followInThought cA h0 h0_filter h0_filter_numbers h0_filter_words h0_trial h0_trial_numbers h0_trial_words h0_course h0_course_outputs h0_course_losses h0_rows h0_rows_e h0_rows_e_places h0_kept h0_ways h0_spread h0_changes h0_tape h0_bodies h0_causes s0__hasImage s0__hasCauses s0__stepsDone s0_filter__all s0_filter__v s0_filter__loss s0_filter__result s0_filter__over s0_filter__heldAll s0_filter__heldRounded s0_filter_numbers s0_filter_words o3 o4 o5 o6 o7 o8 o9 o10 o11 o12 o13 o14 o15 o16 o17 s0_rows_e__sort s0_rows_e__size s0_rows_e_places) := hD
        refine lv_i2l (v := (r19.toInt64)) hx hb dX8_level_96 rfl ?_
        refine lv_iload_n hx hb dX8_level_97 rfl (lv_at hl 5 rfl) ?_
        obtain ⟨r20, hq, hok⟩ := g_bnd1 hok
        refine cG (is := []) (wc := (wm_X0_find cA)) (w1 := (wm_X0_find cA)) (rv := (some (.long r20))) (st1 := [.long r20]) (va_runS (Ts := wsX8_level) (As := [.long ((o17 r18.toNatClampNeg).toInt64), .long (r19.toInt64), .int x3]) (rest := []) ⟨hx, hb, hml, hown, hts⟩ (c_X8_inLowestTerms l G cA ts ((o17 r18.toNatClampNeg).toInt64) (r19.toInt64) x3 r20 hq H.size) (va_cwS 3 hts gX8_level_X8_inLowestTerms rfl rfl rfl (by decide +kernel) ⟨Nat.le_of_ble_eq_true rfl, Nat.le_of_ble_eq_true rfl⟩) (pre_S (is := []) hP hD hS hA hK hZ (by decide +kernel) (by rfl)) rfl rfl hl.1 rfl (by exact lv_room (Nat.le_of_ble_eq_true rfl)) dX8_level_98 ⟨Nat.le_refl _, Nat.le_refl _⟩) hP hD hS hA (by decide +kernel) (by rfl) (by rfl) rfl (fun H locs hP hD hS => ?_)
        have hP : va_P G vwCl (wm_X8_followInThought cA h0 h0_filter h0_filter_numbers h0_filter_words h0_trial h0_trial_numbers h0_trial_words h0_course h0_course_outputs h0_course_losses h0_rows h0_rows_e h0_rows_e_places h0_kept h0_ways h0_spread h0_changes h0_tape h0_bodies h0_causes s0__hasImage s0__hasCauses s0__stepsDone s0_filter__all s0_filter__v s0_filter__loss s0_filter__result s0_filter__over s0_filter__heldAll s0_filter__heldRounded s0_filter_numbers s0_filter_words o3 o4 o5 o6 o7 o8 o9 o10 o11 o12 o13 o14 o15 o16 o17 s0_rows_e__sort s0_rows_e__size s0_rows_e_places) H := hP
        have hD : va_D A (wm_X8_followInThought cA h0 h0_filter h0_filter_numbers h0_filter_words h0_trial h0_trial_numbers h0_trial_words h0_course h0_course_outputs h0_course_losses h0_rows h0_rows_e h0_rows_e_places h0_kept h0_ways h0_spread h0_changes h0_tape h0_bodies h0_causes s0__hasImage s0__hasCauses s0__stepsDone s0_filter__all s0_filter__v s0_filter__loss s0_filter__result s0_filter__over s0_filter__heldAll s0_filter__heldRounded s0_filter_numbers s0_filter_words o3 o4 o5 o6 o7 o8 o9 o10 o11 o12 o13 o14 o15 o16 o17 s0_rows_e__sort s0_rows_e__size s0_rows_e_places) := hD
        refine lv_l2i (v := (r20.toInt32)) hx hb dX8_level_101 rfl ?_
        obtain ⟨e, hok⟩ := g_pr hok
        try subst e
        obtain ⟨e, hok⟩ := g_pr hok
        try subst e
        obtain ⟨e, hok⟩ := g_pr hok
        try subst e
        obtain ⟨e, hok⟩ := g_pr hok
        try subst e
        obtain ⟨e, hok⟩ := g_pr hok
        try subst e
        obtain ⟨e, hok⟩ := g_pr hok
        try subst e
        obtain ⟨e, hok⟩ := g_pr hok
        try subst e
        obtain ⟨e, hok⟩ := g_pr hok
        try subst e
        obtain ⟨e, hok⟩ := g_pr hok
        try subst e
        obtain ⟨e, hok⟩ := g_pr hok
        try subst e
        obtain ⟨e, hok⟩ := g_pr hok
        try subst e
        obtain ⟨e, hok⟩ := g_pr hok
        try subst e
        obtain ⟨e, hok⟩ := g_pr hok
        try subst e
        obtain ⟨e, hok⟩ := g_pr hok
        try subst e
        obtain ⟨e, hok⟩ := g_pr hok
        try subst e
        cases hok
        exact cr_i hx hb hr hlocks hQ dX8_level_102 hP hS
      replace hok := g_pos hok c
      refine lv_aload_n hx hb dX8_level_74 rfl (lv_at hl 2 rfl) ?_
      refine va_get (ci := 8) (v := .ref h0_course) (C := RX8) (T := TX8) (N := 14) hx hb hts hinX8 hown hK hP 0 rfl rfl 6 (by decide) (hts _ (List.mem_of_getElem? (i := 2) rfl)) (fun _ h9 => h9) rfl dX8_level_75 ?_
      refine lv_iload hx hb dX8_level_78 (lv_at hl 0 rfl) ?_
      obtain ⟨r21, hq, hok⟩ := g_bnd1 hok
      refine cG (is := [7, 9]) (wc := (wm_X2_lossesTogether cA h0_course h0_course_losses h0_course_outputs o12 o13 o14 o15 o17)) (w1 := (wm_X2_lossesTogether cA h0_course h0_course_losses h0_course_outputs o12 o13 o14 o15 o17)) (rv := (some (.int r21))) (st1 := [.int r21]) (va_runV (Ts := wsX8_level) (As := [.int (o17 r18.toNatClampNeg)]) (rest := []) ⟨hx, hb, hml, hown, hts⟩ (c_X2_howOften l G cA ts h0_course h0_course_losses h0_course_outputs (o17 r18.toNatClampNeg) o12 o13 o14 o15 o17 r21 hq H.size) (cwV 1 hts gX8_level_X2_howOften rfl rfl rfl (by decide +kernel) ⟨Nat.le_of_ble_eq_true rfl, Nat.le_of_ble_eq_true rfl⟩) (pre_V (ci := 2) (q0 := 7) (is := [7, 9]) rfl rfl hP hD hS hA hK hZ (by decide +kernel) (by rfl)) rfl rfl hl.1 rfl (by exact lv_room (Nat.le_of_ble_eq_true rfl)) dX8_level_80 ⟨Nat.le_refl _, Nat.le_refl _⟩) hP hD hS hA (by decide +kernel) (by rfl) (by rfl) rfl (fun H locs hP hD hS => ?_)
      have hP : va_P G vwCl (wm_X8_followInThought cA h0 h0_filter h0_filter_numbers h0_filter_words h0_trial h0_trial_numbers h0_trial_words h0_course h0_course_outputs h0_course_losses h0_rows h0_rows_e h0_rows_e_places h0_kept h0_ways h0_spread h0_changes h0_tape h0_bodies h0_causes s0__hasImage s0__hasCauses s0__stepsDone s0_filter__all s0_filter__v s0_filter__loss s0_filter__result s0_filter__over s0_filter__heldAll s0_filter__heldRounded s0_filter_numbers s0_filter_words o3 o4 o5 o6 o7 o8 o9 o10 o11 o12 o13 o14 o15 o16 o17 s0_rows_e__sort s0_rows_e__size s0_rows_e_places) H := hP
      have hD : va_D A (wm_X8_followInThought cA h0 h0_filter h0_filter_numbers h0_filter_words h0_trial h0_trial_numbers h0_trial_words h0_course h0_course_outputs h0_course_losses h0_rows h0_rows_e h0_rows_e_places h0_kept h0_ways h0_spread h0_changes h0_tape h0_bodies h0_causes s0__hasImage s0__hasCauses s0__stepsDone s0_filter__all s0_filter__v s0_filter__loss s0_filter__result s0_filter__over s0_filter__heldAll s0_filter__heldRounded s0_filter_numbers s0_filter_words o3 o4 o5 o6 o7 o8 o9 o10 o11 o12 o13 o14 o15 o16 o17 s0_rows_e__sort s0_rows_e__size s0_rows_e_places) := hD
      refine lv_goto (tgt := 102) hx hb dX8_level_83 (by decide) ?_
      obtain ⟨e, hok⟩ := g_pr hok
      try subst e
      obtain ⟨e, hok⟩ := g_pr hok
      try subst e
      obtain ⟨e, hok⟩ := g_pr hok
      try subst e
      obtain ⟨e, hok⟩ := g_pr hok
      try subst e
      obtain ⟨e, hok⟩ := g_pr hok
      try subst e
      obtain ⟨e, hok⟩ := g_pr hok
      try subst e
      obtain ⟨e, hok⟩ := g_pr hok
      try subst e
      obtain ⟨e, hok⟩ := g_pr hok
      try subst e
      obtain ⟨e, hok⟩ := g_pr hok
      try subst e
      obtain ⟨e, hok⟩ := g_pr hok
      try subst e
      obtain ⟨e, hok⟩ := g_pr hok
      try subst e
      obtain ⟨e, hok⟩ := g_pr hok
      try subst e
      obtain ⟨e, hok⟩ := g_pr hok
      try subst e
      obtain ⟨e, hok⟩ := g_pr hok
      try subst e
      obtain ⟨e, hok⟩ := g_pr hok
      try subst e
      cases hok
      exact cr_i hx hb hr hlocks hQ dX8_level_102 hP hS
    replace hok := g_neg hok c
    refine lv_ldc (v := -1000000) hx hb hown (hts _ (List.mem_of_getElem? (i := 1) rfl)) dX8_level_54 ?_
    obtain ⟨e, hok⟩ := g_pr hok
    try subst e
    obtain ⟨e, hok⟩ := g_pr hok
    try subst e
    obtain ⟨e, hok⟩ := g_pr hok
    try subst e
    obtain ⟨e, hok⟩ := g_pr hok
    try subst e
    obtain ⟨e, hok⟩ := g_pr hok
    try subst e
    obtain ⟨e, hok⟩ := g_pr hok
    try subst e
    obtain ⟨e, hok⟩ := g_pr hok
    try subst e
    obtain ⟨e, hok⟩ := g_pr hok
    try subst e
    obtain ⟨e, hok⟩ := g_pr hok
    try subst e
    obtain ⟨e, hok⟩ := g_pr hok
    try subst e
    obtain ⟨e, hok⟩ := g_pr hok
    try subst e
    obtain ⟨e, hok⟩ := g_pr hok
    try subst e
    obtain ⟨e, hok⟩ := g_pr hok
    try subst e
    obtain ⟨e, hok⟩ := g_pr hok
    try subst e
    obtain ⟨e, hok⟩ := g_pr hok
    try subst e
    cases hok
    exact cr_i hx hb hr hlocks hQ dX8_level_56 hP hS
  replace hok := g_neg hok c
  refine lv_ldc (v := -1000000) hx hb hown (hts _ (List.mem_of_getElem? (i := 1) rfl)) dX8_level_24 ?_
  obtain ⟨e, hok⟩ := g_pr hok
  try subst e
  obtain ⟨e, hok⟩ := g_pr hok
  try subst e
  obtain ⟨e, hok⟩ := g_pr hok
  try subst e
  obtain ⟨e, hok⟩ := g_pr hok
  try subst e
  obtain ⟨e, hok⟩ := g_pr hok
  try subst e
  obtain ⟨e, hok⟩ := g_pr hok
  try subst e
  obtain ⟨e, hok⟩ := g_pr hok
  try subst e
  obtain ⟨e, hok⟩ := g_pr hok
  try subst e
  obtain ⟨e, hok⟩ := g_pr hok
  try subst e
  obtain ⟨e, hok⟩ := g_pr hok
  try subst e
  obtain ⟨e, hok⟩ := g_pr hok
  try subst e
  obtain ⟨e, hok⟩ := g_pr hok
  try subst e
  obtain ⟨e, hok⟩ := g_pr hok
  try subst e
  obtain ⟨e, hok⟩ := g_pr hok
  try subst e
  obtain ⟨e, hok⟩ := g_pr hok
  try subst e
  cases hok
  exact cr_i hx hb hr hlocks hQ dX8_level_26 hP hS
set_option maxHeartbeats 40000000 in
set_option maxRecDepth 100000 in
theorem c_X8_measure (l : Launch) (G : va_G) (cA : Nat → ClassId) (ts : Nat → Nat) (h0 : Nat) (h0_filter : Nat) (h0_filter_numbers : Nat) (h0_filter_words : Nat) (h0_trial : Nat) (h0_trial_numbers : Nat) (h0_trial_words : Nat) (h0_course : Nat) (h0_course_outputs : Nat) (h0_course_losses : Nat) (h0_rows : Nat) (h0_rows_e : Nat → Nat) (h0_rows_e_places : Nat → Nat) (h0_causes : Nat) (h0_kept : Nat) (h0_ways : Nat) (h0_spread : Nat) (h0_changes : Nat) (h0_tape : Nat) (h0_bodies : Nat) (x1 : Int32) (x2 : Int32) (s0__hasImage : Int32) (s0__hasCauses : Int32) (s0__stepsDone : Int32) (s0_filter__all : Int32) (s0_filter__v : Int32) (s0_filter__loss : Int32) (s0_filter__result : Int32) (s0_filter__over : Int32) (s0_filter__heldAll : Int32) (s0_filter__heldRounded : Int32) (s0_filter_numbers : Nat → Int32) (s0_filter_words : Nat → Int32) (s0_trial__all : Int32) (s0_trial__v : Int32) (s0_trial__loss : Int32) (s0_trial__result : Int32) (s0_trial__over : Int32) (s0_trial__heldAll : Int32) (s0_trial__heldRounded : Int32) (s0_trial_numbers : Nat → Int32) (s0_trial_words : Nat → Int32) (s0_course__length : Int32) (s0_course__overs : Int32) (s0_course__halted : Int32) (s0_course__haltedBy : Int32) (s0_course_outputs : Nat → Int32) (s0_course_losses : Nat → Int32) (s0_rows_e__sort : Nat → Int32) (s0_rows_e__size : Nat → Int32) (s0_rows_e_places : Nat → Nat → Int64) (s0_causes : Nat → Int32) (r : Int64) (o0__hasCauses : Int32) (o0_trial__all : Int32) (o0_trial__v : Int32) (o0_trial__loss : Int32) (o0_trial__result : Int32) (o0_trial__over : Int32) (o0_trial__heldAll : Int32) (o0_trial__heldRounded : Int32) (o0_trial_numbers : Nat → Int32) (o0_trial_words : Nat → Int32) (o0_course__length : Int32) (o0_course__overs : Int32) (o0_course__halted : Int32) (o0_course__haltedBy : Int32) (o0_course_outputs : Nat → Int32) (o0_course_losses : Nat → Int32) (o0_causes : Nat → Int32) (hok : fX8_measure x1 x2 s0__hasCauses s0_filter_numbers s0_filter_words s0_trial__all s0_trial__v s0_trial__loss s0_trial__result s0_trial__over s0_trial__heldAll s0_trial__heldRounded s0_trial_numbers s0_trial_words s0_course__length s0_course__overs s0_course__halted s0_course__haltedBy s0_course_outputs s0_course_losses s0_rows_e__sort s0_rows_e__size s0_rows_e_places s0_causes = some (r, o0__hasCauses, o0_trial__all, o0_trial__v, o0_trial__loss, o0_trial__result, o0_trial__over, o0_trial__heldAll, o0_trial__heldRounded, o0_trial_numbers, o0_trial_words, o0_course__length, o0_course__overs, o0_course__halted, o0_course__haltedBy, o0_course_outputs, o0_course_losses, o0_causes)) : Ct l G cA ts yX8_measure wsX8_measure 7 170 [.ref h0, .int x1, .int x2] (wm_X8_measure cA h0 h0_filter h0_filter_numbers h0_filter_words h0_trial h0_trial_numbers h0_trial_words h0_course h0_course_outputs h0_course_losses h0_rows h0_rows_e h0_rows_e_places h0_causes h0_kept h0_ways h0_spread h0_changes h0_tape h0_bodies s0__hasImage s0__hasCauses s0__stepsDone s0_filter__all s0_filter__v s0_filter__loss s0_filter__result s0_filter__over s0_filter__heldAll s0_filter__heldRounded s0_filter_numbers s0_filter_words s0_trial__all s0_trial__v s0_trial__loss s0_trial__result s0_trial__over s0_trial__heldAll s0_trial__heldRounded s0_trial_numbers s0_trial_words s0_course__length s0_course__overs s0_course__halted s0_course__haltedBy s0_course_outputs s0_course_losses s0_rows_e__sort s0_rows_e__size s0_rows_e_places s0_causes) (wm_X8_measure cA h0 h0_filter h0_filter_numbers h0_filter_words h0_trial h0_trial_numbers h0_trial_words h0_course h0_course_outputs h0_course_losses h0_rows h0_rows_e h0_rows_e_places h0_causes h0_kept h0_ways h0_spread h0_changes h0_tape h0_bodies s0__hasImage o0__hasCauses s0__stepsDone s0_filter__all s0_filter__v s0_filter__loss s0_filter__result s0_filter__over s0_filter__heldAll s0_filter__heldRounded s0_filter_numbers s0_filter_words o0_trial__all o0_trial__v o0_trial__loss o0_trial__result o0_trial__over o0_trial__heldAll o0_trial__heldRounded o0_trial_numbers o0_trial_words o0_course__length o0_course__overs o0_course__halted o0_course__haltedBy o0_course_outputs o0_course_losses s0_rows_e__sort s0_rows_e__size s0_rows_e_places o0_causes) (some (.long r)) := by
  refine Ct.intro (cc := cX8_measure) (maxL := 9) (ret := some .long) (by decide +kernel) rfl (Nat.le_of_ble_eq_true rfl) ?_
  intro p e s m ar below meth c A Q hx hb hr hml hown hlocks hts hK hZ hA hQ hP hD hS ls hl
  have hown : s.vm.findClass RX8 = some m.cls := hown
  have hinX2 : ∀ w ∈ wsX20, w ∈ wsX8_measure := fun _ h => List.mem_cons_of_mem _ (List.mem_append_left _ (List.mem_append_left _ (List.mem_append_right _ (h))))
  have hinX8 : ∀ w ∈ wsX80, w ∈ wsX8_measure := fun _ h => List.mem_cons_of_mem _ (List.mem_append_left _ (List.mem_append_left _ (List.mem_append_left _ (List.mem_append_right _ (h)))))
  have hl : lv_has ls 9 [(0, .ref h0), (1, .int x1), (2, .int x2)] := hl
  have hP : va_P G vwCl (wm_X8_measure cA h0 h0_filter h0_filter_numbers h0_filter_words h0_trial h0_trial_numbers h0_trial_words h0_course h0_course_outputs h0_course_losses h0_rows h0_rows_e h0_rows_e_places h0_causes h0_kept h0_ways h0_spread h0_changes h0_tape h0_bodies s0__hasImage s0__hasCauses s0__stepsDone s0_filter__all s0_filter__v s0_filter__loss s0_filter__result s0_filter__over s0_filter__heldAll s0_filter__heldRounded s0_filter_numbers s0_filter_words s0_trial__all s0_trial__v s0_trial__loss s0_trial__result s0_trial__over s0_trial__heldAll s0_trial__heldRounded s0_trial_numbers s0_trial_words s0_course__length s0_course__overs s0_course__halted s0_course__haltedBy s0_course_outputs s0_course_losses s0_rows_e__sort s0_rows_e__size s0_rows_e_places s0_causes) s.heap := hP
  have hD : va_D A (wm_X8_measure cA h0 h0_filter h0_filter_numbers h0_filter_words h0_trial h0_trial_numbers h0_trial_words h0_course h0_course_outputs h0_course_losses h0_rows h0_rows_e h0_rows_e_places h0_causes h0_kept h0_ways h0_spread h0_changes h0_tape h0_bodies s0__hasImage s0__hasCauses s0__stepsDone s0_filter__all s0_filter__v s0_filter__loss s0_filter__result s0_filter__over s0_filter__heldAll s0_filter__heldRounded s0_filter_numbers s0_filter_words s0_trial__all s0_trial__v s0_trial__loss s0_trial__result s0_trial__over s0_trial__heldAll s0_trial__heldRounded s0_trial_numbers s0_trial_words s0_course__length s0_course__overs s0_course__halted s0_course__haltedBy s0_course_outputs s0_course_losses s0_rows_e__sort s0_rows_e__size s0_rows_e_places s0_causes) := hD
  have L_40 : ∀ (n : Nat) (y3 : Int64) (y5 : Int32) (c0__hasCauses : Int32) (c0_trial__all : Int32) (c0_trial__v : Int32) (c0_trial__loss : Int32) (c0_trial__result : Int32) (c0_trial__over : Int32) (c0_trial__heldAll : Int32) (c0_trial__heldRounded : Int32) (c0_trial_numbers : Nat → Int32) (c0_trial_words : Nat → Int32) (c0_course__length : Int32) (c0_course__overs : Int32) (c0_course__halted : Int32) (c0_course__haltedBy : Int32) (c0_course_outputs : Nat → Int32) (c0_course_losses : Nat → Int32) (c0_causes : Nat → Int32) (oE : ((Int32) × (Int32)) ⊕ ((Int32) × (Int64)) ⊕ ((Int64))) (H : Heap) (locs : List Loc) (ls : Array Slot), va_P G vwCl (wm_X8_measure cA h0 h0_filter h0_filter_numbers h0_filter_words h0_trial h0_trial_numbers h0_trial_words h0_course h0_course_outputs h0_course_losses h0_rows h0_rows_e h0_rows_e_places h0_causes h0_kept h0_ways h0_spread h0_changes h0_tape h0_bodies s0__hasImage c0__hasCauses s0__stepsDone s0_filter__all s0_filter__v s0_filter__loss s0_filter__result s0_filter__over s0_filter__heldAll s0_filter__heldRounded s0_filter_numbers s0_filter_words c0_trial__all c0_trial__v c0_trial__loss c0_trial__result c0_trial__over c0_trial__heldAll c0_trial__heldRounded c0_trial_numbers c0_trial_words c0_course__length c0_course__overs c0_course__halted c0_course__haltedBy c0_course_outputs c0_course_losses s0_rows_e__sort s0_rows_e__size s0_rows_e_places c0_causes) H → va_D A (wm_X8_measure cA h0 h0_filter h0_filter_numbers h0_filter_words h0_trial h0_trial_numbers h0_trial_words h0_course h0_course_outputs h0_course_losses h0_rows h0_rows_e h0_rows_e_places h0_causes h0_kept h0_ways h0_spread h0_changes h0_tape h0_bodies s0__hasImage c0__hasCauses s0__stepsDone s0_filter__all s0_filter__v s0_filter__loss s0_filter__result s0_filter__over s0_filter__heldAll s0_filter__heldRounded s0_filter_numbers s0_filter_words c0_trial__all c0_trial__v c0_trial__loss c0_trial__result c0_trial__over c0_trial__heldAll c0_trial__heldRounded c0_trial_numbers c0_trial_words c0_course__length c0_course__overs c0_course__halted c0_course__haltedBy c0_course_outputs c0_course_losses s0_rows_e__sort s0_rows_e__size s0_rows_e_places c0_causes) → va_S A s.heap H locs → lv_has ls 9 [(0, .ref h0), (2, .int x2), (3, .long y3), (5, .int y5)] → fX8_measure_L40 x1 x2 s0_filter_numbers s0_filter_words s0_rows_e__sort s0_rows_e__size s0_rows_e_places n y3 y5 c0__hasCauses c0_trial__all c0_trial__v c0_trial__loss c0_trial__result c0_trial__over c0_trial__heldAll c0_trial__heldRounded c0_trial_numbers c0_trial_words c0_course__length c0_course__overs c0_course__halted c0_course__haltedBy c0_course_outputs c0_course_losses c0_causes = some oE → (∀ (p0_0 : Int32) (p0_1 : Int32), oE = .inl (p0_0, p0_1) → ∀ (H : Heap) (locs : List Loc) (ls : Array Slot), va_P G vwCl (wm_X8_measure cA h0 h0_filter h0_filter_numbers h0_filter_words h0_trial h0_trial_numbers h0_trial_words h0_course h0_course_outputs h0_course_losses h0_rows h0_rows_e h0_rows_e_places h0_causes h0_kept h0_ways h0_spread h0_changes h0_tape h0_bodies s0__hasImage c0__hasCauses s0__stepsDone s0_filter__all s0_filter__v s0_filter__loss s0_filter__result s0_filter__over s0_filter__heldAll s0_filter__heldRounded s0_filter_numbers s0_filter_words c0_trial__all c0_trial__v c0_trial__loss c0_trial__result c0_trial__over c0_trial__heldAll c0_trial__heldRounded c0_trial_numbers c0_trial_words c0_course__length c0_course__overs c0_course__halted c0_course__haltedBy c0_course_outputs c0_course_losses s0_rows_e__sort s0_rows_e__size s0_rows_e_places c0_causes) H → va_D A (wm_X8_measure cA h0 h0_filter h0_filter_numbers h0_filter_words h0_trial h0_trial_numbers h0_trial_words h0_course h0_course_outputs h0_course_losses h0_rows h0_rows_e h0_rows_e_places h0_causes h0_kept h0_ways h0_spread h0_changes h0_tape h0_bodies s0__hasImage c0__hasCauses s0__stepsDone s0_filter__all s0_filter__v s0_filter__loss s0_filter__result s0_filter__over s0_filter__heldAll s0_filter__heldRounded s0_filter_numbers s0_filter_words c0_trial__all c0_trial__v c0_trial__loss c0_trial__result c0_trial__over c0_trial__heldAll c0_trial__heldRounded c0_trial_numbers c0_trial_words c0_course__length c0_course__overs c0_course__halted c0_course__haltedBy c0_course_outputs c0_course_losses s0_rows_e__sort s0_rows_e__size s0_rows_e_places c0_causes) → va_S A s.heap H locs → lv_has ls 9 [(0, .ref h0), (5, .int p0_0), (6, .int p0_1)] → W p l e (rmX 7 170) s m ar below meth c H locs 0 0 Q (F0 m 92 ls [])) → (∀ (p1_0 : Int32) (p1_1 : Int64), oE = .inr (.inl (p1_0, p1_1)) → ∀ (H : Heap) (locs : List Loc) (ls : Array Slot), va_P G vwCl (wm_X8_measure cA h0 h0_filter h0_filter_numbers h0_filter_words h0_trial h0_trial_numbers h0_trial_words h0_course h0_course_outputs h0_course_losses h0_rows h0_rows_e h0_rows_e_places h0_causes h0_kept h0_ways h0_spread h0_changes h0_tape h0_bodies s0__hasImage c0__hasCauses s0__stepsDone s0_filter__all s0_filter__v s0_filter__loss s0_filter__result s0_filter__over s0_filter__heldAll s0_filter__heldRounded s0_filter_numbers s0_filter_words c0_trial__all c0_trial__v c0_trial__loss c0_trial__result c0_trial__over c0_trial__heldAll c0_trial__heldRounded c0_trial_numbers c0_trial_words c0_course__length c0_course__overs c0_course__halted c0_course__haltedBy c0_course_outputs c0_course_losses s0_rows_e__sort s0_rows_e__size s0_rows_e_places c0_causes) H → va_D A (wm_X8_measure cA h0 h0_filter h0_filter_numbers h0_filter_words h0_trial h0_trial_numbers h0_trial_words h0_course h0_course_outputs h0_course_losses h0_rows h0_rows_e h0_rows_e_places h0_causes h0_kept h0_ways h0_spread h0_changes h0_tape h0_bodies s0__hasImage c0__hasCauses s0__stepsDone s0_filter__all s0_filter__v s0_filter__loss s0_filter__result s0_filter__over s0_filter__heldAll s0_filter__heldRounded s0_filter_numbers s0_filter_words c0_trial__all c0_trial__v c0_trial__loss c0_trial__result c0_trial__over c0_trial__heldAll c0_trial__heldRounded c0_trial_numbers c0_trial_words c0_course__length c0_course__overs c0_course__halted c0_course__haltedBy c0_course_outputs c0_course_losses s0_rows_e__sort s0_rows_e__size s0_rows_e_places c0_causes) → va_S A s.heap H locs → lv_has ls 9 [(0, .ref h0), (5, .int p1_0), (7, .long p1_1)] → W p l e (rmX 7 170) s m ar below meth c H locs 0 0 Q (F0 m 118 ls [])) → (∀ (p2_0 : Int64), oE = .inr (.inr (p2_0)) → ∀ (H : Heap) (locs : List Loc) (ls : Array Slot), va_P G vwCl (wm_X8_measure cA h0 h0_filter h0_filter_numbers h0_filter_words h0_trial h0_trial_numbers h0_trial_words h0_course h0_course_outputs h0_course_losses h0_rows h0_rows_e h0_rows_e_places h0_causes h0_kept h0_ways h0_spread h0_changes h0_tape h0_bodies s0__hasImage c0__hasCauses s0__stepsDone s0_filter__all s0_filter__v s0_filter__loss s0_filter__result s0_filter__over s0_filter__heldAll s0_filter__heldRounded s0_filter_numbers s0_filter_words c0_trial__all c0_trial__v c0_trial__loss c0_trial__result c0_trial__over c0_trial__heldAll c0_trial__heldRounded c0_trial_numbers c0_trial_words c0_course__length c0_course__overs c0_course__halted c0_course__haltedBy c0_course_outputs c0_course_losses s0_rows_e__sort s0_rows_e__size s0_rows_e_places c0_causes) H → va_D A (wm_X8_measure cA h0 h0_filter h0_filter_numbers h0_filter_words h0_trial h0_trial_numbers h0_trial_words h0_course h0_course_outputs h0_course_losses h0_rows h0_rows_e h0_rows_e_places h0_causes h0_kept h0_ways h0_spread h0_changes h0_tape h0_bodies s0__hasImage c0__hasCauses s0__stepsDone s0_filter__all s0_filter__v s0_filter__loss s0_filter__result s0_filter__over s0_filter__heldAll s0_filter__heldRounded s0_filter_numbers s0_filter_words c0_trial__all c0_trial__v c0_trial__loss c0_trial__result c0_trial__over c0_trial__heldAll c0_trial__heldRounded c0_trial_numbers c0_trial_words c0_course__length c0_course__overs c0_course__halted c0_course__haltedBy c0_course_outputs c0_course_losses s0_rows_e__sort s0_rows_e__size s0_rows_e_places c0_causes) → va_S A s.heap H locs → lv_has ls 9 [(0, .ref h0), (3, .long p2_0)] → W p l e (rmX 7 170) s m ar below meth c H locs 0 0 Q (F0 m 138 ls [])) → W p l e (rmX 7 170) s m ar below meth c H locs 0 0 Q (F0 m 40 ls []) := by
    intro n
    induction n with
    | zero =>
      intro y3 y5 c0__hasCauses c0_trial__all c0_trial__v c0_trial__loss c0_trial__result c0_trial__over c0_trial__heldAll c0_trial__heldRounded c0_trial_numbers c0_trial_words c0_course__length c0_course__overs c0_course__halted c0_course__haltedBy c0_course_outputs c0_course_losses c0_causes oE H locs ls hP hD hS hl hok
      rw [fX8_measure_L40] at hok
      cases hok
    | succ n ih =>
      intro y3 y5 c0__hasCauses c0_trial__all c0_trial__v c0_trial__loss c0_trial__result c0_trial__over c0_trial__heldAll c0_trial__heldRounded c0_trial_numbers c0_trial_words c0_course__length c0_course__overs c0_course__halted c0_course__haltedBy c0_course_outputs c0_course_losses c0_causes oE H locs ls hP hD hS hl hok  K0 K1 K2
      rw [fX8_measure_L40] at hok
      refine lv_iload hx hb dX8_measure_40 (lv_at hl 3 rfl) ?_
      refine lv_aload_n hx hb dX8_measure_42 rfl (lv_at hl 0 rfl) ?_
      refine va_get (ci := 8) (v := .ref h0_course) (C := RX8) (T := TX8) (N := 14) hx hb hts hinX8 hown hK hP 0 rfl rfl 6 (by decide) (hts _ (List.mem_of_getElem? (i := 3) rfl)) (fun _ h9 => h9) rfl dX8_measure_43 ?_
      refine va_get (ci := 2) (v := .int c0_course__length) (C := RX2) (T := TX2) (N := 6) hx hb hts hinX2 hown hK hP 7 rfl rfl 2 (by decide) (hts _ (List.mem_of_getElem? (i := 4) rfl)) (fun _ h9 => h9) rfl dX8_measure_46 ?_
      refine lv_icmp_ge (tgt := 138) hx hb dX8_measure_49 (by decide) (fun c => ?_) (fun c => ?_)
      · replace hok := g_pos hok c
        cases hok
        exact K2 _ rfl _ _ _ hP hD hS (lv_sub hl [0, 2] rfl)
      replace hok := g_neg hok c
      refine lv_iload hx hb dX8_measure_52 (lv_at hl 3 rfl) ?_
      refine lv_bipush (v := 40) hx hb dX8_measure_54 (by decide) ?_
      refine lv_icmp_ge (tgt := 138) hx hb dX8_measure_56 (by decide) (fun c => ?_) (fun c => ?_)
      · replace hok := g_pos hok c
        cases hok
        exact K2 _ rfl _ _ _ hP hD hS (lv_sub hl [0, 2] rfl)
      replace hok := g_neg hok c
      refine lv_aload_n hx hb dX8_measure_59 rfl (lv_at hl 0 rfl) ?_
      refine va_get (ci := 8) (v := .ref h0_course) (C := RX8) (T := TX8) (N := 14) hx hb hts hinX8 hown hK hP 0 rfl rfl 6 (by decide) (hts _ (List.mem_of_getElem? (i := 3) rfl)) (fun _ h9 => h9) rfl dX8_measure_60 ?_
      refine va_get (ci := 2) (v := .ref h0_course_outputs) (C := RX2) (T := TX2) (N := 6) hx hb hts hinX2 hown hK hP 7 rfl rfl 0 (by decide) (hts _ (List.mem_of_getElem? (i := 5) rfl)) (fun _ h9 => h9) rfl dX8_measure_63 ?_
      refine lv_iload hx hb dX8_measure_66 (lv_at hl 3 rfl) ?_
      obtain ⟨hin, hok⟩ := g_no hok
      refine x_iald (k := y5.toNatClampNeg) hx hb hK hP 8 0 rfl rfl hin rfl dX8_measure_68 ?_
      refine lv_istore (lv' := [(6, .int (c0_course_outputs y5.toNatClampNeg)), (0, .ref h0), (2, .int x2), (3, .long y3), (5, .int y5)]) hx hb dX8_measure_69 hl (by decide) rfl (fun ls hl => ?_)
      refine lv_iload hx hb dX8_measure_71 (lv_at hl 0 rfl) ?_
      refine lv_i2l (v := ((c0_course_outputs y5.toNatClampNeg).toInt64)) hx hb dX8_measure_73 rfl ?_
      refine lv_iload hx hb dX8_measure_74 (lv_at hl 0 rfl) ?_
      refine lv_i2l (v := ((c0_course_outputs y5.toNatClampNeg).toInt64)) hx hb dX8_measure_76 rfl ?_
      refine lv_lmul hx hb dX8_measure_77 ?_
      refine lv_iload_n hx hb dX8_measure_78 rfl (lv_at hl 2 rfl) ?_
      refine lv_i2l (v := (x2.toInt64)) hx hb dX8_measure_79 rfl ?_
      refine lv_lmul hx hb dX8_measure_80 ?_
      refine lv_lstore (lv' := [(7, .long ((((c0_course_outputs y5.toNatClampNeg).toInt64) * ((c0_course_outputs y5.toNatClampNeg).toInt64)) * (x2.toInt64))), (6, .int (c0_course_outputs y5.toNatClampNeg)), (0, .ref h0), (2, .int x2), (3, .long y3), (5, .int y5)]) hx hb dX8_measure_81 hl (by decide) rfl (fun ls hl => ?_)
      refine lv_lload hx hb dX8_measure_83 (lv_at hl 0 rfl) ?_
      refine lv_ldc2 (v := 2147483647) hx hb hown (hts _ (List.mem_of_getElem? (i := 6) rfl)) dX8_measure_85 ?_
      refine W.lcmp hx hb dX8_measure_88 ?_
      refine lv_if_le (tgt := 105) hx hb dX8_measure_89 (by decide) (fun c => ?_) (fun c => ?_)
      · replace hok := g_pos hok c
        refine lv_lload_n hx hb dX8_measure_105 rfl (lv_at hl 4 rfl) ?_
        refine lv_lload hx hb dX8_measure_106 (lv_at hl 0 rfl) ?_
        refine lv_ladd hx hb dX8_measure_108 ?_
        refine lv_lstore_n (lv' := [(3, .long (y3 + ((((c0_course_outputs y5.toNatClampNeg).toInt64) * ((c0_course_outputs y5.toNatClampNeg).toInt64)) * (x2.toInt64)))), (7, .long ((((c0_course_outputs y5.toNatClampNeg).toInt64) * ((c0_course_outputs y5.toNatClampNeg).toInt64)) * (x2.toInt64))), (6, .int (c0_course_outputs y5.toNatClampNeg)), (0, .ref h0), (2, .int x2), (5, .int y5)]) hx hb dX8_measure_109 rfl hl (by decide) rfl (fun ls hl => ?_)
        refine lv_lload_n hx hb dX8_measure_110 rfl (lv_at hl 0 rfl) ?_
        refine lv_ldc2 (v := 2147483647) hx hb hown (hts _ (List.mem_of_getElem? (i := 6) rfl)) dX8_measure_111 ?_
        refine W.lcmp hx hb dX8_measure_114 ?_
        refine lv_if_le (tgt := 132) hx hb dX8_measure_115 (by decide) (fun c => ?_) (fun c => ?_)
        · replace hok := g_pos hok c
          refine lv_iinc (v := (y5 + 1)) (lv' := [(5, .int (y5 + 1)), (3, .long (y3 + ((((c0_course_outputs y5.toNatClampNeg).toInt64) * ((c0_course_outputs y5.toNatClampNeg).toInt64)) * (x2.toInt64)))), (7, .long ((((c0_course_outputs y5.toNatClampNeg).toInt64) * ((c0_course_outputs y5.toNatClampNeg).toInt64)) * (x2.toInt64))), (6, .int (c0_course_outputs y5.toNatClampNeg)), (0, .ref h0), (2, .int x2)]) hx hb dX8_measure_132 hl (k := 5) rfl rfl (by decide) rfl (fun ls hl => ?_)
          refine lv_goto (tgt := 40) hx hb dX8_measure_135 (by decide) ?_
          exact ih (y3 + ((((c0_course_outputs y5.toNatClampNeg).toInt64) * ((c0_course_outputs y5.toNatClampNeg).toInt64)) * (x2.toInt64))) (y5 + 1) c0__hasCauses c0_trial__all c0_trial__v c0_trial__loss c0_trial__result c0_trial__over c0_trial__heldAll c0_trial__heldRounded c0_trial_numbers c0_trial_words c0_course__length c0_course__overs c0_course__halted c0_course__haltedBy c0_course_outputs c0_course_losses c0_causes oE _ _ _ hP hD hS (lv_sub hl [4, 5, 1, 0] rfl) hok K0 K1 K2
        replace hok := g_neg hok c
        cases hok
        exact K1 _ _ rfl _ _ _ hP hD hS (lv_sub hl [3, 5, 1] rfl)
      replace hok := g_neg hok c
      cases hok
      exact K0 _ _ rfl _ _ _ hP hD hS (lv_sub hl [2, 5, 1] rfl)
  have J_138 : ∀ (y3 : Int64) (c0__hasCauses : Int32) (c0_trial__all : Int32) (c0_trial__v : Int32) (c0_trial__loss : Int32) (c0_trial__result : Int32) (c0_trial__over : Int32) (c0_trial__heldAll : Int32) (c0_trial__heldRounded : Int32) (c0_trial_numbers : Nat → Int32) (c0_trial_words : Nat → Int32) (c0_course__length : Int32) (c0_course__overs : Int32) (c0_course__halted : Int32) (c0_course__haltedBy : Int32) (c0_course_outputs : Nat → Int32) (c0_course_losses : Nat → Int32) (c0_causes : Nat → Int32) (H : Heap) (locs : List Loc) (ls : Array Slot), va_P G vwCl (wm_X8_measure cA h0 h0_filter h0_filter_numbers h0_filter_words h0_trial h0_trial_numbers h0_trial_words h0_course h0_course_outputs h0_course_losses h0_rows h0_rows_e h0_rows_e_places h0_causes h0_kept h0_ways h0_spread h0_changes h0_tape h0_bodies s0__hasImage c0__hasCauses s0__stepsDone s0_filter__all s0_filter__v s0_filter__loss s0_filter__result s0_filter__over s0_filter__heldAll s0_filter__heldRounded s0_filter_numbers s0_filter_words c0_trial__all c0_trial__v c0_trial__loss c0_trial__result c0_trial__over c0_trial__heldAll c0_trial__heldRounded c0_trial_numbers c0_trial_words c0_course__length c0_course__overs c0_course__halted c0_course__haltedBy c0_course_outputs c0_course_losses s0_rows_e__sort s0_rows_e__size s0_rows_e_places c0_causes) H → va_D A (wm_X8_measure cA h0 h0_filter h0_filter_numbers h0_filter_words h0_trial h0_trial_numbers h0_trial_words h0_course h0_course_outputs h0_course_losses h0_rows h0_rows_e h0_rows_e_places h0_causes h0_kept h0_ways h0_spread h0_changes h0_tape h0_bodies s0__hasImage c0__hasCauses s0__stepsDone s0_filter__all s0_filter__v s0_filter__loss s0_filter__result s0_filter__over s0_filter__heldAll s0_filter__heldRounded s0_filter_numbers s0_filter_words c0_trial__all c0_trial__v c0_trial__loss c0_trial__result c0_trial__over c0_trial__heldAll c0_trial__heldRounded c0_trial_numbers c0_trial_words c0_course__length c0_course__overs c0_course__halted c0_course__haltedBy c0_course_outputs c0_course_losses s0_rows_e__sort s0_rows_e__size s0_rows_e_places c0_causes) → va_S A s.heap H locs → lv_has ls 9 [(0, .ref h0), (3, .long y3)] → fX8_measure_j138 x1 x2 s0_filter_numbers s0_filter_words s0_rows_e__sort s0_rows_e__size s0_rows_e_places y3 c0__hasCauses c0_trial__all c0_trial__v c0_trial__loss c0_trial__result c0_trial__over c0_trial__heldAll c0_trial__heldRounded c0_trial_numbers c0_trial_words c0_course__length c0_course__overs c0_course__halted c0_course__haltedBy c0_course_outputs c0_course_losses c0_causes = some (r, o0__hasCauses, o0_trial__all, o0_trial__v, o0_trial__loss, o0_trial__result, o0_trial__over, o0_trial__heldAll, o0_trial__heldRounded, o0_trial_numbers, o0_trial_words, o0_course__length, o0_course__overs, o0_course__halted, o0_course__haltedBy, o0_course_outputs, o0_course_losses, o0_causes) → W p l e (rmX 7 170) s m ar below meth c H locs 0 0 Q (F0 m 138 ls []) := by
    intro y3 c0__hasCauses c0_trial__all c0_trial__v c0_trial__loss c0_trial__result c0_trial__over c0_trial__heldAll c0_trial__heldRounded c0_trial_numbers c0_trial_words c0_course__length c0_course__overs c0_course__halted c0_course__haltedBy c0_course_outputs c0_course_losses c0_causes H locs ls hP hD hS hl hok
    unfold fX8_measure_j138 at hok
    refine lv_aload_n hx hb dX8_measure_138 rfl (lv_at hl 0 rfl) ?_
    refine va_get (ci := 8) (v := .ref h0_course) (C := RX8) (T := TX8) (N := 14) hx hb hts hinX8 hown hK hP 0 rfl rfl 6 (by decide) (hts _ (List.mem_of_getElem? (i := 3) rfl)) (fun _ h9 => h9) rfl dX8_measure_139 ?_
    refine va_get (ci := 2) (v := .int c0_course__halted) (C := RX2) (T := TX2) (N := 6) hx hb hts hinX2 hown hK hP 7 rfl rfl 4 (by decide) (hts _ (List.mem_of_getElem? (i := 8) rfl)) (fun _ h9 => h9) rfl dX8_measure_142 ?_
    refine lv_if_eq (tgt := 171) hx hb dX8_measure_145 (by decide) (fun c => ?_) (fun c => ?_)
    · replace hok := g_pos hok c
      refine lv_lload_n hx hb dX8_measure_171 rfl (lv_at hl 1 rfl) ?_
      obtain ⟨e, hok⟩ := g_pr hok
      try subst e
      obtain ⟨e, hok⟩ := g_pr hok
      try subst e
      obtain ⟨e, hok⟩ := g_pr hok
      try subst e
      obtain ⟨e, hok⟩ := g_pr hok
      try subst e
      obtain ⟨e, hok⟩ := g_pr hok
      try subst e
      obtain ⟨e, hok⟩ := g_pr hok
      try subst e
      obtain ⟨e, hok⟩ := g_pr hok
      try subst e
      obtain ⟨e, hok⟩ := g_pr hok
      try subst e
      obtain ⟨e, hok⟩ := g_pr hok
      try subst e
      obtain ⟨e, hok⟩ := g_pr hok
      try subst e
      obtain ⟨e, hok⟩ := g_pr hok
      try subst e
      obtain ⟨e, hok⟩ := g_pr hok
      try subst e
      obtain ⟨e, hok⟩ := g_pr hok
      try subst e
      obtain ⟨e, hok⟩ := g_pr hok
      try subst e
      obtain ⟨e, hok⟩ := g_pr hok
      try subst e
      obtain ⟨e, hok⟩ := g_pr hok
      try subst e
      obtain ⟨e, hok⟩ := g_pr hok
      try subst e
      cases hok
      exact cr_l hx hb hr hlocks hQ dX8_measure_172 hP hS
    replace hok := g_neg hok c
    refine lv_aload_n hx hb dX8_measure_148 rfl (lv_at hl 0 rfl) ?_
    refine lv_aload_n hx hb dX8_measure_149 rfl (lv_at hl 0 rfl) ?_
    refine va_get (ci := 8) (v := .ref h0_course) (C := RX8) (T := TX8) (N := 14) hx hb hts hinX8 hown hK hP 0 rfl rfl 6 (by decide) (hts _ (List.mem_of_getElem? (i := 3) rfl)) (fun _ h9 => h9) rfl dX8_measure_150 ?_
    refine va_get (ci := 2) (v := .int c0_course__length) (C := RX2) (T := TX2) (N := 6) hx hb hts hinX2 hown hK hP 7 rfl rfl 2 (by decide) (hts _ (List.mem_of_getElem? (i := 4) rfl)) (fun _ h9 => h9) rfl dX8_measure_153 ?_
    refine lv_iconst (v := 0) hx hb dX8_measure_156 (by decide) ?_
    refine lv_aload_n hx hb dX8_measure_157 rfl (lv_at hl 0 rfl) ?_
    refine va_get (ci := 8) (v := .ref h0_course) (C := RX8) (T := TX8) (N := 14) hx hb hts hinX8 hown hK hP 0 rfl rfl 6 (by decide) (hts _ (List.mem_of_getElem? (i := 3) rfl)) (fun _ h9 => h9) rfl dX8_measure_158 ?_
    refine va_get (ci := 2) (v := .int c0_course__haltedBy) (C := RX2) (T := TX2) (N := 6) hx hb hts hinX2 hown hK hP 7 rfl rfl 5 (by decide) (hts _ (List.mem_of_getElem? (i := 9) rfl)) (fun _ h9 => h9) rfl dX8_measure_161 ?_
    obtain ⟨o23, o24, hq, hok⟩ := g_bnd2 hok
    refine cG (is := [0, 19]) (wc := (wm_X8_tellCauses cA h0 h0_causes h0_filter h0_trial h0_kept h0_ways h0_spread h0_course h0_rows h0_changes h0_tape h0_bodies s0__hasImage c0__hasCauses s0__stepsDone c0_causes)) (w1 := (wm_X8_tellCauses cA h0 h0_causes h0_filter h0_trial h0_kept h0_ways h0_spread h0_course h0_rows h0_changes h0_tape h0_bodies s0__hasImage o23 s0__stepsDone o24)) (rv := none) (st1 := []) (va_runV (Ts := wsX8_measure) (As := [.int c0_course__length, .int (0:Int32), .int c0_course__haltedBy]) (rest := []) ⟨hx, hb, hml, hown, hts⟩ (c_X8_tellCauses l G cA ts h0 h0_causes h0_filter h0_trial h0_kept h0_ways h0_spread h0_course h0_rows h0_changes h0_tape h0_bodies c0_course__length (0:Int32) c0_course__haltedBy s0__hasImage c0__hasCauses s0__stepsDone c0_causes o23 o24 hq H.size) (cwV 3 hts gX8_measure_X8_tellCauses rfl rfl rfl (by decide +kernel) ⟨Nat.le_of_ble_eq_true rfl, Nat.le_of_ble_eq_true rfl⟩) (pre_V (ci := 8) (q0 := 0) (is := [0, 19]) rfl rfl hP hD hS hA hK hZ (by decide +kernel) (by rfl)) rfl rfl hl.1 rfl (by exact lv_room (Nat.le_of_ble_eq_true rfl)) dX8_measure_164 ⟨Nat.le_refl _, Nat.le_refl _⟩) hP hD hS hA (by decide +kernel) (by rfl) (by rfl) rfl (fun H locs hP hD hS => ?_)
    have hP : va_P G vwCl (wm_X8_measure cA h0 h0_filter h0_filter_numbers h0_filter_words h0_trial h0_trial_numbers h0_trial_words h0_course h0_course_outputs h0_course_losses h0_rows h0_rows_e h0_rows_e_places h0_causes h0_kept h0_ways h0_spread h0_changes h0_tape h0_bodies s0__hasImage o23 s0__stepsDone s0_filter__all s0_filter__v s0_filter__loss s0_filter__result s0_filter__over s0_filter__heldAll s0_filter__heldRounded s0_filter_numbers s0_filter_words c0_trial__all c0_trial__v c0_trial__loss c0_trial__result c0_trial__over c0_trial__heldAll c0_trial__heldRounded c0_trial_numbers c0_trial_words c0_course__length c0_course__overs c0_course__halted c0_course__haltedBy c0_course_outputs c0_course_losses s0_rows_e__sort s0_rows_e__size s0_rows_e_places o24) H := hP
    have hD : va_D A (wm_X8_measure cA h0 h0_filter h0_filter_numbers h0_filter_words h0_trial h0_trial_numbers h0_trial_words h0_course h0_course_outputs h0_course_losses h0_rows h0_rows_e h0_rows_e_places h0_causes h0_kept h0_ways h0_spread h0_changes h0_tape h0_bodies s0__hasImage o23 s0__stepsDone s0_filter__all s0_filter__v s0_filter__loss s0_filter__result s0_filter__over s0_filter__heldAll s0_filter__heldRounded s0_filter_numbers s0_filter_words c0_trial__all c0_trial__v c0_trial__loss c0_trial__result c0_trial__over c0_trial__heldAll c0_trial__heldRounded c0_trial_numbers c0_trial_words c0_course__length c0_course__overs c0_course__halted c0_course__haltedBy c0_course_outputs c0_course_losses s0_rows_e__sort s0_rows_e__size s0_rows_e_places o24) := hD
    refine lv_ldc2 (v := -9223372036854775807) hx hb hown (hts _ (List.mem_of_getElem? (i := 7) rfl)) dX8_measure_167 ?_
    obtain ⟨e, hok⟩ := g_pr hok
    try subst e
    obtain ⟨e, hok⟩ := g_pr hok
    try subst e
    obtain ⟨e, hok⟩ := g_pr hok
    try subst e
    obtain ⟨e, hok⟩ := g_pr hok
    try subst e
    obtain ⟨e, hok⟩ := g_pr hok
    try subst e
    obtain ⟨e, hok⟩ := g_pr hok
    try subst e
    obtain ⟨e, hok⟩ := g_pr hok
    try subst e
    obtain ⟨e, hok⟩ := g_pr hok
    try subst e
    obtain ⟨e, hok⟩ := g_pr hok
    try subst e
    obtain ⟨e, hok⟩ := g_pr hok
    try subst e
    obtain ⟨e, hok⟩ := g_pr hok
    try subst e
    obtain ⟨e, hok⟩ := g_pr hok
    try subst e
    obtain ⟨e, hok⟩ := g_pr hok
    try subst e
    obtain ⟨e, hok⟩ := g_pr hok
    try subst e
    obtain ⟨e, hok⟩ := g_pr hok
    try subst e
    obtain ⟨e, hok⟩ := g_pr hok
    try subst e
    obtain ⟨e, hok⟩ := g_pr hok
    try subst e
    cases hok
    exact cr_l hx hb hr hlocks hQ dX8_measure_170 hP hS
  unfold fX8_measure at hok
  refine lv_iload_n hx hb dX8_measure_0 rfl (lv_at hl 1 rfl) ?_
  obtain ⟨r1, hq, hok⟩ := g_bnd1 hok
  refine cG (is := []) (wc := (wm_X0_find cA)) (w1 := (wm_X0_find cA)) (rv := (some (.int r1))) (st1 := [.int r1]) (va_runS (Ts := wsX8_measure) (As := [.int x1]) (rest := []) ⟨hx, hb, hml, hown, hts⟩ (c_X8_isRow l G cA ts x1 r1 hq s.heap.size) (va_cwS 1 hts gX8_measure_X8_isRow rfl rfl rfl (by decide +kernel) ⟨Nat.le_of_ble_eq_true rfl, Nat.le_of_ble_eq_true rfl⟩) (pre_S (is := []) hP hD hS hA hK hZ (by decide +kernel) (by rfl)) rfl rfl hl.1 rfl (by exact lv_room (Nat.le_of_ble_eq_true rfl)) dX8_measure_1 ⟨Nat.le_refl _, Nat.le_refl _⟩) hP hD hS hA (by decide +kernel) (by rfl) (by rfl) rfl (fun H locs hP hD hS => ?_)
  have hP : va_P G vwCl (wm_X8_measure cA h0 h0_filter h0_filter_numbers h0_filter_words h0_trial h0_trial_numbers h0_trial_words h0_course h0_course_outputs h0_course_losses h0_rows h0_rows_e h0_rows_e_places h0_causes h0_kept h0_ways h0_spread h0_changes h0_tape h0_bodies s0__hasImage s0__hasCauses s0__stepsDone s0_filter__all s0_filter__v s0_filter__loss s0_filter__result s0_filter__over s0_filter__heldAll s0_filter__heldRounded s0_filter_numbers s0_filter_words s0_trial__all s0_trial__v s0_trial__loss s0_trial__result s0_trial__over s0_trial__heldAll s0_trial__heldRounded s0_trial_numbers s0_trial_words s0_course__length s0_course__overs s0_course__halted s0_course__haltedBy s0_course_outputs s0_course_losses s0_rows_e__sort s0_rows_e__size s0_rows_e_places s0_causes) H := hP
  have hD : va_D A (wm_X8_measure cA h0 h0_filter h0_filter_numbers h0_filter_words h0_trial h0_trial_numbers h0_trial_words h0_course h0_course_outputs h0_course_losses h0_rows h0_rows_e h0_rows_e_places h0_causes h0_kept h0_ways h0_spread h0_changes h0_tape h0_bodies s0__hasImage s0__hasCauses s0__stepsDone s0_filter__all s0_filter__v s0_filter__loss s0_filter__result s0_filter__over s0_filter__heldAll s0_filter__heldRounded s0_filter_numbers s0_filter_words s0_trial__all s0_trial__v s0_trial__loss s0_trial__result s0_trial__over s0_trial__heldAll s0_trial__heldRounded s0_trial_numbers s0_trial_words s0_course__length s0_course__overs s0_course__halted s0_course__haltedBy s0_course_outputs s0_course_losses s0_rows_e__sort s0_rows_e__size s0_rows_e_places s0_causes) := hD
  refine lv_if_eq (tgt := 26) hx hb dX8_measure_4 (by decide) (fun c => ?_) (fun c => ?_)
  · replace hok := g_pos hok c
    refine lv_ldc2 (v := -9223372036854775808) hx hb hown (hts _ (List.mem_of_getElem? (i := 2) rfl)) dX8_measure_26 ?_
    obtain ⟨e, hok⟩ := g_pr hok
    try subst e
    obtain ⟨e, hok⟩ := g_pr hok
    try subst e
    obtain ⟨e, hok⟩ := g_pr hok
    try subst e
    obtain ⟨e, hok⟩ := g_pr hok
    try subst e
    obtain ⟨e, hok⟩ := g_pr hok
    try subst e
    obtain ⟨e, hok⟩ := g_pr hok
    try subst e
    obtain ⟨e, hok⟩ := g_pr hok
    try subst e
    obtain ⟨e, hok⟩ := g_pr hok
    try subst e
    obtain ⟨e, hok⟩ := g_pr hok
    try subst e
    obtain ⟨e, hok⟩ := g_pr hok
    try subst e
    obtain ⟨e, hok⟩ := g_pr hok
    try subst e
    obtain ⟨e, hok⟩ := g_pr hok
    try subst e
    obtain ⟨e, hok⟩ := g_pr hok
    try subst e
    obtain ⟨e, hok⟩ := g_pr hok
    try subst e
    obtain ⟨e, hok⟩ := g_pr hok
    try subst e
    obtain ⟨e, hok⟩ := g_pr hok
    try subst e
    obtain ⟨e, hok⟩ := g_pr hok
    try subst e
    cases hok
    exact cr_l hx hb hr hlocks hQ dX8_measure_29 hP hS
  replace hok := g_neg hok c
  refine lv_iload_n hx hb dX8_measure_7 rfl (lv_at hl 2 rfl) ?_
  refine lv_iconst (v := 1) hx hb dX8_measure_8 (by decide) ?_
  refine lv_icmp_lt (tgt := 26) hx hb dX8_measure_9 (by decide) (fun c => ?_) (fun c => ?_)
  · replace hok := g_pos hok c
    refine lv_ldc2 (v := -9223372036854775808) hx hb hown (hts _ (List.mem_of_getElem? (i := 2) rfl)) dX8_measure_26 ?_
    obtain ⟨e, hok⟩ := g_pr hok
    try subst e
    obtain ⟨e, hok⟩ := g_pr hok
    try subst e
    obtain ⟨e, hok⟩ := g_pr hok
    try subst e
    obtain ⟨e, hok⟩ := g_pr hok
    try subst e
    obtain ⟨e, hok⟩ := g_pr hok
    try subst e
    obtain ⟨e, hok⟩ := g_pr hok
    try subst e
    obtain ⟨e, hok⟩ := g_pr hok
    try subst e
    obtain ⟨e, hok⟩ := g_pr hok
    try subst e
    obtain ⟨e, hok⟩ := g_pr hok
    try subst e
    obtain ⟨e, hok⟩ := g_pr hok
    try subst e
    obtain ⟨e, hok⟩ := g_pr hok
    try subst e
    obtain ⟨e, hok⟩ := g_pr hok
    try subst e
    obtain ⟨e, hok⟩ := g_pr hok
    try subst e
    obtain ⟨e, hok⟩ := g_pr hok
    try subst e
    obtain ⟨e, hok⟩ := g_pr hok
    try subst e
    obtain ⟨e, hok⟩ := g_pr hok
    try subst e
    obtain ⟨e, hok⟩ := g_pr hok
    try subst e
    cases hok
    exact cr_l hx hb hr hlocks hQ dX8_measure_29 hP hS
  replace hok := g_neg hok c
  refine lv_iload_n hx hb dX8_measure_12 rfl (lv_at hl 2 rfl) ?_
  refine lv_ldc (v := 2000000000) hx hb hown (hts _ (List.mem_of_getElem? (i := 1) rfl)) dX8_measure_13 ?_
  refine lv_icmp_gt (tgt := 26) hx hb dX8_measure_15 (by decide) (fun c => ?_) (fun c => ?_)
  · replace hok := g_pos hok c
    refine lv_ldc2 (v := -9223372036854775808) hx hb hown (hts _ (List.mem_of_getElem? (i := 2) rfl)) dX8_measure_26 ?_
    obtain ⟨e, hok⟩ := g_pr hok
    try subst e
    obtain ⟨e, hok⟩ := g_pr hok
    try subst e
    obtain ⟨e, hok⟩ := g_pr hok
    try subst e
    obtain ⟨e, hok⟩ := g_pr hok
    try subst e
    obtain ⟨e, hok⟩ := g_pr hok
    try subst e
    obtain ⟨e, hok⟩ := g_pr hok
    try subst e
    obtain ⟨e, hok⟩ := g_pr hok
    try subst e
    obtain ⟨e, hok⟩ := g_pr hok
    try subst e
    obtain ⟨e, hok⟩ := g_pr hok
    try subst e
    obtain ⟨e, hok⟩ := g_pr hok
    try subst e
    obtain ⟨e, hok⟩ := g_pr hok
    try subst e
    obtain ⟨e, hok⟩ := g_pr hok
    try subst e
    obtain ⟨e, hok⟩ := g_pr hok
    try subst e
    obtain ⟨e, hok⟩ := g_pr hok
    try subst e
    obtain ⟨e, hok⟩ := g_pr hok
    try subst e
    obtain ⟨e, hok⟩ := g_pr hok
    try subst e
    obtain ⟨e, hok⟩ := g_pr hok
    try subst e
    cases hok
    exact cr_l hx hb hr hlocks hQ dX8_measure_29 hP hS
  replace hok := g_neg hok c
  refine lv_aload_n hx hb dX8_measure_18 rfl (lv_at hl 0 rfl) ?_
  refine lv_iload_n hx hb dX8_measure_19 rfl (lv_at hl 1 rfl) ?_
  obtain ⟨r2, hq, hok⟩ := g_bnd1 hok
  refine cG (is := [0, 10, 11, 13, 15, 17]) (wc := (wm_X8_isMissing cA h0 h0_rows h0_rows_e h0_filter h0_trial h0_kept h0_ways h0_spread h0_course h0_changes h0_tape h0_bodies h0_causes h0_rows_e_places s0__hasImage s0__hasCauses s0__stepsDone s0_rows_e__sort s0_rows_e__size)) (w1 := (wm_X8_isMissing cA h0 h0_rows h0_rows_e h0_filter h0_trial h0_kept h0_ways h0_spread h0_course h0_changes h0_tape h0_bodies h0_causes h0_rows_e_places s0__hasImage s0__hasCauses s0__stepsDone s0_rows_e__sort s0_rows_e__size)) (rv := (some (.int r2))) (st1 := [.int r2]) (va_runV (Ts := wsX8_measure) (As := [.int x1]) (rest := []) ⟨hx, hb, hml, hown, hts⟩ (c_X8_isMissing l G cA ts h0 h0_rows h0_rows_e h0_filter h0_trial h0_kept h0_ways h0_spread h0_course h0_changes h0_tape h0_bodies h0_causes h0_rows_e_places x1 s0__hasImage s0__hasCauses s0__stepsDone s0_rows_e__sort s0_rows_e__size r2 hq H.size) (cwV 1 hts gX8_measure_X8_isMissing rfl rfl rfl (by decide +kernel) ⟨Nat.le_of_ble_eq_true rfl, Nat.le_of_ble_eq_true rfl⟩) (pre_V (ci := 8) (q0 := 0) (is := [0, 10, 11, 13, 15, 17]) rfl rfl hP hD hS hA hK hZ (by decide +kernel) (by rfl)) rfl rfl hl.1 rfl (by exact lv_room (Nat.le_of_ble_eq_true rfl)) dX8_measure_20 ⟨Nat.le_refl _, Nat.le_refl _⟩) hP hD hS hA (by decide +kernel) (by rfl) (by rfl) rfl (fun H locs hP hD hS => ?_)
  have hP : va_P G vwCl (wm_X8_measure cA h0 h0_filter h0_filter_numbers h0_filter_words h0_trial h0_trial_numbers h0_trial_words h0_course h0_course_outputs h0_course_losses h0_rows h0_rows_e h0_rows_e_places h0_causes h0_kept h0_ways h0_spread h0_changes h0_tape h0_bodies s0__hasImage s0__hasCauses s0__stepsDone s0_filter__all s0_filter__v s0_filter__loss s0_filter__result s0_filter__over s0_filter__heldAll s0_filter__heldRounded s0_filter_numbers s0_filter_words s0_trial__all s0_trial__v s0_trial__loss s0_trial__result s0_trial__over s0_trial__heldAll s0_trial__heldRounded s0_trial_numbers s0_trial_words s0_course__length s0_course__overs s0_course__halted s0_course__haltedBy s0_course_outputs s0_course_losses s0_rows_e__sort s0_rows_e__size s0_rows_e_places s0_causes) H := hP
  have hD : va_D A (wm_X8_measure cA h0 h0_filter h0_filter_numbers h0_filter_words h0_trial h0_trial_numbers h0_trial_words h0_course h0_course_outputs h0_course_losses h0_rows h0_rows_e h0_rows_e_places h0_causes h0_kept h0_ways h0_spread h0_changes h0_tape h0_bodies s0__hasImage s0__hasCauses s0__stepsDone s0_filter__all s0_filter__v s0_filter__loss s0_filter__result s0_filter__over s0_filter__heldAll s0_filter__heldRounded s0_filter_numbers s0_filter_words s0_trial__all s0_trial__v s0_trial__loss s0_trial__result s0_trial__over s0_trial__heldAll s0_trial__heldRounded s0_trial_numbers s0_trial_words s0_course__length s0_course__overs s0_course__halted s0_course__haltedBy s0_course_outputs s0_course_losses s0_rows_e__sort s0_rows_e__size s0_rows_e_places s0_causes) := hD
  refine lv_if_eq (tgt := 30) hx hb dX8_measure_23 (by decide) (fun c => ?_) (fun c => ?_)
  · replace hok := g_pos hok c
    refine lv_aload_n hx hb dX8_measure_30 rfl (lv_at hl 0 rfl) ?_
    refine lv_iload_n hx hb dX8_measure_31 rfl (lv_at hl 1 rfl) ?_
    obtain ⟨o3, o4, o5, o6, o7, o8, o9, o10, o11, o12, o13, o14, o15, o16, o17, hq, hok⟩ := g_bnd15 hok
    refine cG (is := [0, 1, 2, 3, 4, 5, 6, 7, 8, 9, 10, 11, 12, 13, 14, 15, 16, 17, 18]) (wc := (wm_X8_followInThought cA h0 h0_filter h0_filter_numbers h0_filter_words h0_trial h0_trial_numbers h0_trial_words h0_course h0_course_outputs h0_course_losses h0_rows h0_rows_e h0_rows_e_places h0_kept h0_ways h0_spread h0_changes h0_tape h0_bodies h0_causes s0__hasImage s0__hasCauses s0__stepsDone s0_filter__all s0_filter__v s0_filter__loss s0_filter__result s0_filter__over s0_filter__heldAll s0_filter__heldRounded s0_filter_numbers s0_filter_words s0_trial__all s0_trial__v s0_trial__loss s0_trial__result s0_trial__over s0_trial__heldAll s0_trial__heldRounded s0_trial_numbers s0_trial_words s0_course__length s0_course__overs s0_course__halted s0_course__haltedBy s0_course_outputs s0_course_losses s0_rows_e__sort s0_rows_e__size s0_rows_e_places)) (w1 := (wm_X8_followInThought cA h0 h0_filter h0_filter_numbers h0_filter_words h0_trial h0_trial_numbers h0_trial_words h0_course h0_course_outputs h0_course_losses h0_rows h0_rows_e h0_rows_e_places h0_kept h0_ways h0_spread h0_changes h0_tape h0_bodies h0_causes s0__hasImage s0__hasCauses s0__stepsDone s0_filter__all s0_filter__v s0_filter__loss s0_filter__result s0_filter__over s0_filter__heldAll s0_filter__heldRounded s0_filter_numbers s0_filter_words o3 o4 o5 o6 o7 o8 o9 o10 o11 o12 o13 o14 o15 o16 o17 s0_rows_e__sort s0_rows_e__size s0_rows_e_places)) (rv := none) (st1 := []) (va_runV (Ts := wsX8_measure) (As := [.int x1]) (rest := []) ⟨hx, hb, hml, hown, hts⟩ (c_X8_followInThought l G cA ts h0 h0_filter h0_filter_numbers h0_filter_words h0_trial h0_trial_numbers h0_trial_words h0_course h0_course_outputs h0_course_losses h0_rows h0_rows_e h0_rows_e_places h0_kept h0_ways h0_spread h0_changes h0_tape h0_bodies h0_causes x1 s0__hasImage s0__hasCauses s0__stepsDone s0_filter__all s0_filter__v s0_filter__loss s0_filter__result s0_filter__over s0_filter__heldAll s0_filter__heldRounded s0_filter_numbers s0_filter_words s0_trial__all s0_trial__v s0_trial__loss s0_trial__result s0_trial__over s0_trial__heldAll s0_trial__heldRounded s0_trial_numbers s0_trial_words s0_course__length s0_course__overs s0_course__halted s0_course__haltedBy s0_course_outputs s0_course_losses s0_rows_e__sort s0_rows_e__size s0_rows_e_places o3 o4 o5 o6 o7 o8 o9 o10 o11 o12 o13 o14 o15 o16 o17 hq H.size) (cwV 1 hts gX8_measure_X8_followInThought rfl rfl rfl (by decide +kernel) ⟨Nat.le_of_ble_eq_true rfl, Nat.le_of_ble_eq_true rfl⟩) (pre_V (ci := 8) (q0 := 0) (is := [0, 1, 2, 3, 4, 5, 6, 7, 8, 9, 10, 11, 12, 13, 14, 15, 16, 17, 18]) rfl rfl hP hD hS hA hK hZ (by decide +kernel) (by rfl)) rfl rfl hl.1 rfl (by exact lv_room (Nat.le_of_ble_eq_true rfl)) dX8_measure_32 ⟨Nat.le_refl _, Nat.le_refl _⟩) hP hD hS hA (by decide +kernel) (by rfl) (by rfl) rfl (fun H locs hP hD hS => ?_)
    obtain ⟨hP, hD⟩ : va_P G vwCl (wm_X8_measure cA h0 h0_filter h0_filter_numbers h0_filter_words h0_trial h0_trial_numbers h0_trial_words h0_course h0_course_outputs h0_course_losses h0_rows h0_rows_e h0_rows_e_places h0_causes h0_kept h0_ways h0_spread h0_changes h0_tape h0_bodies s0__hasImage s0__hasCauses s0__stepsDone s0_filter__all s0_filter__v s0_filter__loss s0_filter__result s0_filter__over s0_filter__heldAll s0_filter__heldRounded s0_filter_numbers s0_filter_words o3 o4 o5 o6 o7 o8 o9 o10 o11 o12 o13 o14 o15 o16 o17 s0_rows_e__sort s0_rows_e__size s0_rows_e_places s0_causes) H ∧ va_D A (wm_X8_measure cA h0 h0_filter h0_filter_numbers h0_filter_words h0_trial h0_trial_numbers h0_trial_words h0_course h0_course_outputs h0_course_losses h0_rows h0_rows_e h0_rows_e_places h0_causes h0_kept h0_ways h0_spread h0_changes h0_tape h0_bodies s0__hasImage s0__hasCauses s0__stepsDone s0_filter__all s0_filter__v s0_filter__loss s0_filter__result s0_filter__over s0_filter__heldAll s0_filter__heldRounded s0_filter_numbers s0_filter_words o3 o4 o5 o6 o7 o8 o9 o10 o11 o12 o13 o14 o15 o16 o17 s0_rows_e__sort s0_rows_e__size s0_rows_e_places s0_causes) := PD_eq hP hD (rp_eq (js := [19]) 20 (by decide +kernel) rfl rfl (by rfl) (by rfl) (by decide +kernel))
    refine lv_lconst (v := 0) hx hb dX8_measure_35 (by decide) ?_
    refine lv_lstore_n (lv' := [(3, .long (0:Int64)), (0, .ref h0), (1, .int x1), (2, .int x2)]) hx hb dX8_measure_36 rfl hl (by decide) rfl (fun ls hl => ?_)
    refine lv_iconst (v := 0) hx hb dX8_measure_37 (by decide) ?_
    refine lv_istore (lv' := [(5, .int (0:Int32)), (3, .long (0:Int64)), (0, .ref h0), (1, .int x1), (2, .int x2)]) hx hb dX8_measure_38 hl (by decide) rfl (fun ls hl => ?_)
    obtain ⟨o18, hq, hok⟩ := g_bnd1 hok
    refine L_40 FUEL (0:Int64) (0:Int32) s0__hasCauses o3 o4 o5 o6 o7 o8 o9 o10 o11 o12 o13 o14 o15 o16 o17 s0_causes o18 _ _ _ hP hD hS (lv_sub hl [2, 4, 1, 0] rfl) hq (fun p0_0 p0_1 ho H locs ls hP hD hS hl => ?_) (fun p1_0 p1_1 ho H locs ls hP hD hS hl => ?_) (fun p2_0 ho H locs ls hP hD hS hl => ?_)
    · subst ho
      replace hok := g_inl hok
      replace hok := g_c2 hok
      refine lv_aload_n hx hb dX8_measure_92 rfl (lv_at hl 0 rfl) ?_
      refine lv_iload hx hb dX8_measure_93 (lv_at hl 1 rfl) ?_
      refine lv_iconst (v := 1) hx hb dX8_measure_95 (by decide) ?_
      refine lv_iload hx hb dX8_measure_96 (lv_at hl 2 rfl) ?_
      obtain ⟨o19, o20, hq, hok⟩ := g_bnd2 hok
      refine cG (is := [0, 19]) (wc := (wm_X8_tellCauses cA h0 h0_causes h0_filter h0_trial h0_kept h0_ways h0_spread h0_course h0_rows h0_changes h0_tape h0_bodies s0__hasImage s0__hasCauses s0__stepsDone s0_causes)) (w1 := (wm_X8_tellCauses cA h0 h0_causes h0_filter h0_trial h0_kept h0_ways h0_spread h0_course h0_rows h0_changes h0_tape h0_bodies s0__hasImage o19 s0__stepsDone o20)) (rv := none) (st1 := []) (va_runV (Ts := wsX8_measure) (As := [.int p0_0, .int (1:Int32), .int p0_1]) (rest := []) ⟨hx, hb, hml, hown, hts⟩ (c_X8_tellCauses l G cA ts h0 h0_causes h0_filter h0_trial h0_kept h0_ways h0_spread h0_course h0_rows h0_changes h0_tape h0_bodies p0_0 (1:Int32) p0_1 s0__hasImage s0__hasCauses s0__stepsDone s0_causes o19 o20 hq H.size) (cwV 3 hts gX8_measure_X8_tellCauses rfl rfl rfl (by decide +kernel) ⟨Nat.le_of_ble_eq_true rfl, Nat.le_of_ble_eq_true rfl⟩) (pre_V (ci := 8) (q0 := 0) (is := [0, 19]) rfl rfl hP hD hS hA hK hZ (by decide +kernel) (by rfl)) rfl rfl hl.1 rfl (by exact lv_room (Nat.le_of_ble_eq_true rfl)) dX8_measure_98 ⟨Nat.le_refl _, Nat.le_refl _⟩) hP hD hS hA (by decide +kernel) (by rfl) (by rfl) rfl (fun H locs hP hD hS => ?_)
      have hP : va_P G vwCl (wm_X8_measure cA h0 h0_filter h0_filter_numbers h0_filter_words h0_trial h0_trial_numbers h0_trial_words h0_course h0_course_outputs h0_course_losses h0_rows h0_rows_e h0_rows_e_places h0_causes h0_kept h0_ways h0_spread h0_changes h0_tape h0_bodies s0__hasImage o19 s0__stepsDone s0_filter__all s0_filter__v s0_filter__loss s0_filter__result s0_filter__over s0_filter__heldAll s0_filter__heldRounded s0_filter_numbers s0_filter_words o3 o4 o5 o6 o7 o8 o9 o10 o11 o12 o13 o14 o15 o16 o17 s0_rows_e__sort s0_rows_e__size s0_rows_e_places o20) H := hP
      have hD : va_D A (wm_X8_measure cA h0 h0_filter h0_filter_numbers h0_filter_words h0_trial h0_trial_numbers h0_trial_words h0_course h0_course_outputs h0_course_losses h0_rows h0_rows_e h0_rows_e_places h0_causes h0_kept h0_ways h0_spread h0_changes h0_tape h0_bodies s0__hasImage o19 s0__stepsDone s0_filter__all s0_filter__v s0_filter__loss s0_filter__result s0_filter__over s0_filter__heldAll s0_filter__heldRounded s0_filter_numbers s0_filter_words o3 o4 o5 o6 o7 o8 o9 o10 o11 o12 o13 o14 o15 o16 o17 s0_rows_e__sort s0_rows_e__size s0_rows_e_places o20) := hD
      refine lv_ldc2 (v := -9223372036854775807) hx hb hown (hts _ (List.mem_of_getElem? (i := 7) rfl)) dX8_measure_101 ?_
      obtain ⟨e, hok⟩ := g_pr hok
      try subst e
      obtain ⟨e, hok⟩ := g_pr hok
      try subst e
      obtain ⟨e, hok⟩ := g_pr hok
      try subst e
      obtain ⟨e, hok⟩ := g_pr hok
      try subst e
      obtain ⟨e, hok⟩ := g_pr hok
      try subst e
      obtain ⟨e, hok⟩ := g_pr hok
      try subst e
      obtain ⟨e, hok⟩ := g_pr hok
      try subst e
      obtain ⟨e, hok⟩ := g_pr hok
      try subst e
      obtain ⟨e, hok⟩ := g_pr hok
      try subst e
      obtain ⟨e, hok⟩ := g_pr hok
      try subst e
      obtain ⟨e, hok⟩ := g_pr hok
      try subst e
      obtain ⟨e, hok⟩ := g_pr hok
      try subst e
      obtain ⟨e, hok⟩ := g_pr hok
      try subst e
      obtain ⟨e, hok⟩ := g_pr hok
      try subst e
      obtain ⟨e, hok⟩ := g_pr hok
      try subst e
      obtain ⟨e, hok⟩ := g_pr hok
      try subst e
      obtain ⟨e, hok⟩ := g_pr hok
      try subst e
      cases hok
      exact cr_l hx hb hr hlocks hQ dX8_measure_104 hP hS
    · subst ho
      replace hok := g_inr hok
      replace hok := g_inl hok
      replace hok := g_c2 hok
      refine lv_aload_n hx hb dX8_measure_118 rfl (lv_at hl 0 rfl) ?_
      refine lv_iload hx hb dX8_measure_119 (lv_at hl 1 rfl) ?_
      refine lv_iconst (v := 2) hx hb dX8_measure_121 (by decide) ?_
      refine lv_lload hx hb dX8_measure_122 (lv_at hl 2 rfl) ?_
      refine lv_l2i (v := (p1_1.toInt32)) hx hb dX8_measure_124 rfl ?_
      obtain ⟨o21, o22, hq, hok⟩ := g_bnd2 hok
      refine cG (is := [0, 19]) (wc := (wm_X8_tellCauses cA h0 h0_causes h0_filter h0_trial h0_kept h0_ways h0_spread h0_course h0_rows h0_changes h0_tape h0_bodies s0__hasImage s0__hasCauses s0__stepsDone s0_causes)) (w1 := (wm_X8_tellCauses cA h0 h0_causes h0_filter h0_trial h0_kept h0_ways h0_spread h0_course h0_rows h0_changes h0_tape h0_bodies s0__hasImage o21 s0__stepsDone o22)) (rv := none) (st1 := []) (va_runV (Ts := wsX8_measure) (As := [.int p1_0, .int (2:Int32), .int (p1_1.toInt32)]) (rest := []) ⟨hx, hb, hml, hown, hts⟩ (c_X8_tellCauses l G cA ts h0 h0_causes h0_filter h0_trial h0_kept h0_ways h0_spread h0_course h0_rows h0_changes h0_tape h0_bodies p1_0 (2:Int32) (p1_1.toInt32) s0__hasImage s0__hasCauses s0__stepsDone s0_causes o21 o22 hq H.size) (cwV 3 hts gX8_measure_X8_tellCauses rfl rfl rfl (by decide +kernel) ⟨Nat.le_of_ble_eq_true rfl, Nat.le_of_ble_eq_true rfl⟩) (pre_V (ci := 8) (q0 := 0) (is := [0, 19]) rfl rfl hP hD hS hA hK hZ (by decide +kernel) (by rfl)) rfl rfl hl.1 rfl (by exact lv_room (Nat.le_of_ble_eq_true rfl)) dX8_measure_125 ⟨Nat.le_refl _, Nat.le_refl _⟩) hP hD hS hA (by decide +kernel) (by rfl) (by rfl) rfl (fun H locs hP hD hS => ?_)
      have hP : va_P G vwCl (wm_X8_measure cA h0 h0_filter h0_filter_numbers h0_filter_words h0_trial h0_trial_numbers h0_trial_words h0_course h0_course_outputs h0_course_losses h0_rows h0_rows_e h0_rows_e_places h0_causes h0_kept h0_ways h0_spread h0_changes h0_tape h0_bodies s0__hasImage o21 s0__stepsDone s0_filter__all s0_filter__v s0_filter__loss s0_filter__result s0_filter__over s0_filter__heldAll s0_filter__heldRounded s0_filter_numbers s0_filter_words o3 o4 o5 o6 o7 o8 o9 o10 o11 o12 o13 o14 o15 o16 o17 s0_rows_e__sort s0_rows_e__size s0_rows_e_places o22) H := hP
      have hD : va_D A (wm_X8_measure cA h0 h0_filter h0_filter_numbers h0_filter_words h0_trial h0_trial_numbers h0_trial_words h0_course h0_course_outputs h0_course_losses h0_rows h0_rows_e h0_rows_e_places h0_causes h0_kept h0_ways h0_spread h0_changes h0_tape h0_bodies s0__hasImage o21 s0__stepsDone s0_filter__all s0_filter__v s0_filter__loss s0_filter__result s0_filter__over s0_filter__heldAll s0_filter__heldRounded s0_filter_numbers s0_filter_words o3 o4 o5 o6 o7 o8 o9 o10 o11 o12 o13 o14 o15 o16 o17 s0_rows_e__sort s0_rows_e__size s0_rows_e_places o22) := hD
      refine lv_ldc2 (v := -9223372036854775807) hx hb hown (hts _ (List.mem_of_getElem? (i := 7) rfl)) dX8_measure_128 ?_
      obtain ⟨e, hok⟩ := g_pr hok
      try subst e
      obtain ⟨e, hok⟩ := g_pr hok
      try subst e
      obtain ⟨e, hok⟩ := g_pr hok
      try subst e
      obtain ⟨e, hok⟩ := g_pr hok
      try subst e
      obtain ⟨e, hok⟩ := g_pr hok
      try subst e
      obtain ⟨e, hok⟩ := g_pr hok
      try subst e
      obtain ⟨e, hok⟩ := g_pr hok
      try subst e
      obtain ⟨e, hok⟩ := g_pr hok
      try subst e
      obtain ⟨e, hok⟩ := g_pr hok
      try subst e
      obtain ⟨e, hok⟩ := g_pr hok
      try subst e
      obtain ⟨e, hok⟩ := g_pr hok
      try subst e
      obtain ⟨e, hok⟩ := g_pr hok
      try subst e
      obtain ⟨e, hok⟩ := g_pr hok
      try subst e
      obtain ⟨e, hok⟩ := g_pr hok
      try subst e
      obtain ⟨e, hok⟩ := g_pr hok
      try subst e
      obtain ⟨e, hok⟩ := g_pr hok
      try subst e
      obtain ⟨e, hok⟩ := g_pr hok
      try subst e
      cases hok
      exact cr_l hx hb hr hlocks hQ dX8_measure_131 hP hS
    subst ho
    replace hok := g_inr hok
    replace hok := g_inr hok
    replace hok := g_c1 hok
    exact J_138 p2_0 s0__hasCauses o3 o4 o5 o6 o7 o8 o9 o10 o11 o12 o13 o14 o15 o16 o17 s0_causes _ _ _ hP hD hS (lv_sub hl [0, 1] rfl) hok
  replace hok := g_neg hok c
  refine lv_ldc2 (v := -9223372036854775808) hx hb hown (hts _ (List.mem_of_getElem? (i := 2) rfl)) dX8_measure_26 ?_
  obtain ⟨e, hok⟩ := g_pr hok
  try subst e
  obtain ⟨e, hok⟩ := g_pr hok
  try subst e
  obtain ⟨e, hok⟩ := g_pr hok
  try subst e
  obtain ⟨e, hok⟩ := g_pr hok
  try subst e
  obtain ⟨e, hok⟩ := g_pr hok
  try subst e
  obtain ⟨e, hok⟩ := g_pr hok
  try subst e
  obtain ⟨e, hok⟩ := g_pr hok
  try subst e
  obtain ⟨e, hok⟩ := g_pr hok
  try subst e
  obtain ⟨e, hok⟩ := g_pr hok
  try subst e
  obtain ⟨e, hok⟩ := g_pr hok
  try subst e
  obtain ⟨e, hok⟩ := g_pr hok
  try subst e
  obtain ⟨e, hok⟩ := g_pr hok
  try subst e
  obtain ⟨e, hok⟩ := g_pr hok
  try subst e
  obtain ⟨e, hok⟩ := g_pr hok
  try subst e
  obtain ⟨e, hok⟩ := g_pr hok
  try subst e
  obtain ⟨e, hok⟩ := g_pr hok
  try subst e
  obtain ⟨e, hok⟩ := g_pr hok
  try subst e
  cases hok
  exact cr_l hx hb hr hlocks hQ dX8_measure_29 hP hS
