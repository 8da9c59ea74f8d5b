set_option maxHeartbeats 40000000 in
set_option maxRecDepth 100000 in
theorem c_X8_go (l : Launch) (G : va_G) (cA : Nat → ClassId) (ts : Nat → Nat) (h0 : Nat) (h0_filter : Nat) (h0_filter_numbers : Nat) (h0_filter_words : Nat) (h0_course : Nat) (h0_course_outputs : Nat) (h0_course_losses : Nat) (h0_rows : Nat) (h0_rows_e : Nat → Nat) (h0_rows_e_places : Nat → Nat) (h0_causes : Nat) (h0_trial : Nat) (h0_kept : Nat) (h0_ways : Nat) (h0_spread : Nat) (h0_changes : Nat) (h0_tape : Nat) (h0_bodies : Nat) (x1 : Int32) (s0__hasImage : Int32) (s0__hasCauses : Int32) (s0__stepsDone : Int32) (s0_filter__all : Int32) (s0_filter__v : Int32) (s0_filter__loss : Int32) (s0_filter__result : Int32) (s0_filter__over : Int32) (s0_filter__heldAll : Int32) (s0_filter__heldRounded : Int32) (s0_filter_numbers : Nat → Int32) (s0_filter_words : Nat → Int32) (s0_course__length : Int32) (s0_course__overs : Int32) (s0_course__halted : Int32) (s0_course__haltedBy : Int32) (s0_course_outputs : Nat → Int32) (s0_course_losses : Nat → Int32) (s0_rows_e__sort : Nat → Int32) (s0_rows_e__size : Nat → Int32) (s0_rows_e_places : Nat → Nat → Int64) (s0_causes : Nat → Int32) (r : Int32) (o0__hasCauses : Int32) (o0__stepsDone : Int32) (o0_filter__all : Int32) (o0_filter__v : Int32) (o0_filter__loss : Int32) (o0_filter__result : Int32) (o0_filter__over : Int32) (o0_filter__heldAll : Int32) (o0_filter__heldRounded : Int32) (o0_filter_words : Nat → Int32) (o0_course__length : Int32) (o0_course__overs : Int32) (o0_course__halted : Int32) (o0_course__haltedBy : Int32) (o0_course_outputs : Nat → Int32) (o0_course_losses : Nat → Int32) (o0_causes : Nat → Int32) (hok : fX8_go x1 s0__hasCauses s0__stepsDone s0_filter__all s0_filter__v s0_filter__loss s0_filter__result s0_filter__over s0_filter__heldAll s0_filter__heldRounded s0_filter_numbers s0_filter_words s0_course__length s0_course__overs s0_course__halted s0_course__haltedBy s0_course_outputs s0_course_losses s0_rows_e__sort s0_rows_e__size s0_rows_e_places s0_causes = some (r, o0__hasCauses, o0__stepsDone, o0_filter__all, o0_filter__v, o0_filter__loss, o0_filter__result, o0_filter__over, o0_filter__heldAll, o0_filter__heldRounded, o0_filter_words, o0_course__length, o0_course__overs, o0_course__halted, o0_course__haltedBy, o0_course_outputs, o0_course_losses, o0_causes)) : Ct l G cA ts yX8_go wsX8_go 6 149 [.ref h0, .int x1] (wm_X8_go cA h0 h0_filter h0_filter_numbers h0_filter_words h0_course h0_course_outputs h0_course_losses h0_rows h0_rows_e h0_rows_e_places h0_causes h0_trial h0_kept h0_ways h0_spread h0_changes h0_tape h0_bodies s0__hasImage s0__hasCauses s0__stepsDone s0_filter__all s0_filter__v s0_filter__loss s0_filter__result s0_filter__over s0_filter__heldAll s0_filter__heldRounded s0_filter_numbers s0_filter_words s0_course__length s0_course__overs s0_course__halted s0_course__haltedBy s0_course_outputs s0_course_losses s0_rows_e__sort s0_rows_e__size s0_rows_e_places s0_causes) (wm_X8_go cA h0 h0_filter h0_filter_numbers h0_filter_words h0_course h0_course_outputs h0_course_losses h0_rows h0_rows_e h0_rows_e_places h0_causes h0_trial h0_kept h0_ways h0_spread h0_changes h0_tape h0_bodies s0__hasImage o0__hasCauses o0__stepsDone o0_filter__all o0_filter__v o0_filter__loss o0_filter__result o0_filter__over o0_filter__heldAll o0_filter__heldRounded s0_filter_numbers o0_filter_words o0_course__length o0_course__overs o0_course__halted o0_course__haltedBy o0_course_outputs o0_course_losses s0_rows_e__sort s0_rows_e__size s0_rows_e_places o0_causes) (some (.int r)) := by
  refine Ct.intro (cc := cX8_go) (maxL := 2) (ret := some .int) (by decide +kernel) rfl (Nat.le_of_ble_eq_true rfl) ?_
  intro p e s m ar below meth c A Q hx hb hr hml hown hlocks hts hK hZ hA hQ hP hD hS ls hl
  have hown : s.vm.findClass RX8 = some m.cls := hown
  have hinX2 : ∀ w ∈ wsX20, w ∈ wsX8_go := fun _ h => List.mem_cons_of_mem _ (List.mem_append_left _ (List.mem_append_left _ (List.mem_append_right _ (h))))
  have hinX8 : ∀ w ∈ wsX80, w ∈ wsX8_go := fun _ h => List.mem_cons_of_mem _ (List.mem_append_left _ (List.mem_append_left _ (List.mem_append_left _ (List.mem_append_right _ (h)))))
  have hl : lv_has ls 2 [(0, .ref h0), (1, .int x1)] := hl
  have hP : va_P G vwCl (wm_X8_go cA h0 h0_filter h0_filter_numbers h0_filter_words h0_course h0_course_outputs h0_course_losses h0_rows h0_rows_e h0_rows_e_places h0_causes h0_trial h0_kept h0_ways h0_spread h0_changes h0_tape h0_bodies s0__hasImage s0__hasCauses s0__stepsDone s0_filter__all s0_filter__v s0_filter__loss s0_filter__result s0_filter__over s0_filter__heldAll s0_filter__heldRounded s0_filter_numbers s0_filter_words s0_course__length s0_course__overs s0_course__halted s0_course__haltedBy s0_course_outputs s0_course_losses s0_rows_e__sort s0_rows_e__size s0_rows_e_places s0_causes) s.heap := hP
  have hD : va_D A (wm_X8_go cA h0 h0_filter h0_filter_numbers h0_filter_words h0_course h0_course_outputs h0_course_losses h0_rows h0_rows_e h0_rows_e_places h0_causes h0_trial h0_kept h0_ways h0_spread h0_changes h0_tape h0_bodies s0__hasImage s0__hasCauses s0__stepsDone s0_filter__all s0_filter__v s0_filter__loss s0_filter__result s0_filter__over s0_filter__heldAll s0_filter__heldRounded s0_filter_numbers s0_filter_words s0_course__length s0_course__overs s0_course__halted s0_course__haltedBy s0_course_outputs s0_course_losses s0_rows_e__sort s0_rows_e__size s0_rows_e_places s0_causes) := hD
  unfold fX8_go at hok
  refine lv_iload_n hx hb dX8_go_0 rfl (lv_at hl 1 rfl) ?_
  obtain ⟨r1, hq, hok⟩ := g_bnd1 hok
  refine cG (is := []) (wc := (wm_X0_find cA)) (w1 := (wm_X0_find cA)) (rv := (some (.int r1))) (st1 := [.int r1]) (va_runS (Ts := wsX8_go) (As := [.int x1]) (rest := []) ⟨hx, hb, hml, hown, hts⟩ (c_X8_isRow l G cA ts x1 r1 hq s.heap.size) (va_cwS 1 hts gX8_go_X8_isRow rfl rfl rfl (by decide +kernel) ⟨Nat.le_of_ble_eq_true rfl, Nat.le_of_ble_eq_true rfl⟩) (pre_S (is := []) hP hD hS hA hK hZ (by decide +kernel) (by rfl)) rfl rfl hl.1 rfl (by exact lv_room (Nat.le_of_ble_eq_true rfl)) dX8_go_1 ⟨Nat.le_refl _, Nat.le_refl _⟩) hP hD hS hA (by decide +kernel) (by rfl) (by rfl) rfl (fun H locs hP hD hS => ?_)
  have hP : va_P G vwCl (wm_X8_go cA h0 h0_filter h0_filter_numbers h0_filter_words h0_course h0_course_outputs h0_course_losses h0_rows h0_rows_e h0_rows_e_places h0_causes h0_trial h0_kept h0_ways h0_spread h0_changes h0_tape h0_bodies s0__hasImage s0__hasCauses s0__stepsDone s0_filter__all s0_filter__v s0_filter__loss s0_filter__result s0_filter__over s0_filter__heldAll s0_filter__heldRounded s0_filter_numbers s0_filter_words s0_course__length s0_course__overs s0_course__halted s0_course__haltedBy s0_course_outputs s0_course_losses s0_rows_e__sort s0_rows_e__size s0_rows_e_places s0_causes) H := hP
  have hD : va_D A (wm_X8_go cA h0 h0_filter h0_filter_numbers h0_filter_words h0_course h0_course_outputs h0_course_losses h0_rows h0_rows_e h0_rows_e_places h0_causes h0_trial h0_kept h0_ways h0_spread h0_changes h0_tape h0_bodies s0__hasImage s0__hasCauses s0__stepsDone s0_filter__all s0_filter__v s0_filter__loss s0_filter__result s0_filter__over s0_filter__heldAll s0_filter__heldRounded s0_filter_numbers s0_filter_words s0_course__length s0_course__overs s0_course__halted s0_course__haltedBy s0_course_outputs s0_course_losses s0_rows_e__sort s0_rows_e__size s0_rows_e_places s0_causes) := hD
  refine lv_if_ne (tgt := 9) hx hb dX8_go_4 (by decide) (fun c => ?_) (fun c => ?_)
  · replace hok := g_neg hok c
    refine lv_aload_n hx hb dX8_go_9 rfl (lv_at hl 0 rfl) ?_
    refine lv_iload_n hx hb dX8_go_10 rfl (lv_at hl 1 rfl) ?_
    obtain ⟨r2, hq, hok⟩ := g_bnd1 hok
    refine cG (is := [0, 7, 8, 10, 12, 14]) (wc := (wm_X8_isMissing cA h0 h0_rows h0_rows_e h0_filter h0_trial h0_kept h0_ways h0_spread h0_course h0_changes h0_tape h0_bodies h0_causes h0_rows_e_places s0__hasImage s0__hasCauses s0__stepsDone s0_rows_e__sort s0_rows_e__size)) (w1 := (wm_X8_isMissing cA h0 h0_rows h0_rows_e h0_filter h0_trial h0_kept h0_ways h0_spread h0_course h0_changes h0_tape h0_bodies h0_causes h0_rows_e_places s0__hasImage s0__hasCauses s0__stepsDone s0_rows_e__sort s0_rows_e__size)) (rv := (some (.int r2))) (st1 := [.int r2]) (va_runV (Ts := wsX8_go) (As := [.int x1]) (rest := []) ⟨hx, hb, hml, hown, hts⟩ (c_X8_isMissing l G cA ts h0 h0_rows h0_rows_e h0_filter h0_trial h0_kept h0_ways h0_spread h0_course h0_changes h0_tape h0_bodies h0_causes h0_rows_e_places x1 s0__hasImage s0__hasCauses s0__stepsDone s0_rows_e__sort s0_rows_e__size r2 hq H.size) (cwV 1 hts gX8_go_X8_isMissing rfl rfl rfl (by decide +kernel) ⟨Nat.le_of_ble_eq_true rfl, Nat.le_of_ble_eq_true rfl⟩) (pre_V (ci := 8) (q0 := 0) (is := [0, 7, 8, 10, 12, 14]) rfl rfl hP hD hS hA hK hZ (by decide +kernel) (by rfl)) rfl rfl hl.1 rfl (by exact lv_room (Nat.le_of_ble_eq_true rfl)) dX8_go_11 ⟨Nat.le_refl _, Nat.le_refl _⟩) hP hD hS hA (by decide +kernel) (by rfl) (by rfl) rfl (fun H locs hP hD hS => ?_)
    have hP : va_P G vwCl (wm_X8_go cA h0 h0_filter h0_filter_numbers h0_filter_words h0_course h0_course_outputs h0_course_losses h0_rows h0_rows_e h0_rows_e_places h0_causes h0_trial h0_kept h0_ways h0_spread h0_changes h0_tape h0_bodies s0__hasImage s0__hasCauses s0__stepsDone s0_filter__all s0_filter__v s0_filter__loss s0_filter__result s0_filter__over s0_filter__heldAll s0_filter__heldRounded s0_filter_numbers s0_filter_words s0_course__length s0_course__overs s0_course__halted s0_course__haltedBy s0_course_outputs s0_course_losses s0_rows_e__sort s0_rows_e__size s0_rows_e_places s0_causes) H := hP
    have hD : va_D A (wm_X8_go cA h0 h0_filter h0_filter_numbers h0_filter_words h0_course h0_course_outputs h0_course_losses h0_rows h0_rows_e h0_rows_e_places h0_causes h0_trial h0_kept h0_ways h0_spread h0_changes h0_tape h0_bodies s0__hasImage s0__hasCauses s0__stepsDone s0_filter__all s0_filter__v s0_filter__loss s0_filter__result s0_filter__over s0_filter__heldAll s0_filter__heldRounded s0_filter_numbers s0_filter_words s0_course__length s0_course__overs s0_course__halted s0_course__haltedBy s0_course_outputs s0_course_losses s0_rows_e__sort s0_rows_e__size s0_rows_e_places s0_causes) := hD
    refine lv_if_eq (tgt := 20) hx hb dX8_go_14 (by decide) (fun c => ?_) (fun c => ?_)
    · replace hok := g_pos hok c
      refine lv_aload_n hx hb dX8_go_20 rfl (lv_at hl 0 rfl) ?_
      refine va_get (ci := 8) (v := .ref h0_course) (C := RX8) (T := TX8) (N := 14) hx hb hts hinX8 hown hK hP 0 rfl rfl 6 (by decide) (hts _ (List.mem_of_getElem? (i := 1) rfl)) (fun _ h9 => h9) rfl dX8_go_21 ?_
      refine lv_aload_n hx hb dX8_go_24 rfl (lv_at hl 0 rfl) ?_
      refine va_get (ci := 8) (v := .ref h0_filter) (C := RX8) (T := TX8) (N := 14) hx hb hts hinX8 hown hK hP 0 rfl rfl 0 (by decide) (hts _ (List.mem_of_getElem? (i := 2) rfl)) (fun _ h9 => h9) rfl dX8_go_25 ?_
      refine lv_aload_n hx hb dX8_go_28 rfl (lv_at hl 0 rfl) ?_
      refine va_get (ci := 8) (v := .ref h0_rows) (C := RX8) (T := TX8) (N := 14) hx hb hts hinX8 hown hK hP 0 rfl rfl 7 (by decide) (hts _ (List.mem_of_getElem? (i := 3) rfl)) (fun _ h9 => h9) rfl dX8_go_29 ?_
      refine lv_iload_n hx hb dX8_go_32 rfl (lv_at hl 1 rfl) ?_
      obtain ⟨hin3, hok⟩ := g_no hok
      refine va_aldq hx hb hK hP 7 4 rfl rfl hin3 dX8_go_33 ?_
      refine W.eq (congrArg (fun z => F0 m 34 ls (z :: [.ref h0_filter, .ref h0_course])) (rf_at (Nat.not_le.mp fun q => hin3 (Or.inr q)))) ?_
      obtain ⟨o4, o5, o6, o7, o8, o9, o10, o11, o12, o13, o14, o15, o16, o17, hq, hok⟩ := g_bnd14 hok
      refine cG (is := [4, 5, 6, 1, 2, 3, 8 + 2 * x1.toNatClampNeg, 9 + 2 * x1.toNatClampNeg]) (wc := (wm_X2_follow cA h0_course h0_course_outputs h0_course_losses h0_filter h0_filter_numbers h0_filter_words (h0_rows_e x1.toNatClampNeg) (h0_rows_e_places x1.toNatClampNeg) s0_course__length s0_course__overs s0_course__halted s0_course__haltedBy s0_course_outputs s0_course_losses s0_filter__all s0_filter__v s0_filter__loss s0_filter__result s0_filter__over s0_filter__heldAll s0_filter__heldRounded s0_filter_numbers s0_filter_words (s0_rows_e__sort x1.toNatClampNeg) (s0_rows_e__size x1.toNatClampNeg) (s0_rows_e_places x1.toNatClampNeg))) (w1 := (wm_X2_follow cA h0_course h0_course_outputs h0_course_losses h0_filter h0_filter_numbers h0_filter_words (h0_rows_e x1.toNatClampNeg) (h0_rows_e_places x1.toNatClampNeg) o4 o5 o6 o7 o8 o9 o10 o11 o12 o13 o14 o15 o16 s0_filter_numbers o17 (s0_rows_e__sort x1.toNatClampNeg) (s0_rows_e__size x1.toNatClampNeg) (s0_rows_e_places x1.toNatClampNeg))) (rv := none) (st1 := []) (va_runV (Ts := wsX8_go) (As := [.ref h0_filter, .ref (h0_rows_e x1.toNatClampNeg)]) (rest := []) ⟨hx, hb, hml, hown, hts⟩ (c_X2_follow l G cA ts h0_course h0_course_outputs h0_course_losses h0_filter h0_filter_numbers h0_filter_words (h0_rows_e x1.toNatClampNeg) (h0_rows_e_places x1.toNatClampNeg) s0_course__length s0_course__overs s0_course__halted s0_course__haltedBy s0_course_outputs s0_course_losses s0_filter__all s0_filter__v s0_filter__loss s0_filter__result s0_filter__over s0_filter__heldAll s0_filter__heldRounded s0_filter_numbers s0_filter_words (s0_rows_e__sort x1.toNatClampNeg) (s0_rows_e__size x1.toNatClampNeg) (s0_rows_e_places x1.toNatClampNeg) o4 o5 o6 o7 o8 o9 o10 o11 o12 o13 o14 o15 o16 o17 hq H.size) (cwV 2 hts gX8_go_X2_follow rfl rfl rfl (by decide +kernel) ⟨Nat.le_of_ble_eq_true rfl, Nat.le_of_ble_eq_true rfl⟩) (pre_V (ci := 2) (q0 := 4) (is := [4, 5, 6, 1, 2, 3, 8 + 2 * x1.toNatClampNeg, 9 + 2 * x1.toNatClampNeg]) rfl rfl hP hD hS hA hK hZ (by rcases lt4 (Nat.not_le.mp fun q => hin3 (Or.inr q)) with e | e | e | e <;> rw [e] <;> rfl) (by rcases lt4 (Nat.not_le.mp fun q => hin3 (Or.inr q)) with e | e | e | e <;> rw [e] <;> rfl)) rfl rfl hl.1 rfl (by exact lv_room (Nat.le_of_ble_eq_true rfl)) dX8_go_34 ⟨Nat.le_refl _, Nat.le_refl _⟩) hP hD hS hA (by rcases lt4 (Nat.not_le.mp fun q => hin3 (Or.inr q)) with e | e | e | e <;> rw [e] <;> rfl) (by rcases lt4 (Nat.not_le.mp fun q => hin3 (Or.inr q)) with e | e | e | e <;> rw [e] <;> rfl) (by rfl) rfl (fun H locs hP hD hS => ?_)
      obtain ⟨hP, hD⟩ : va_P G vwCl (wm_X8_go cA h0 h0_filter h0_filter_numbers h0_filter_words h0_course h0_course_outputs h0_course_losses h0_rows h0_rows_e h0_rows_e_places h0_causes h0_trial h0_kept h0_ways h0_spread h0_changes h0_tape h0_bodies s0__hasImage s0__hasCauses s0__stepsDone o10 o11 o12 o13 o14 o15 o16 s0_filter_numbers o17 o4 o5 o6 o7 o8 o9 s0_rows_e__sort s0_rows_e__size s0_rows_e_places s0_causes) H ∧ va_D A (wm_X8_go cA h0 h0_filter h0_filter_numbers h0_filter_words h0_course h0_course_outputs h0_course_losses h0_rows h0_rows_e h0_rows_e_places h0_causes h0_trial h0_kept h0_ways h0_spread h0_changes h0_tape h0_bodies s0__hasImage s0__hasCauses s0__stepsDone o10 o11 o12 o13 o14 o15 o16 s0_filter_numbers o17 o4 o5 o6 o7 o8 o9 s0_rows_e__sort s0_rows_e__size s0_rows_e_places s0_causes) := PD_eq hP hD (by rcases lt4 (Nat.not_le.mp fun q => hin3 (Or.inr q)) with e | e | e | e <;> rw [e] <;> rfl)
      refine lv_aload_n hx hb dX8_go_37 rfl (lv_at hl 0 rfl) ?_
      refine lv_dup hx hb dX8_go_38 rfl ?_
      refine va_get (ci := 8) (v := .int s0__stepsDone) (C := RX8) (T := TX8) (N := 14) hx hb hts hinX8 hown hK hP 0 rfl rfl 13 (by decide) (hts _ (List.mem_of_getElem? (i := 4) rfl)) (fun _ h9 => h9) rfl dX8_go_39 ?_
      refine lv_aload_n hx hb dX8_go_42 rfl (lv_at hl 0 rfl) ?_
      refine va_get (ci := 8) (v := .ref h0_course) (C := RX8) (T := TX8) (N := 14) hx hb hts hinX8 hown hK hP 0 rfl rfl 6 (by decide) (hts _ (List.mem_of_getElem? (i := 1) rfl)) (fun _ h9 => h9) rfl dX8_go_43 ?_
      refine va_get (ci := 2) (v := .int o4) (C := RX2) (T := TX2) (N := 6) hx hb hts hinX2 hown hK hP 4 rfl rfl 2 (by decide) (hts _ (List.mem_of_getElem? (i := 5) rfl)) (fun _ h9 => h9) rfl dX8_go_46 ?_
      refine lv_iadd hx hb dX8_go_49 ?_
      refine va_put (D := G) (ci := 8) (v := .int (s0__stepsDone + o4)) (ty := .int) (C := RX8) (T := TX8) (N := 14) hx hb hts hinX8 tyX8 tyX8_ok nmX8 hown hK hP hD hS 0 rfl rfl 13 (by decide) (hts _ (List.mem_of_getElem? (i := 4) rfl)) (fun _ h9 => h9) rfl (by decide +kernel) rfl rfl (Nat.le_of_ble_eq_true rfl) dX8_go_50 (fun H locs hP hD hS => ?_)
      have hP : va_P G vwCl (wm_X8_go cA h0 h0_filter h0_filter_numbers h0_filter_words h0_course h0_course_outputs h0_course_losses h0_rows h0_rows_e h0_rows_e_places h0_causes h0_trial h0_kept h0_ways h0_spread h0_changes h0_tape h0_bodies s0__hasImage s0__hasCauses (s0__stepsDone + o4) o10 o11 o12 o13 o14 o15 o16 s0_filter_numbers o17 o4 o5 o6 o7 o8 o9 s0_rows_e__sort s0_rows_e__size s0_rows_e_places s0_causes) H := hP
      have hD : va_D A (wm_X8_go cA h0 h0_filter h0_filter_numbers h0_filter_words h0_course h0_course_outputs h0_course_losses h0_rows h0_rows_e h0_rows_e_places h0_causes h0_trial h0_kept h0_ways h0_spread h0_changes h0_tape h0_bodies s0__hasImage s0__hasCauses (s0__stepsDone + o4) o10 o11 o12 o13 o14 o15 o16 s0_filter_numbers o17 o4 o5 o6 o7 o8 o9 s0_rows_e__sort s0_rows_e__size s0_rows_e_places s0_causes) := hD
      refine lv_aload_n hx hb dX8_go_53 rfl (lv_at hl 0 rfl) ?_
      refine va_get (ci := 8) (v := .ref h0_course) (C := RX8) (T := TX8) (N := 14) hx hb hts hinX8 hown hK hP 0 rfl rfl 6 (by decide) (hts _ (List.mem_of_getElem? (i := 1) rfl)) (fun _ h9 => h9) rfl dX8_go_54 ?_
      refine va_get (ci := 2) (v := .int o6) (C := RX2) (T := TX2) (N := 6) hx hb hts hinX2 hown hK hP 4 rfl rfl 4 (by decide) (hts _ (List.mem_of_getElem? (i := 6) rfl)) (fun _ h9 => h9) rfl dX8_go_57 ?_
      refine lv_if_eq (tgt := 82) hx hb dX8_go_60 (by decide) (fun c => ?_) (fun c => ?_)
      · replace hok := g_pos hok c
        refine lv_aload_n hx hb dX8_go_82 rfl (lv_at hl 0 rfl) ?_
        refine va_get (ci := 8) (v := .ref h0_course) (C := RX8) (T := TX8) (N := 14) hx hb hts hinX8 hown hK hP 0 rfl rfl 6 (by decide) (hts _ (List.mem_of_getElem? (i := 1) rfl)) (fun _ h9 => h9) rfl dX8_go_83 ?_
        refine va_get (ci := 2) (v := .int o4) (C := RX2) (T := TX2) (N := 6) hx hb hts hinX2 hown hK hP 4 rfl rfl 2 (by decide) (hts _ (List.mem_of_getElem? (i := 5) rfl)) (fun _ h9 => h9) rfl dX8_go_86 ?_
        obtain ⟨e, hok⟩ := g_pr hok
        try subst e
        obtain ⟨e, hok⟩ := g_pr hok
        try subst e
        obtain ⟨e, hok⟩ := g_pr hok
        try subst e
        obtain ⟨e, hok⟩ := g_pr hok
        try subst e
        obtain ⟨e, hok⟩ := g_pr hok
        try subst e
        obtain ⟨e, hok⟩ := g_pr hok
        try subst e
        obtain ⟨e, hok⟩ := g_pr hok
        try subst e
        obtain ⟨e, hok⟩ := g_pr hok
        try subst e
        obtain ⟨e, hok⟩ := g_pr hok
        try subst e
        obtain ⟨e, hok⟩ := g_pr hok
        try subst e
        obtain ⟨e, hok⟩ := g_pr hok
        try subst e
        obtain ⟨e, hok⟩ := g_pr hok
        try subst e
        obtain ⟨e, hok⟩ := g_pr hok
        try subst e
        obtain ⟨e, hok⟩ := g_pr hok
        try subst e
        obtain ⟨e, hok⟩ := g_pr hok
        try subst e
        obtain ⟨e, hok⟩ := g_pr hok
        try subst e
        obtain ⟨e, hok⟩ := g_pr hok
        try subst e
        cases hok
        exact cr_i hx hb hr hlocks hQ dX8_go_89 hP hS
      replace hok := g_neg hok c
      refine lv_aload_n hx hb dX8_go_63 rfl (lv_at hl 0 rfl) ?_
      refine lv_aload_n hx hb dX8_go_64 rfl (lv_at hl 0 rfl) ?_
      refine va_get (ci := 8) (v := .ref h0_course) (C := RX8) (T := TX8) (N := 14) hx hb hts hinX8 hown hK hP 0 rfl rfl 6 (by decide) (hts _ (List.mem_of_getElem? (i := 1) rfl)) (fun _ h9 => h9) rfl dX8_go_65 ?_
      refine va_get (ci := 2) (v := .int o4) (C := RX2) (T := TX2) (N := 6) hx hb hts hinX2 hown hK hP 4 rfl rfl 2 (by decide) (hts _ (List.mem_of_getElem? (i := 5) rfl)) (fun _ h9 => h9) rfl dX8_go_68 ?_
      refine lv_iconst (v := 0) hx hb dX8_go_71 (by decide) ?_
      refine lv_aload_n hx hb dX8_go_72 rfl (lv_at hl 0 rfl) ?_
      refine va_get (ci := 8) (v := .ref h0_course) (C := RX8) (T := TX8) (N := 14) hx hb hts hinX8 hown hK hP 0 rfl rfl 6 (by decide) (hts _ (List.mem_of_getElem? (i := 1) rfl)) (fun _ h9 => h9) rfl dX8_go_73 ?_
      refine va_get (ci := 2) (v := .int o7) (C := RX2) (T := TX2) (N := 6) hx hb hts hinX2 hown hK hP 4 rfl rfl 5 (by decide) (hts _ (List.mem_of_getElem? (i := 7) rfl)) (fun _ h9 => h9) rfl dX8_go_76 ?_
      obtain ⟨o18, o19, hq, hok⟩ := g_bnd2 hok
      refine cG (is := [0, 16]) (wc := (wm_X8_tellCauses cA h0 h0_causes h0_filter h0_trial h0_kept h0_ways h0_spread h0_course h0_rows h0_changes h0_tape h0_bodies s0__hasImage s0__hasCauses (s0__stepsDone + o4) s0_causes)) (w1 := (wm_X8_tellCauses cA h0 h0_causes h0_filter h0_trial h0_kept h0_ways h0_spread h0_course h0_rows h0_changes h0_tape h0_bodies s0__hasImage o18 (s0__stepsDone + o4) o19)) (rv := none) (st1 := []) (va_runV (Ts := wsX8_go) (As := [.int o4, .int (0:Int32), .int o7]) (rest := []) ⟨hx, hb, hml, hown, hts⟩ (c_X8_tellCauses l G cA ts h0 h0_causes h0_filter h0_trial h0_kept h0_ways h0_spread h0_course h0_rows h0_changes h0_tape h0_bodies o4 (0:Int32) o7 s0__hasImage s0__hasCauses (s0__stepsDone + o4) s0_causes o18 o19 hq H.size) (cwV 3 hts gX8_go_X8_tellCauses rfl rfl rfl (by decide +kernel) ⟨Nat.le_of_ble_eq_true rfl, Nat.le_of_ble_eq_true rfl⟩) (pre_V (ci := 8) (q0 := 0) (is := [0, 16]) rfl rfl hP hD hS hA hK hZ (by decide +kernel) (by rfl)) rfl rfl hl.1 rfl (by exact lv_room (Nat.le_of_ble_eq_true rfl)) dX8_go_79 ⟨Nat.le_refl _, Nat.le_refl _⟩) hP hD hS hA (by decide +kernel) (by rfl) (by rfl) rfl (fun H locs hP hD hS => ?_)
      have hP : va_P G vwCl (wm_X8_go cA h0 h0_filter h0_filter_numbers h0_filter_words h0_course h0_course_outputs h0_course_losses h0_rows h0_rows_e h0_rows_e_places h0_causes h0_trial h0_kept h0_ways h0_spread h0_changes h0_tape h0_bodies s0__hasImage o18 (s0__stepsDone + o4) o10 o11 o12 o13 o14 o15 o16 s0_filter_numbers o17 o4 o5 o6 o7 o8 o9 s0_rows_e__sort s0_rows_e__size s0_rows_e_places o19) H := hP
      have hD : va_D A (wm_X8_go cA h0 h0_filter h0_filter_numbers h0_filter_words h0_course h0_course_outputs h0_course_losses h0_rows h0_rows_e h0_rows_e_places h0_causes h0_trial h0_kept h0_ways h0_spread h0_changes h0_tape h0_bodies s0__hasImage o18 (s0__stepsDone + o4) o10 o11 o12 o13 o14 o15 o16 s0_filter_numbers o17 o4 o5 o6 o7 o8 o9 s0_rows_e__sort s0_rows_e__size s0_rows_e_places o19) := hD
      refine lv_aload_n hx hb dX8_go_82 rfl (lv_at hl 0 rfl) ?_
      refine va_get (ci := 8) (v := .ref h0_course) (C := RX8) (T := TX8) (N := 14) hx hb hts hinX8 hown hK hP 0 rfl rfl 6 (by decide) (hts _ (List.mem_of_getElem? (i := 1) rfl)) (fun _ h9 => h9) rfl dX8_go_83 ?_
      refine va_get (ci := 2) (v := .int o4) (C := RX2) (T := TX2) (N := 6) hx hb hts hinX2 hown hK hP 4 rfl rfl 2 (by decide) (hts _ (List.mem_of_getElem? (i := 5) rfl)) (fun _ h9 => h9) rfl dX8_go_86 ?_
      obtain ⟨e, hok⟩ := g_pr hok
      try subst e
      obtain ⟨e, hok⟩ := g_pr hok
      try subst e
      obtain ⟨e, hok⟩ := g_pr hok
      try subst e
      obtain ⟨e, hok⟩ := g_pr hok
      try subst e
      obtain ⟨e, hok⟩ := g_pr hok
      try subst e
      obtain ⟨e, hok⟩ := g_pr hok
      try subst e
      obtain ⟨e, hok⟩ := g_pr hok
      try subst e
      obtain ⟨e, hok⟩ := g_pr hok
      try subst e
      obtain ⟨e, hok⟩ := g_pr hok
      try subst e
      obtain ⟨e, hok⟩ := g_pr hok
      try subst e
      obtain ⟨e, hok⟩ := g_pr hok
      try subst e
      obtain ⟨e, hok⟩ := g_pr hok
      try subst e
      obtain ⟨e, hok⟩ := g_pr hok
      try subst e
      obtain ⟨e, hok⟩ := g_pr hok
      try subst e
      obtain ⟨e, hok⟩ := g_pr hok
      try subst e
      obtain ⟨e, hok⟩ := g_pr hok
      try subst e
      obtain ⟨e, hok⟩ := g_pr hok
      try subst e
      cases hok
      exact cr_i hx hb hr hlocks hQ dX8_go_89 hP hS
    replace hok := g_neg hok c
    refine lv_bipush (v := -11) hx hb dX8_go_17 (by decide) ?_
    obtain ⟨e, hok⟩ := g_pr hok
    try subst e
    obtain ⟨e, hok⟩ := g_pr hok
    try subst e
    obtain ⟨e, hok⟩ := g_pr hok
    try subst e
    obtain ⟨e, hok⟩ := g_pr hok
    try subst e
    obtain ⟨e, hok⟩ := g_pr hok
    try subst e
    obtain ⟨e, hok⟩ := g_pr hok
    try subst e
    obtain ⟨e, hok⟩ := g_pr hok
    try subst e
    obtain ⟨e, hok⟩ := g_pr hok
    try subst e
    obtain ⟨e, hok⟩ := g_pr hok
    try subst e
    obtain ⟨e, hok⟩ := g_pr hok
    try subst e
    obtain ⟨e, hok⟩ := g_pr hok
    try subst e
    obtain ⟨e, hok⟩ := g_pr hok
    try subst e
    obtain ⟨e, hok⟩ := g_pr hok
    try subst e
    obtain ⟨e, hok⟩ := g_pr hok
    try subst e
    obtain ⟨e, hok⟩ := g_pr hok
    try subst e
    obtain ⟨e, hok⟩ := g_pr hok
    try subst e
    obtain ⟨e, hok⟩ := g_pr hok
    try subst e
    cases hok
    exact cr_i hx hb hr hlocks hQ dX8_go_19 hP hS
  replace hok := g_pos hok c
  refine lv_iconst (v := -1) hx hb dX8_go_7 (by decide) ?_
  obtain ⟨e, hok⟩ := g_pr hok
  try subst e
  obtain ⟨e, hok⟩ := g_pr hok
  try subst e
  obtain ⟨e, hok⟩ := g_pr hok
  try subst e
  obtain ⟨e, hok⟩ := g_pr hok
  try subst e
  obtain ⟨e, hok⟩ := g_pr hok
  try subst e
  obtain ⟨e, hok⟩ := g_pr hok
  try subst e
  obtain ⟨e, hok⟩ := g_pr hok
  try subst e
  obtain ⟨e, hok⟩ := g_pr hok
  try subst e
  obtain ⟨e, hok⟩ := g_pr hok
  try subst e
  obtain ⟨e, hok⟩ := g_pr hok
  try subst e
  obtain ⟨e, hok⟩ := g_pr hok
  try subst e
  obtain ⟨e, hok⟩ := g_pr hok
  try subst e
  obtain ⟨e, hok⟩ := g_pr hok
  try subst e
  obtain ⟨e, hok⟩ := g_pr hok
  try subst e
  obtain ⟨e, hok⟩ := g_pr hok
  try subst e
  obtain ⟨e, hok⟩ := g_pr hok
  try subst e
  obtain ⟨e, hok⟩ := g_pr hok
  try subst e
  cases hok
  exact cr_i hx hb hr hlocks hQ dX8_go_8 hP hS
set_option maxHeartbeats 40000000 in
set_option maxRecDepth 100000 in
theorem c_X8_isPart (l : Launch) (G : va_G) (cA : Nat → ClassId) (ts : Nat → Nat) (x0 : Int32) (r : Int32) (hok : fX8_isPart x0 = some r) : Ct l G cA ts yX8_isPart wsX8_isPart 1 40 [.int x0] (wm_X0_find cA) (wm_X0_find cA) (some (.int r)) := by
  refine Ct.intro (cc := cX8_isPart) (maxL := 1) (ret := some .boolean) (by decide +kernel) rfl (Nat.le_of_ble_eq_true rfl) ?_
  intro p e s m ar below meth c A Q hx hb hr hml hown hlocks hts hK hZ hA hQ hP hD hS ls hl
  have hown : s.vm.findClass RX8 = some m.cls := hown
  have hl : lv_has ls 1 [(0, .int x0)] := hl
  have hP : va_P G vwCl (wm_X0_find cA) s.heap := hP
  have hD : va_D A (wm_X0_find cA) := hD
  unfold fX8_isPart at hok
  refine lv_iload_n hx hb dX8_isPart_0 rfl (lv_at hl 0 rfl) ?_
  refine lv_if_eq (tgt := 9) hx hb dX8_isPart_1 (by decide) (fun c => ?_) (fun c => ?_)
  · replace hok := g_pos hok c
    refine lv_iconst (v := 1) hx hb dX8_isPart_9 (by decide) ?_
    refine lv_goto (tgt := 14) hx hb dX8_isPart_10 (by decide) ?_
    cases hok
    exact cr_z (ty := .boolean) (by decide +kernel) hx hb hr hlocks hQ dX8_isPart_14 hP hS
  replace hok := g_neg hok c
  refine lv_iload_n hx hb dX8_isPart_4 rfl (lv_at hl 0 rfl) ?_
  refine lv_iconst (v := 1) hx hb dX8_isPart_5 (by decide) ?_
  refine lv_icmp_ne (tgt := 13) hx hb dX8_isPart_6 (by decide) (fun c => ?_) (fun c => ?_)
  · replace hok := g_neg hok c
    refine lv_iconst (v := 0) hx hb dX8_isPart_13 (by decide) ?_
    cases hok
    exact cr_z (ty := .boolean) (by decide +kernel) hx hb hr hlocks hQ dX8_isPart_14 hP hS
  replace hok := g_pos hok c
  refine lv_iconst (v := 1) hx hb dX8_isPart_9 (by decide) ?_
  refine lv_goto (tgt := 14) hx hb dX8_isPart_10 (by decide) ?_
  cases hok
  exact cr_z (ty := .boolean) (by decide +kernel) hx hb hr hlocks hQ dX8_isPart_14 hP hS
set_option maxHeartbeats 40000000 in
set_option maxRecDepth 100000 in
theorem c_X8_inLowestTerms (l : Launch) (G : va_G) (cA : Nat → ClassId) (ts : Nat → Nat) (x0 : Int64) (x1 : Int64) (x2 : Int32) (r : Int64) (hok : fX8_inLowestTerms x0 x1 x2 = some r) : Ct l G cA ts yX8_inLowestTerms wsX8_inLowestTerms 1 40 [.long x0, .long x1, .int x2] (wm_X0_find cA) (wm_X0_find cA) (some (.long r)) := by
  refine Ct.intro (cc := cX8_inLowestTerms) (maxL := 6) (ret := some .long) (by decide +kernel) rfl (Nat.le_of_ble_eq_true rfl) ?_
  intro p e s m ar below meth c A Q hx hb hr hml hown hlocks hts hK hZ hA hQ hP hD hS ls hl
  have hown : s.vm.findClass RX8 = some m.cls := hown
  have hl : lv_has ls 6 [(0, .long x0), (2, .long x1), (4, .int x2)] := hl
  have hP : va_P G vwCl (wm_X0_find cA) s.heap := hP
  have hD : va_D A (wm_X0_find cA) := hD
  have L_3 : ∀ (n : Nat) (y0 : Int64) (y2 : Int64) (y5 : Int32) (p0_0 : Int64) (p0_1 : Int64) (H : Heap) (locs : List Loc) (ls : Array Slot), va_P G vwCl (wm_X0_find cA) H → va_D A (wm_X0_find cA) → va_S A s.heap H locs → lv_has ls 6 [(0, .long y0), (2, .long y2), (4, .int x2), (5, .int y5)] → fX8_inLowestTerms_L3 x0 x1 x2 n y0 y2 y5 = some (p0_0, p0_1) → (∀ (H : Heap) (locs : List Loc) (ls : Array Slot), va_P G vwCl (wm_X0_find cA) H → va_D A (wm_X0_find cA) → va_S A s.heap H locs → lv_has ls 6 [(0, .long p0_0), (2, .long p0_1), (4, .int x2)] → W p l e (rmX 1 40) s m ar below meth c H locs 0 0 Q (F0 m 42 ls [])) → W p l e (rmX 1 40) s m ar below meth c H locs 0 0 Q (F0 m 3 ls []) := by
    intro n
    induction n with
    | zero =>
      intro y0 y2 y5 p0_0 p0_1 H locs ls hP hD hS hl hok
      rw [fX8_inLowestTerms_L3] at hok
      cases hok
    | succ n ih =>
      intro y0 y2 y5 p0_0 p0_1 H locs ls hP hD hS hl hok K
      rw [fX8_inLowestTerms_L3] at hok
      refine lv_iload hx hb dX8_inLowestTerms_3 (lv_at hl 3 rfl) ?_
      refine lv_bipush (v := 62) hx hb dX8_inLowestTerms_5 (by decide) ?_
      refine lv_icmp_ge (tgt := 42) hx hb dX8_inLowestTerms_7 (by decide) (fun c => ?_) (fun c => ?_)
      · replace hok := g_pos hok c
        cases hok
        exact K _ _ _ hP hD hS (lv_sub hl [0, 1, 2] rfl)
      replace hok := g_neg hok c
      refine lv_lload_n hx hb dX8_inLowestTerms_10 rfl (lv_at hl 1 rfl) ?_
      refine lv_lconst (v := 1) hx hb dX8_inLowestTerms_11 (by decide) ?_
      refine W.lcmp hx hb dX8_inLowestTerms_12 ?_
      refine lv_if_le (tgt := 42) hx hb dX8_inLowestTerms_13 (by decide) (fun c => ?_) (fun c => ?_)
      · replace hok := g_pos hok c
        cases hok
        exact K _ _ _ hP hD hS (lv_sub hl [0, 1, 2] rfl)
      replace hok := g_neg hok c
      refine lv_lload_n hx hb dX8_inLowestTerms_16 rfl (lv_at hl 0 rfl) ?_
      refine lv_lconst (v := 1) hx hb dX8_inLowestTerms_17 (by decide) ?_
      refine lv_land hx hb dX8_inLowestTerms_18 ?_
      refine lv_lconst (v := 0) hx hb dX8_inLowestTerms_19 (by decide) ?_
      refine W.lcmp hx hb dX8_inLowestTerms_20 ?_
      refine lv_if_ne (tgt := 42) hx hb dX8_inLowestTerms_21 (by decide) (fun c => ?_) (fun c => ?_)
      · replace hok := g_neg hok c
        cases hok
        exact K _ _ _ hP hD hS (lv_sub hl [0, 1, 2] rfl)
      replace hok := g_pos hok c
      refine lv_lload_n hx hb dX8_inLowestTerms_24 rfl (lv_at hl 0 rfl) ?_
      refine lv_ldc2 (v := 2) hx hb hown (hts _ (List.mem_of_getElem? (i := 1) rfl)) dX8_inLowestTerms_25 ?_
      obtain ⟨hin, hok⟩ := g_no hok
      refine lv_ldiv hx hb dX8_inLowestTerms_28 hin ?_
      refine lv_lstore_n (lv' := [(0, .long (y0 / (2:Int64))), (2, .long y2), (4, .int x2), (5, .int y5)]) hx hb dX8_inLowestTerms_29 rfl hl (by decide) rfl (fun ls hl => ?_)
      refine lv_lload_n hx hb dX8_inLowestTerms_30 rfl (lv_at hl 1 rfl) ?_
      refine lv_ldc2 (v := 2) hx hb hown (hts _ (List.mem_of_getElem? (i := 1) rfl)) dX8_inLowestTerms_31 ?_
      obtain ⟨hin, hok⟩ := g_no hok
      refine lv_ldiv hx hb dX8_inLowestTerms_34 hin ?_
      refine lv_lstore_n (lv' := [(2, .long (y2 / (2:Int64))), (0, .long (y0 / (2:Int64))), (4, .int x2), (5, .int y5)]) hx hb dX8_inLowestTerms_35 rfl hl (by decide) rfl (fun ls hl => ?_)
      refine lv_iinc (v := (y5 + 1)) (lv' := [(5, .int (y5 + 1)), (2, .long (y2 / (2:Int64))), (0, .long (y0 / (2:Int64))), (4, .int x2)]) hx hb dX8_inLowestTerms_36 hl (k := 3) rfl rfl (by decide) rfl (fun ls hl => ?_)
      refine lv_goto (tgt := 3) hx hb dX8_inLowestTerms_39 (by decide) ?_
      exact ih (y0 / (2:Int64)) (y2 / (2:Int64)) (y5 + 1) p0_0 p0_1 _ _ _ hP hD hS (lv_sub hl [2, 1, 3, 0] rfl) hok K
  unfold fX8_inLowestTerms at hok
  refine lv_iconst (v := 0) hx hb dX8_inLowestTerms_0 (by decide) ?_
  refine lv_istore (lv' := [(5, .int (0:Int32)), (0, .long x0), (2, .long x1), (4, .int x2)]) hx hb dX8_inLowestTerms_1 hl (by decide) rfl (fun ls hl => ?_)
  obtain ⟨o1, o2, hq, hok⟩ := g_bnd2 hok
  refine L_3 FUEL x0 x1 (0:Int32) o1 o2 _ _ _ hP hD hS (lv_sub hl [1, 2, 3, 0] rfl) hq (fun H locs ls hP hD hS hl => ?_)
  refine lv_iload hx hb dX8_inLowestTerms_42 (lv_at hl 2 rfl) ?_
  refine lv_if_ne (tgt := 51) hx hb dX8_inLowestTerms_44 (by decide) (fun c => ?_) (fun c => ?_)
  · replace hok := g_neg hok c
    refine lv_lload_n hx hb dX8_inLowestTerms_51 rfl (lv_at hl 1 rfl) ?_
    cases hok
    exact cr_l hx hb hr hlocks hQ dX8_inLowestTerms_52 hP hS
  replace hok := g_pos hok c
  refine lv_lload_n hx hb dX8_inLowestTerms_47 rfl (lv_at hl 0 rfl) ?_
  refine lv_goto (tgt := 52) hx hb dX8_inLowestTerms_48 (by decide) ?_
  cases hok
  exact cr_l hx hb hr hlocks hQ dX8_inLowestTerms_52 hP hS
set_option maxHeartbeats 40000000 in
set_option maxRecDepth 100000 in
theorem c_X8_noise (l : Launch) (G : va_G) (cA : Nat → ClassId) (ts : Nat → Nat) (h0 : Nat) (h0_filter : Nat) (h0_filter_numbers : Nat) (h0_filter_words : Nat) (h0_trial : Nat) (h0_trial_numbers : Nat) (h0_trial_words : Nat) (h0_course : Nat) (h0_course_outputs : Nat) (h0_course_losses : Nat) (h0_rows : Nat) (h0_rows_e : Nat → Nat) (h0_rows_e_places : Nat → Nat) (h0_kept : Nat) (h0_ways : Nat) (h0_spread : Nat) (h0_changes : Nat) (h0_tape : Nat) (h0_bodies : Nat) (h0_causes : Nat) (x1 : Int32) (x2 : Int32) (s0__hasImage : Int32) (s0__hasCauses : Int32) (s0__stepsDone : Int32) (s0_filter__all : Int32) (s0_filter__v : Int32) (s0_filter__loss : Int32) (s0_filter__result : Int32) (s0_filter__over : Int32) (s0_filter__heldAll : Int32) (s0_filter__heldRounded : Int32) (s0_filter_numbers : Nat → Int32) (s0_filter_words : Nat → Int32) (s0_trial__all : Int32) (s0_trial__v : Int32) (s0_trial__loss : Int32) (s0_trial__result : Int32) (s0_trial__over : Int32) (s0_trial__heldAll : Int32) (s0_trial__heldRounded : Int32) (s0_trial_numbers : Nat → Int32) (s0_trial_words : Nat → Int32) (s0_course__length : Int32) (s0_course__overs : Int32) (s0_course__halted : Int32) (s0_course__haltedBy : Int32) (s0_course_outputs : Nat → Int32) (s0_course_losses : Nat → Int32) (s0_rows_e__sort : Nat → Int32) (s0_rows_e__size : Nat → Int32) (s0_rows_e_places : Nat → Nat → Int64) (r : Int64) (o0_trial__all : Int32) (o0_trial__v : Int32) (o0_trial__loss : Int32) (o0_trial__result : Int32) (o0_trial__over : Int32) (o0_trial__heldAll : Int32) (o0_trial__heldRounded : Int32) (o0_trial_numbers : Nat → Int32) (o0_trial_words : Nat → Int32) (o0_course__length : Int32) (o0_course__overs : Int32) (o0_course__halted : Int32) (o0_course__haltedBy : Int32) (o0_course_outputs : Nat → Int32) (o0_course_losses : Nat → Int32) (hok : fX8_noise x1 x2 s0_filter_numbers s0_filter_words s0_trial__all s0_trial__v s0_trial__loss s0_trial__result s0_trial__over s0_trial__heldAll s0_trial__heldRounded s0_trial_numbers s0_trial_words s0_course__length s0_course__overs s0_course__halted s0_course__haltedBy s0_course_outputs s0_course_losses s0_rows_e__sort s0_rows_e__size s0_rows_e_places = some (r, o0_trial__all, o0_trial__v, o0_trial__loss, o0_trial__result, o0_trial__over, o0_trial__heldAll, o0_trial__heldRounded, o0_trial_numbers, o0_trial_words, o0_course__length, o0_course__overs, o0_course__halted, o0_course__haltedBy, o0_course_outputs, o0_course_losses)) : Ct l G cA ts yX8_noise wsX8_noise 7 170 [.ref h0, .int x1, .int x2] (wm_X8_followInThought cA h0 h0_filter h0_filter_numbers h0_filter_words h0_trial h0_trial_numbers h0_trial_words h0_course h0_course_outputs h0_course_losses h0_rows h0_rows_e h0_rows_e_places h0_kept h0_ways h0_spread h0_changes h0_tape h0_bodies h0_causes s0__hasImage s0__hasCauses s0__stepsDone s0_filter__all s0_filter__v s0_filter__loss s0_filter__result s0_filter__over s0_filter__heldAll s0_filter__heldRounded s0_filter_numbers s0_filter_words s0_trial__all s0_trial__v s0_trial__loss s0_trial__result s0_trial__over s0_trial__heldAll s0_trial__heldRounded s0_trial_numbers s0_trial_words s0_course__length s0_course__overs s0_course__halted s0_course__haltedBy s0_course_outputs s0_course_losses s0_rows_e__sort s0_rows_e__size s0_rows_e_places) (wm_X8_followInThought cA h0 h0_filter h0_filter_numbers h0_filter_words h0_trial h0_trial_numbers h0_trial_words h0_course h0_course_outputs h0_course_losses h0_rows h0_rows_e h0_rows_e_places h0_kept h0_ways h0_spread h0_changes h0_tape h0_bodies h0_causes s0__hasImage s0__hasCauses s0__stepsDone s0_filter__all s0_filter__v s0_filter__loss s0_filter__result s0_filter__over s0_filter__heldAll s0_filter__heldRounded s0_filter_numbers s0_filter_words o0_trial__all o0_trial__v o0_trial__loss o0_trial__result o0_trial__over o0_trial__heldAll o0_trial__heldRounded o0_trial_numbers o0_trial_words o0_course__length o0_course__overs o0_course__halted o0_course__haltedBy o0_course_outputs o0_course_losses s0_rows_e__sort s0_rows_e__size s0_rows_e_places) (some (.long r)) := by
  refine Ct.intro (cc := cX8_noise) (maxL := 3) (ret := some .long) (by decide +kernel) rfl (Nat.le_of_ble_eq_true rfl) ?_
  intro p e s m ar below meth c A Q hx hb hr hml hown hlocks hts hK hZ hA hQ hP hD hS ls hl
  have hown : s.vm.findClass RX8 = some m.cls := hown
  have hinX8 : ∀ w ∈ wsX80, w ∈ wsX8_noise := fun _ h => List.mem_cons_of_mem _ (List.mem_append_left _ (List.mem_append_left _ (List.mem_append_left _ (List.mem_append_right _ (h)))))
  have hl : lv_has ls 3 [(0, .ref h0), (1, .int x1), (2, .int x2)] := hl
  have hP : va_P G vwCl (wm_X8_followInThought cA h0 h0_filter h0_filter_numbers h0_filter_words h0_trial h0_trial_numbers h0_trial_words h0_course h0_course_outputs h0_course_losses h0_rows h0_rows_e h0_rows_e_places h0_kept h0_ways h0_spread h0_changes h0_tape h0_bodies h0_causes s0__hasImage s0__hasCauses s0__stepsDone s0_filter__all s0_filter__v s0_filter__loss s0_filter__result s0_filter__over s0_filter__heldAll s0_filter__heldRounded s0_filter_numbers s0_filter_words s0_trial__all s0_trial__v s0_trial__loss s0_trial__result s0_trial__over s0_trial__heldAll s0_trial__heldRounded s0_trial_numbers s0_trial_words s0_course__length s0_course__overs s0_course__halted s0_course__haltedBy s0_course_outputs s0_course_losses s0_rows_e__sort s0_rows_e__size s0_rows_e_places) s.heap := hP
  have hD : va_D A (wm_X8_followInThought cA h0 h0_filter h0_filter_numbers h0_filter_words h0_trial h0_trial_numbers h0_trial_words h0_course h0_course_outputs h0_course_losses h0_rows h0_rows_e h0_rows_e_places h0_kept h0_ways h0_spread h0_changes h0_tape h0_bodies h0_causes s0__hasImage s0__hasCauses s0__stepsDone s0_filter__all s0_filter__v s0_filter__loss s0_filter__result s0_filter__over s0_filter__heldAll s0_filter__heldRounded s0_filter_numbers s0_filter_words s0_trial__all s0_trial__v s0_trial__loss s0_trial__result s0_trial__over s0_trial__heldAll s0_trial__heldRounded s0_trial_numbers s0_trial_words s0_course__length s0_course__overs s0_course__halted s0_course__haltedBy s0_course_outputs s0_course_losses s0_rows_e__sort s0_rows_e__size s0_rows_e_places) := hD
  unfold fX8_noise at hok
  refine lv_iload_n hx hb dX8_noise_0 rfl (lv_at hl 1 rfl) ?_
  obtain ⟨r1, hq, hok⟩ := g_bnd1 hok
  refine cG (is := []) (wc := (wm_X0_find cA)) (w1 := (wm_X0_find cA)) (rv := (some (.int r1))) (st1 := [.int r1]) (va_runS (Ts := wsX8_noise) (As := [.int x1]) (rest := []) ⟨hx, hb, hml, hown, hts⟩ (c_X8_isRow l G cA ts x1 r1 hq s.heap.size) (va_cwS 1 hts gX8_noise_X8_isRow rfl rfl rfl (by decide +kernel) ⟨Nat.le_of_ble_eq_true rfl, Nat.le_of_ble_eq_true rfl⟩) (pre_S (is := []) hP hD hS hA hK hZ (by decide +kernel) (by rfl)) rfl rfl hl.1 rfl (by exact lv_room (Nat.le_of_ble_eq_true rfl)) dX8_noise_1 ⟨Nat.le_refl _, Nat.le_refl _⟩) hP hD hS hA (by decide +kernel) (by rfl) (by rfl) rfl (fun H locs hP hD hS => ?_)
  have hP : va_P G vwCl (wm_X8_followInThought cA h0 h0_filter h0_filter_numbers h0_filter_words h0_trial h0_trial_numbers h0_trial_words h0_course h0_course_outputs h0_course_losses h0_rows h0_rows_e h0_rows_e_places h0_kept h0_ways h0_spread h0_changes h0_tape h0_bodies h0_causes s0__hasImage s0__hasCauses s0__stepsDone s0_filter__all s0_filter__v s0_filter__loss s0_filter__result s0_filter__over s0_filter__heldAll s0_filter__heldRounded s0_filter_numbers s0_filter_words s0_trial__all s0_trial__v s0_trial__loss s0_trial__result s0_trial__over s0_trial__heldAll s0_trial__heldRounded s0_trial_numbers s0_trial_words s0_course__length s0_course__overs s0_course__halted s0_course__haltedBy s0_course_outputs s0_course_losses s0_rows_e__sort s0_rows_e__size s0_rows_e_places) H := hP
  have hD : va_D A (wm_X8_followInThought cA h0 h0_filter h0_filter_numbers h0_filter_words h0_trial h0_trial_numbers h0_trial_words h0_course h0_course_outputs h0_course_losses h0_rows h0_rows_e h0_rows_e_places h0_kept h0_ways h0_spread h0_changes h0_tape h0_bodies h0_causes s0__hasImage s0__hasCauses s0__stepsDone s0_filter__all s0_filter__v s0_filter__loss s0_filter__result s0_filter__over s0_filter__heldAll s0_filter__heldRounded s0_filter_numbers s0_filter_words s0_trial__all s0_trial__v s0_trial__loss s0_trial__result s0_trial__over s0_trial__heldAll s0_trial__heldRounded s0_trial_numbers s0_trial_words s0_course__length s0_course__overs s0_course__halted s0_course__haltedBy s0_course_outputs s0_course_losses s0_rows_e__sort s0_rows_e__size s0_rows_e_places) := hD
  refine lv_if_eq (tgt := 22) hx hb dX8_noise_4 (by decide) (fun c => ?_) (fun c => ?_)
  · replace hok := g_pos hok c
    refine lv_ldc2 (v := -9223372036854775808) hx hb hown (hts _ (List.mem_of_getElem? (i := 1) rfl)) dX8_noise_22 ?_
    obtain ⟨e, hok⟩ := g_pr hok
    try subst e
    obtain ⟨e, hok⟩ := g_pr hok
    try subst e
    obtain ⟨e, hok⟩ := g_pr hok
    try subst e
    obtain ⟨e, hok⟩ := g_pr hok
    try subst e
    obtain ⟨e, hok⟩ := g_pr hok
    try subst e
    obtain ⟨e, hok⟩ := g_pr hok
    try subst e
    obtain ⟨e, hok⟩ := g_pr hok
    try subst e
    obtain ⟨e, hok⟩ := g_pr hok
    try subst e
    obtain ⟨e, hok⟩ := g_pr hok
    try subst e
    obtain ⟨e, hok⟩ := g_pr hok
    try subst e
    obtain ⟨e, hok⟩ := g_pr hok
    try subst e
    obtain ⟨e, hok⟩ := g_pr hok
    try subst e
    obtain ⟨e, hok⟩ := g_pr hok
    try subst e
    obtain ⟨e, hok⟩ := g_pr hok
    try subst e
    obtain ⟨e, hok⟩ := g_pr hok
    try subst e
    cases hok
    exact cr_l hx hb hr hlocks hQ dX8_noise_25 hP hS
  replace hok := g_neg hok c
  refine lv_iload_n hx hb dX8_noise_7 rfl (lv_at hl 2 rfl) ?_
  obtain ⟨r2, hq, hok⟩ := g_bnd1 hok
  refine cG (is := []) (wc := (wm_X0_find cA)) (w1 := (wm_X0_find cA)) (rv := (some (.int r2))) (st1 := [.int r2]) (va_runS (Ts := wsX8_noise) (As := [.int x2]) (rest := []) ⟨hx, hb, hml, hown, hts⟩ (c_X8_isPart l G cA ts x2 r2 hq H.size) (va_cwS 1 hts gX8_noise_X8_isPart rfl rfl rfl (by decide +kernel) ⟨Nat.le_of_ble_eq_true rfl, Nat.le_of_ble_eq_true rfl⟩) (pre_S (is := []) hP hD hS hA hK hZ (by decide +kernel) (by rfl)) rfl rfl hl.1 rfl (by exact lv_room (Nat.le_of_ble_eq_true rfl)) dX8_noise_8 ⟨Nat.le_refl _, Nat.le_refl _⟩) hP hD hS hA (by decide +kernel) (by rfl) (by rfl) rfl (fun H locs hP hD hS => ?_)
  have hP : va_P G vwCl (wm_X8_followInThought cA h0 h0_filter h0_filter_numbers h0_filter_words h0_trial h0_trial_numbers h0_trial_words h0_course h0_course_outputs h0_course_losses h0_rows h0_rows_e h0_rows_e_places h0_kept h0_ways h0_spread h0_changes h0_tape h0_bodies h0_causes s0__hasImage s0__hasCauses s0__stepsDone s0_filter__all s0_filter__v s0_filter__loss s0_filter__result s0_filter__over s0_filter__heldAll s0_filter__heldRounded s0_filter_numbers s0_filter_words s0_trial__all s0_trial__v s0_trial__loss s0_trial__result s0_trial__over s0_trial__heldAll s0_trial__heldRounded s0_trial_numbers s0_trial_words s0_course__length s0_course__overs s0_course__halted s0_course__haltedBy s0_course_outputs s0_course_losses s0_rows_e__sort s0_rows_e__size s0_rows_e_places) H := hP
  have hD : va_D A (wm_X8_followInThought cA h0 h0_filter h0_filter_numbers h0_filter_words h0_trial h0_trial_numbers h0_trial_words h0_course h0_course_outputs h0_course_losses h0_rows h0_rows_e h0_rows_e_places h0_kept h0_ways h0_spread h0_changes h0_tape h0_bodies h0_causes s0__hasImage s0__hasCauses s0__stepsDone s0_filter__all s0_filter__v s0_filter__loss s0_filter__result s0_filter__over s0_filter__heldAll s0_filter__heldRounded s0_filter_numbers s0_filter_words s0_trial__all s0_trial__v s0_trial__loss s0_trial__result s0_trial__over s0_trial__heldAll s0_trial__heldRounded s0_trial_numbers s0_trial_words s0_course__length s0_course__overs s0_course__halted s0_course__haltedBy s0_course_outputs s0_course_losses s0_rows_e__sort s0_rows_e__size s0_rows_e_places) := hD
  refine lv_if_eq (tgt := 22) hx hb dX8_noise_11 (by decide) (fun c => ?_) (fun c => ?_)
  · replace hok := g_pos hok c
    refine lv_ldc2 (v := -9223372036854775808) hx hb hown (hts _ (List.mem_of_getElem? (i := 1) rfl)) dX8_noise_22 ?_
    obtain ⟨e, hok⟩ := g_pr hok
    try subst e
    obtain ⟨e, hok⟩ := g_pr hok
    try subst e
    obtain ⟨e, hok⟩ := g_pr hok
    try subst e
    obtain ⟨e, hok⟩ := g_pr hok
    try subst e
    obtain ⟨e, hok⟩ := g_pr hok
    try subst e
    obtain ⟨e, hok⟩ := g_pr hok
    try subst e
    obtain ⟨e, hok⟩ := g_pr hok
    try subst e
    obtain ⟨e, hok⟩ := g_pr hok
    try subst e
    obtain ⟨e, hok⟩ := g_pr hok
    try subst e
    obtain ⟨e, hok⟩ := g_pr hok
    try subst e
    obtain ⟨e, hok⟩ := g_pr hok
    try subst e
    obtain ⟨e, hok⟩ := g_pr hok
    try subst e
    obtain ⟨e, hok⟩ := g_pr hok
    try subst e
    obtain ⟨e, hok⟩ := g_pr hok
    try subst e
    obtain ⟨e, hok⟩ := g_pr hok
    try subst e
    cases hok
    exact cr_l hx hb hr hlocks hQ dX8_noise_25 hP hS
  replace hok := g_neg hok c
  refine lv_aload_n hx hb dX8_noise_14 rfl (lv_at hl 0 rfl) ?_
  refine lv_iload_n hx hb dX8_noise_15 rfl (lv_at hl 1 rfl) ?_
  obtain ⟨r3, hq, hok⟩ := g_bnd1 hok
  refine cG (is := [0, 10, 11, 13, 15, 17]) (wc := (wm_X8_isMissing cA h0 h0_rows h0_rows_e h0_filter h0_trial h0_kept h0_ways h0_spread h0_course h0_changes h0_tape h0_bodies h0_causes h0_rows_e_places s0__hasImage s0__hasCauses s0__stepsDone s0_rows_e__sort s0_rows_e__size)) (w1 := (wm_X8_isMissing cA h0 h0_rows h0_rows_e h0_filter h0_trial h0_kept h0_ways h0_spread h0_course h0_changes h0_tape h0_bodies h0_causes h0_rows_e_places s0__hasImage s0__hasCauses s0__stepsDone s0_rows_e__sort s0_rows_e__size)) (rv := (some (.int r3))) (st1 := [.int r3]) (va_runV (Ts := wsX8_noise) (As := [.int x1]) (rest := []) ⟨hx, hb, hml, hown, hts⟩ (c_X8_isMissing l G cA ts h0 h0_rows h0_rows_e h0_filter h0_trial h0_kept h0_ways h0_spread h0_course h0_changes h0_tape h0_bodies h0_causes h0_rows_e_places x1 s0__hasImage s0__hasCauses s0__stepsDone s0_rows_e__sort s0_rows_e__size r3 hq H.size) (cwV 1 hts gX8_noise_X8_isMissing rfl rfl rfl (by decide +kernel) ⟨Nat.le_of_ble_eq_true rfl, Nat.le_of_ble_eq_true rfl⟩) (pre_V (ci := 8) (q0 := 0) (is := [0, 10, 11, 13, 15, 17]) rfl rfl hP hD hS hA hK hZ (by decide +kernel) (by rfl)) rfl rfl hl.1 rfl (by exact lv_room (Nat.le_of_ble_eq_true rfl)) dX8_noise_16 ⟨Nat.le_refl _, Nat.le_refl _⟩) hP hD hS hA (by decide +kernel) (by rfl) (by rfl) rfl (fun H locs hP hD hS => ?_)
  have hP : va_P G vwCl (wm_X8_followInThought cA h0 h0_filter h0_filter_numbers h0_filter_words h0_trial h0_trial_numbers h0_trial_words h0_course h0_course_outputs h0_course_losses h0_rows h0_rows_e h0_rows_e_places h0_kept h0_ways h0_spread h0_changes h0_tape h0_bodies h0_causes s0__hasImage s0__hasCauses s0__stepsDone s0_filter__all s0_filter__v s0_filter__loss s0_filter__result s0_filter__over s0_filter__heldAll s0_filter__heldRounded s0_filter_numbers s0_filter_words s0_trial__all s0_trial__v s0_trial__loss s0_trial__result s0_trial__over s0_trial__heldAll s0_trial__heldRounded s0_trial_numbers s0_trial_words s0_course__length s0_course__overs s0_course__halted s0_course__haltedBy s0_course_outputs s0_course_losses s0_rows_e__sort s0_rows_e__size s0_rows_e_places) H := hP
  have hD : va_D A (wm_X8_followInThought cA h0 h0_filter h0_filter_numbers h0_filter_words h0_trial h0_trial_numbers h0_trial_words h0_course h0_course_outputs h0_course_losses h0_rows h0_rows_e h0_rows_e_places h0_kept h0_ways h0_spread h0_changes h0_tape h0_bodies h0_causes s0__hasImage s0__hasCauses s0__stepsDone s0_filter__all s0_filter__v s0_filter__loss s0_filter__result s0_filter__over s0_filter__heldAll s0_filter__heldRounded s0_filter_numbers s0_filter_words s0_trial__all s0_trial__v s0_trial__loss s0_trial__result s0_trial__over s0_trial__heldAll s0_trial__heldRounded s0_trial_numbers s0_trial_words s0_course__length s0_course__overs s0_course__halted s0_course__haltedBy s0_course_outputs s0_course_losses s0_rows_e__sort s0_rows_e__size s0_rows_e_places) := hD
  refine lv_if_eq (tgt := 26) hx hb dX8_noise_19 (by decide) (fun c => ?_) (fun c => ?_)
  · replace hok := g_pos hok c
    refine lv_aload_n hx hb dX8_noise_26 rfl (lv_at hl 0 rfl) ?_
    refine lv_iload_n hx hb dX8_noise_27 rfl (lv_at hl 1 rfl) ?_
    obtain ⟨o4, o5, o6, o7, o8, o9, o10, o11, o12, o13, o14, o15, o16, o17, o18, hq, hok⟩ := g_bnd15 hok
    refine cG (is := [0, 1, 2, 3, 4, 5, 6, 7, 8, 9, 10, 11, 12, 13, 14, 15, 16, 17, 18]) (wc := (wm_X8_followInThought cA h0 h0_filter h0_filter_numbers h0_filter_words h0_trial h0_trial_numbers h0_trial_words h0_course h0_course_outputs h0_course_losses h0_rows h0_rows_e h0_rows_e_places h0_kept h0_ways h0_spread h0_changes h0_tape h0_bodies h0_causes s0__hasImage s0__hasCauses s0__stepsDone s0_filter__all s0_filter__v s0_filter__loss s0_filter__result s0_filter__over s0_filter__heldAll s0_filter__heldRounded s0_filter_numbers s0_filter_words s0_trial__all s0_trial__v s0_trial__loss s0_trial__result s0_trial__over s0_trial__heldAll s0_trial__heldRounded s0_trial_numbers s0_trial_words s0_course__length s0_course__overs s0_course__halted s0_course__haltedBy s0_course_outputs s0_course_losses s0_rows_e__sort s0_rows_e__size s0_rows_e_places)) (w1 := (wm_X8_followInThought cA h0 h0_filter h0_filter_numbers h0_filter_words h0_trial h0_trial_numbers h0_trial_words h0_course h0_course_outputs h0_course_losses h0_rows h0_rows_e h0_rows_e_places h0_kept h0_ways h0_spread h0_changes h0_tape h0_bodies h0_causes s0__hasImage s0__hasCauses s0__stepsDone s0_filter__all s0_filter__v s0_filter__loss s0_filter__result s0_filter__over s0_filter__heldAll s0_filter__heldRounded s0_filter_numbers s0_filter_words o4 o5 o6 o7 o8 o9 o10 o11 o12 o13 o14 o15 o16 o17 o18 s0_rows_e__sort s0_rows_e__size s0_rows_e_places)) (rv := none) (st1 := []) (va_runV (Ts := wsX8_noise) (As := [.int x1]) (rest := []) ⟨hx, hb, hml, hown, hts⟩ (c_X8_followInThought l G cA ts h0 h0_filter h0_filter_numbers h0_filter_words h0_trial h0_trial_numbers h0_trial_words h0_course h0_course_outputs h0_course_losses h0_rows h0_rows_e h0_rows_e_places h0_kept h0_ways h0_spread h0_changes h0_tape h0_bodies h0_causes x1 s0__hasImage s0__hasCauses s0__stepsDone s0_filter__all s0_filter__v s0_filter__loss s0_filter__result s0_filter__over s0_filter__heldAll s0_filter__heldRounded s0_filter_numbers s0_filter_words s0_trial__all s0_trial__v s0_trial__loss s0_trial__result s0_trial__over s0_trial__heldAll s0_trial__heldRounded s0_trial_numbers s0_trial_words s0_course__length s0_course__overs s0_course__halted s0_course__haltedBy s0_course_outputs s0_course_losses s0_rows_e__sort s0_rows_e__size s0_rows_e_places o4 o5 o6 o7 o8 o9 o10 o11 o12 o13 o14 o15 o16 o17 o18 hq H.size) (cwV 1 hts gX8_noise_X8_followInThought rfl rfl rfl (by decide +kernel) ⟨Nat.le_of_ble_eq_true rfl, Nat.le_of_ble_eq_true rfl⟩) (pre_V (ci := 8) (q0 := 0) (is := [0, 1, 2, 3, 4, 5, 6, 7, 8, 9, 10, 11, 12, 13, 14, 15, 16, 17, 18]) rfl rfl hP hD hS hA hK hZ (by decide +kernel) (by rfl)) rfl rfl hl.1 rfl (by exact lv_room (Nat.le_of_ble_eq_true rfl)) dX8_noise_28 ⟨Nat.le_refl _, Nat.le_refl _⟩) hP hD hS hA (by decide +kernel) (by rfl) (by rfl) rfl (fun H locs hP hD hS => ?_)
    obtain ⟨hP, hD⟩ : va_P G vwCl (wm_X8_followInThought cA h0 h0_filter h0_filter_numbers h0_filter_words h0_trial h0_trial_numbers h0_trial_words h0_course h0_course_outputs h0_course_losses h0_rows h0_rows_e h0_rows_e_places h0_kept h0_ways h0_spread h0_changes h0_tape h0_bodies h0_causes s0__hasImage s0__hasCauses s0__stepsDone s0_filter__all s0_filter__v s0_filter__loss s0_filter__result s0_filter__over s0_filter__heldAll s0_filter__heldRounded s0_filter_numbers s0_filter_words o4 o5 o6 o7 o8 o9 o10 o11 o12 o13 o14 o15 o16 o17 o18 s0_rows_e__sort s0_rows_e__size s0_rows_e_places) H ∧ va_D A (wm_X8_followInThought cA h0 h0_filter h0_filter_numbers h0_filter_words h0_trial h0_trial_numbers h0_trial_words h0_course h0_course_outputs h0_course_losses h0_rows h0_rows_e h0_rows_e_places h0_kept h0_ways h0_spread h0_changes h0_tape h0_bodies h0_causes s0__hasImage s0__hasCauses s0__stepsDone s0_filter__all s0_filter__v s0_filter__loss s0_filter__result s0_filter__over s0_filter__heldAll s0_filter__heldRounded s0_filter_numbers s0_filter_words o4 o5 o6 o7 o8 o9 o10 o11 o12 o13 o14 o15 o16 o17 o18 s0_rows_e__sort s0_rows_e__size s0_rows_e_places) := PD_eq hP hD (rp_eq (js := []) 19 (by decide +kernel) rfl rfl (by rfl) (by rfl) (by decide +kernel))
    refine lv_aload_n hx hb dX8_noise_31 rfl (lv_at hl 0 rfl) ?_
    refine va_get (ci := 8) (v := .ref h0_course) (C := RX8) (T := TX8) (N := 14) hx hb hts hinX8 hown hK hP 0 rfl rfl 6 (by decide) (hts _ (List.mem_of_getElem? (i := 2) rfl)) (fun _ h9 => h9) rfl dX8_noise_32 ?_
    obtain ⟨r19, hq, hok⟩ := g_bnd1 hok
    refine cG (is := [7, 9]) (wc := (wm_X2_lossesTogether cA h0_course h0_course_losses h0_course_outputs o13 o14 o15 o16 o18)) (w1 := (wm_X2_lossesTogether cA h0_course h0_course_losses h0_course_outputs o13 o14 o15 o16 o18)) (rv := (some (.int r19))) (st1 := [.int r19]) (va_runV (Ts := wsX8_noise) (As := []) (rest := []) ⟨hx, hb, hml, hown, hts⟩ (c_X2_lossesTogether l G cA ts h0_course h0_course_losses h0_course_outputs o13 o14 o15 o16 o18 r19 hq H.size) (cwV 0 hts gX8_noise_X2_lossesTogether rfl rfl rfl (by decide +kernel) ⟨Nat.le_of_ble_eq_true rfl, Nat.le_of_ble_eq_true rfl⟩) (pre_V (ci := 2) (q0 := 7) (is := [7, 9]) rfl rfl hP hD hS hA hK hZ (by decide +kernel) (by rfl)) rfl rfl hl.1 rfl (by exact lv_room (Nat.le_of_ble_eq_true rfl)) dX8_noise_35 ⟨Nat.le_refl _, Nat.le_refl _⟩) hP hD hS hA (by decide +kernel) (by rfl) (by rfl) rfl (fun H locs hP hD hS => ?_)
    have hP : va_P G vwCl (wm_X8_followInThought cA h0 h0_filter h0_filter_numbers h0_filter_words h0_trial h0_trial_numbers h0_trial_words h0_course h0_course_outputs h0_course_losses h0_rows h0_rows_e h0_rows_e_places h0_kept h0_ways h0_spread h0_changes h0_tape h0_bodies h0_causes s0__hasImage s0__hasCauses s0__stepsDone s0_filter__all s0_filter__v s0_filter__loss s0_filter__result s0_filter__over s0_filter__heldAll s0_filter__heldRounded s0_filter_numbers s0_filter_words o4 o5 o6 o7 o8 o9 o10 o11 o12 o13 o14 o15 o16 o17 o18 s0_rows_e__sort s0_rows_e__size s0_rows_e_places) H := hP
    have hD : va_D A (wm_X8_followInThought cA h0 h0_filter h0_filter_numbers h0_filter_words h0_trial h0_trial_numbers h0_trial_words h0_course h0_course_outputs h0_course_losses h0_rows h0_rows_e h0_rows_e_places h0_kept h0_ways h0_spread h0_changes h0_tape h0_bodies h0_causes s0__hasImage s0__hasCauses s0__stepsDone s0_filter__all s0_filter__v s0_filter__loss s0_filter__result s0_filter__over s0_filter__heldAll s0_filter__heldRounded s0_filter_numbers s0_filter_words o4 o5 o6 o7 o8 o9 o10 o11 o12 o13 o14 o15 o16 o17 o18 s0_rows_e__sort s0_rows_e__size s0_rows_e_places) := hD
    refine lv_i2l (v := (r19.toInt64)) hx hb dX8_noise_38 rfl ?_
    refine lv_aload_n hx hb dX8_noise_39 rfl (lv_at hl 0 rfl) ?_
    refine va_get (ci := 8) (v := .ref h0_filter) (C := RX8) (T := TX8) (N := 14) hx hb hts hinX8 hown hK hP 0 rfl rfl 0 (by decide) (hts _ (List.mem_of_getElem? (i := 3) rfl)) (fun _ h9 => h9) rfl dX8_noise_40 ?_
    obtain ⟨r20, hq, hok⟩ := g_bnd1 hok
    refine cG (is := [1, 2]) (wc := (wm_X3_unit cA h0_filter h0_filter_numbers h0_filter_words s0_filter__all s0_filter__v s0_filter__loss s0_filter__result s0_filter__over s0_filter__heldAll s0_filter__heldRounded s0_filter_numbers)) (w1 := (wm_X3_unit cA h0_filter h0_filter_numbers h0_filter_words s0_filter__all s0_filter__v s0_filter__loss s0_filter__result s0_filter__over s0_filter__heldAll s0_filter__heldRounded s0_filter_numbers)) (rv := (some (.int r20))) (st1 := [.int r20, .long (r19.toInt64)]) (va_runV (Ts := wsX8_noise) (As := []) (rest := [.long (r19.toInt64)]) ⟨hx, hb, hml, hown, hts⟩ (c_X3_unit l G cA ts h0_filter h0_filter_numbers h0_filter_words s0_filter__all s0_filter__v s0_filter__loss s0_filter__result s0_filter__over s0_filter__heldAll s0_filter__heldRounded s0_filter_numbers r20 hq H.size) (cwV 0 hts gX8_noise_X3_unit rfl rfl rfl (by decide +kernel) ⟨Nat.le_of_ble_eq_true rfl, Nat.le_of_ble_eq_true rfl⟩) (pre_V (ci := 3) (q0 := 1) (is := [1, 2]) rfl rfl hP hD hS hA hK hZ (by decide +kernel) (by rfl)) rfl rfl hl.1 rfl (by exact lv_room (Nat.le_of_ble_eq_true rfl)) dX8_noise_43 ⟨Nat.le_refl _, Nat.le_refl _⟩) hP hD hS hA (by decide +kernel) (by rfl) (by rfl) rfl (fun H locs hP hD hS => ?_)
    have hP : va_P G vwCl (wm_X8_followInThought cA h0 h0_filter h0_filter_numbers h0_filter_words h0_trial h0_trial_numbers h0_trial_words h0_course h0_course_outputs h0_course_losses h0_rows h0_rows_e h0_rows_e_places h0_kept h0_ways h0_spread h0_changes h0_tape h0_bodies h0_causes s0__hasImage s0__hasCauses s0__stepsDone s0_filter__all s0_filter__v s0_filter__loss s0_filter__result s0_filter__over s0_filter__heldAll s0_filter__heldRounded s0_filter_numbers s0_filter_words o4 o5 o6 o7 o8 o9 o10 o11 o12 o13 o14 o15 o16 o17 o18 s0_rows_e__sort s0_rows_e__size s0_rows_e_places) H := hP
    have hD : va_D A (wm_X8_followInThought cA h0 h0_filter h0_filter_numbers h0_filter_words h0_trial h0_trial_numbers h0_trial_words h0_course h0_course_outputs h0_course_losses h0_rows h0_rows_e h0_rows_e_places h0_kept h0_ways h0_spread h0_changes h0_tape h0_bodies h0_causes s0__hasImage s0__hasCauses s0__stepsDone s0_filter__all s0_filter__v s0_filter__loss s0_filter__result s0_filter__over s0_filter__heldAll s0_filter__heldRounded s0_filter_numbers s0_filter_words o4 o5 o6 o7 o8 o9 o10 o11 o12 o13 o14 o15 o16 o17 o18 s0_rows_e__sort s0_rows_e__size s0_rows_e_places) := hD
    refine lv_i2l (v := (r20.toInt64)) hx hb dX8_noise_46 rfl ?_
    refine lv_iload_n hx hb dX8_noise_47 rfl (lv_at hl 2 rfl) ?_
    obtain ⟨r21, hq, hok⟩ := g_bnd1 hok
    refine cG (is := []) (wc := (wm_X0_find cA)) (w1 := (wm_X0_find cA)) (rv := (some (.long r21))) (st1 := [.long r21]) (va_runS (Ts := wsX8_noise) (As := [.long (r19.toInt64), .long (r20.toInt64), .int x2]) (rest := []) ⟨hx, hb, hml, hown, hts⟩ (c_X8_inLowestTerms l G cA ts (r19.toInt64) (r20.toInt64) x2 r21 hq H.size) (va_cwS 3 hts gX8_noise_X8_inLowestTerms rfl rfl rfl (by decide +kernel) ⟨Nat.le_of_ble_eq_true rfl, Nat.le_of_ble_eq_true rfl⟩) (pre_S (is := []) hP hD hS hA hK hZ (by decide +kernel) (by rfl)) rfl rfl hl.1 rfl (by exact lv_room (Nat.le_of_ble_eq_true rfl)) dX8_noise_48 ⟨Nat.le_refl _, Nat.le_refl _⟩) hP hD hS hA (by decide +kernel) (by rfl) (by rfl) rfl (fun H locs hP hD hS => ?_)
    have hP : va_P G vwCl (wm_X8_followInThought cA h0 h0_filter h0_filter_numbers h0_filter_words h0_trial h0_trial_numbers h0_trial_words h0_course h0_course_outputs h0_course_losses h0_rows h0_rows_e h0_rows_e_places h0_kept h0_ways h0_spread h0_changes h0_tape h0_bodies h0_causes s0__hasImage s0__hasCauses s0__stepsDone s0_filter__all s0_filter__v s0_filter__loss s0_filter__result s0_filter__over s0_filter__heldAll s0_filter__heldRounded s0_filter_numbers s0_filter_words o4 o5 o6 o7 o8 o9 o10 o11 o12 o13 o14 o15 o16 o17 o18 s0_rows_e__sort s0_rows_e__size s0_rows_e_places) H := hP
    have hD : va_D A (wm_X8_followInThought cA h0 h0_filter h0_filter_numbers h0_filter_words h0_trial h0_trial_numbers h0_trial_words h0_course h0_course_outputs h0_course_losses h0_rows h0_rows_e h0_rows_e_places h0_kept h0_ways h0_spread h0_changes h0_tape h0_bodies h0_causes s0__hasImage s0__hasCauses s0__stepsDone s0_filter__all s0_filter__v s0_filter__loss s0_filter__result s0_filter__over s0_filter__heldAll s0_filter__heldRounded s0_filter_numbers s0_filter_words o4 o5 o6 o7 o8 o9 o10 o11 o12 o13 o14 o15 o16 o17 o18 s0_rows_e__sort s0_rows_e__size s0_rows_e_places) := hD
    obtain ⟨e, hok⟩ := g_pr hok
    try subst e
    obtain ⟨e, hok⟩ := g_pr hok
    try subst e
    obtain ⟨e, hok⟩ := g_pr hok
    try subst e
    obtain ⟨e, hok⟩ := g_pr hok
    try subst e
    obtain ⟨e, hok⟩ := g_pr hok
    try subst e
    obtain ⟨e, hok⟩ := g_pr hok
    try subst e
    obtain ⟨e, hok⟩ := g_pr hok
    try subst e
    obtain ⟨e, hok⟩ := g_pr hok
    try subst e
    obtain ⟨e, hok⟩ := g_pr hok
    try subst e
    obtain ⟨e, hok⟩ := g_pr hok
    try subst e
    obtain ⟨e, hok⟩ := g_pr hok
    try subst e
    obtain ⟨e, hok⟩ := g_pr hok
    try subst e
    obtain ⟨e, hok⟩ := g_pr hok
    try subst e
    obtain ⟨e, hok⟩ := g_pr hok
    try subst e
    obtain ⟨e, hok⟩ := g_pr hok
    try subst e
    cases hok
    exact cr_l hx hb hr hlocks hQ dX8_noise_51 hP hS
  replace hok := g_neg hok c
  refine lv_ldc2 (v := -9223372036854775808) hx hb hown (hts _ (List.mem_of_getElem? (i := 1) rfl)) dX8_noise_22 ?_
  obtain ⟨e, hok⟩ := g_pr hok
  try subst e
  obtain ⟨e, hok⟩ := g_pr hok
  try subst e
  obtain ⟨e, hok⟩ := g_pr hok
  try subst e
  obtain ⟨e, hok⟩ := g_pr hok
  try subst e
  obtain ⟨e, hok⟩ := g_pr hok
  try subst e
  obtain ⟨e, hok⟩ := g_pr hok
  try subst e
  obtain ⟨e, hok⟩ := g_pr hok
  try subst e
  obtain ⟨e, hok⟩ := g_pr hok
  try subst e
  obtain ⟨e, hok⟩ := g_pr hok
  try subst e
  obtain ⟨e, hok⟩ := g_pr hok
  try subst e
  obtain ⟨e, hok⟩ := g_pr hok
  try subst e
  obtain ⟨e, hok⟩ := g_pr hok
  try subst e
  obtain ⟨e, hok⟩ := g_pr hok
  try subst e
  obtain ⟨e, hok⟩ := g_pr hok
  try subst e
  obtain ⟨e, hok⟩ := g_pr hok
  try subst e
  cases hok
  exact cr_l hx hb hr hlocks hQ dX8_noise_25 hP hS
set_option maxHeartbeats 40000000 in
set_option maxRecDepth 100000 in
theorem c_X8_levels (l : Launch) (G : va_G) (cA : Nat → ClassId) (ts : Nat → Nat) (h0 : Nat) (h0_filter : Nat) (h0_filter_numbers : Nat) (h0_filter_words : Nat) (h0_trial : Nat) (h0_trial_numbers : Nat) (h0_trial_words : Nat) (h0_course : Nat) (h0_course_outputs : Nat) (h0_course_losses : Nat) (h0_rows : Nat) (h0_rows_e : Nat → Nat) (h0_rows_e_places : Nat → Nat) (h0_kept : Nat) (h0_ways : Nat) (h0_spread : Nat) (h0_changes : Nat) (h0_tape : Nat) (h0_bodies : Nat) (h0_causes : Nat) (x1 : Int32) (s0__hasImage : Int32) (s0__hasCauses : Int32) (s0__stepsDone : Int32) (s0_filter__all : Int32) (s0_filter__v : Int32) (s0_filter__loss : Int32) (s0_filter__result : Int32) (s0_filter__over : Int32) (s0_filter__heldAll : Int32) (s0_filter__heldRounded : Int32) (s0_filter_numbers : Nat → Int32) (s0_filter_words : Nat → Int32) (s0_trial__all : Int32) (s0_trial__v : Int32) (s0_trial__loss : Int32) (s0_trial__result : Int32) (s0_trial__over : Int32) (s0_trial__heldAll : Int32) (s0_trial__heldRounded : Int32) (s0_trial_numbers : Nat → Int32) (s0_trial_words : Nat → Int32) (s0_course__length : Int32) (s0_course__overs : Int32) (s0_course__halted : Int32) (s0_course__haltedBy : Int32) (s0_course_outputs : Nat → Int32) (s0_course_losses : Nat → Int32) (s0_rows_e__sort : Nat → Int32) (s0_rows_e__size : Nat → Int32) (s0_rows_e_places : Nat → Nat → Int64) (r : Int32) (o0_trial__all : Int32) (o0_trial__v : Int32) (o0_trial__loss : Int32) (o0_trial__result : Int32) (o0_trial__over : Int32) (o0_trial__heldAll : Int32) (o0_trial__heldRounded : Int32) (o0_trial_numbers : Nat → Int32) (o0_trial_words : Nat → Int32) (o0_course__length : Int32) (o0_course__overs : Int32) (o0_course__halted : Int32) (o0_course__haltedBy : Int32) (o0_course_outputs : Nat → Int32) (o0_course_losses : Nat → Int32) (hok : fX8_levels x1 s0_filter_numbers s0_filter_words s0_trial__all s0_trial__v s0_trial__loss s0_trial__result s0_trial__over s0_trial__heldAll s0_trial__heldRounded s0_trial_numbers s0_trial_words s0_course__length s0_course__overs s0_course__halted s0_course__haltedBy s0_course_outputs s0_course_losses s0_rows_e__sort s0_rows_e__size s0_rows_e_places = some (r, o0_trial__all, o0_trial__v, o0_trial__loss, o0_trial__result, o0_trial__over, o0_trial__heldAll, o0_trial__heldRounded, o0_trial_numbers, o0_trial_words, o0_course__length, o0_course__overs, o0_course__halted, o0_course__haltedBy, o0_course_outputs, o0_course_losses)) : Ct l G cA ts yX8_levels wsX8_levels 7 170 [.ref h0, .int x1] (wm_X8_followInThought cA h0 h0_filter h0_filter_numbers h0_filter_words h0_trial h0_trial_numbers h0_trial_words h0_course h0_course_outputs h0_course_losses h0_rows h0_rows_e h0_rows_e_places h0_kept h0_ways h0_spread h0_changes h0_tape h0_bodies h0_causes s0__hasImage s0__hasCauses s0__stepsDone s0_filter__all s0_filter__v s0_filter__loss s0_filter__result s0_filter__over s0_filter__heldAll s0_filter__heldRounded s0_filter_numbers s0_filter_words s0_trial__all s0_trial__v s0_trial__loss s0_trial__result s0_trial__over s0_trial__heldAll s0_trial__heldRounded s0_trial_numbers s0_trial_words s0_course__length s0_course__overs s0_course__halted s0_course__haltedBy s0_course_outputs s0_course_losses s0_rows_e__sort s0_rows_e__size s0_rows_e_places) (wm_X8_followInThought cA h0 h0_filter h0_filter_numbers h0_filter_words h0_trial h0_trial_numbers h0_trial_words h0_course h0_course_outputs h0_course_losses h0_rows h0_rows_e h0_rows_e_places h0_kept h0_ways h0_spread h0_changes h0_tape h0_bodies h0_causes s0__hasImage s0__hasCauses s0__stepsDone s0_filter__all s0_filter__v s0_filter__loss s0_filter__result s0_filter__over s0_filter__heldAll s0_filter__heldRounded s0_filter_numbers s0_filter_words o0_trial__all o0_trial__v o0_trial__loss o0_trial__result o0_trial__over o0_trial__heldAll o0_trial__heldRounded o0_trial_numbers o0_trial_words o0_course__length o0_course__overs o0_course__halted o0_course__haltedBy o0_course_outputs o0_course_losses s0_rows_e__sort s0_rows_e__size s0_rows_e_places) (some (.int r)) := by
  refine Ct.intro (cc := cX8_levels) (maxL := 2) (ret := some .int) (by decide +kernel) rfl (Nat.le_of_ble_eq_true rfl) ?_
  intro p e s m ar below meth c A Q hx hb hr hml hown hlocks hts hK hZ hA hQ hP hD hS ls hl
  have hown : s.vm.findClass RX8 = some m.cls := hown
  have hinX8 : ∀ w ∈ wsX80, w ∈ wsX8_levels := fun _ h => List.mem_cons_of_mem _ (List.mem_append_left _ (List.mem_append_left _ (List.mem_append_left _ (List.mem_append_right _ (h)))))
  have hl : lv_has ls 2 [(0, .ref h0), (1, .int x1)] := hl
  have hP : va_P G vwCl (wm_X8_followInThought cA h0 h0_filter h0_filter_numbers h0_filter_words h0_trial h0_trial_numbers h0_trial_words h0_course h0_course_outputs h0_course_losses h0_rows h0_rows_e h0_rows_e_places h0_kept h0_ways h0_spread h0_changes h0_tape h0_bodies h0_causes s0__hasImage s0__hasCauses s0__stepsDone s0_filter__all s0_filter__v s0_filter__loss s0_filter__result s0_filter__over s0_filter__heldAll s0_filter__heldRounded s0_filter_numbers s0_filter_words s0_trial__all s0_trial__v s0_trial__loss s0_trial__result s0_trial__over s0_trial__heldAll s0_trial__heldRounded s0_trial_numbers s0_trial_words s0_course__length s0_course__overs s0_course__halted s0_course__haltedBy s0_course_outputs s0_course_losses s0_rows_e__sort s0_rows_e__size s0_rows_e_places) s.heap := hP
  have hD : va_D A (wm_X8_followInThought cA h0 h0_filter h0_filter_numbers h0_filter_words h0_trial h0_trial_numbers h0_trial_words h0_course h0_course_outputs h0_course_losses h0_rows h0_rows_e h0_rows_e_places h0_kept h0_ways h0_spread h0_changes h0_tape h0_bodies h0_causes s0__hasImage s0__hasCauses s0__stepsDone s0_filter__all s0_filter__v s0_filter__loss s0_filter__result s0_filter__over s0_filter__heldAll s0_filter__heldRounded s0_filter_numbers s0_filter_words s0_trial__all s0_trial__v s0_trial__loss s0_trial__result s0_trial__over s0_trial__heldAll s0_trial__heldRounded s0_trial_numbers s0_trial_words s0_course__length s0_course__overs s0_course__halted s0_course__haltedBy s0_course_outputs s0_course_losses s0_rows_e__sort s0_rows_e__size s0_rows_e_places) := hD
  unfold fX8_levels at hok
  refine lv_iload_n hx hb dX8_levels_0 rfl (lv_at hl 1 rfl) ?_
  obtain ⟨r1, hq, hok⟩ := g_bnd1 hok
  refine cG (is := []) (wc := (wm_X0_find cA)) (w1 := (wm_X0_find cA)) (rv := (some (.int r1))) (st1 := [.int r1]) (va_runS (Ts := wsX8_levels) (As := [.int x1]) (rest := []) ⟨hx, hb, hml, hown, hts⟩ (c_X8_isRow l G cA ts x1 r1 hq s.heap.size) (va_cwS 1 hts gX8_levels_X8_isRow rfl rfl rfl (by decide +kernel) ⟨Nat.le_of_ble_eq_true rfl, Nat.le_of_ble_eq_true rfl⟩) (pre_S (is := []) hP hD hS hA hK hZ (by decide +kernel) (by rfl)) rfl rfl hl.1 rfl (by exact lv_room (Nat.le_of_ble_eq_true rfl)) dX8_levels_1 ⟨Nat.le_refl _, Nat.le_refl _⟩) hP hD hS hA (by decide +kernel) (by rfl) (by rfl) rfl (fun H locs hP hD hS => ?_)
  have hP : va_P G vwCl (wm_X8_followInThought cA h0 h0_filter h0_filter_numbers h0_filter_words h0_trial h0_trial_numbers h0_trial_words h0_course h0_course_outputs h0_course_losses h0_rows h0_rows_e h0_rows_e_places h0_kept h0_ways h0_spread h0_changes h0_tape h0_bodies h0_causes s0__hasImage s0__hasCauses s0__stepsDone s0_filter__all s0_filter__v s0_filter__loss s0_filter__result s0_filter__over s0_filter__heldAll s0_filter__heldRounded s0_filter_numbers s0_filter_words s0_trial__all s0_trial__v s0_trial__loss s0_trial__result s0_trial__over s0_trial__heldAll s0_trial__heldRounded s0_trial_numbers s0_trial_words s0_course__length s0_course__overs s0_course__halted s0_course__haltedBy s0_course_outputs s0_course_losses s0_rows_e__sort s0_rows_e__size s0_rows_e_places) H := hP
  have hD : va_D A (wm_X8_followInThought cA h0 h0_filter h0_filter_numbers h0_filter_words h0_trial h0_trial_numbers h0_trial_words h0_course h0_course_outputs h0_course_losses h0_rows h0_rows_e h0_rows_e_places h0_kept h0_ways h0_spread h0_changes h0_tape h0_bodies h0_causes s0__hasImage s0__hasCauses s0__stepsDone s0_filter__all s0_filter__v s0_filter__loss s0_filter__result s0_filter__over s0_filter__heldAll s0_filter__heldRounded s0_filter_numbers s0_filter_words s0_trial__all s0_trial__v s0_trial__loss s0_trial__result s0_trial__over s0_trial__heldAll s0_trial__heldRounded s0_trial_numbers s0_trial_words s0_course__length s0_course__overs s0_course__halted s0_course__haltedBy s0_course_outputs s0_course_losses s0_rows_e__sort s0_rows_e__size s0_rows_e_places) := hD
  refine lv_if_ne (tgt := 9) hx hb dX8_levels_4 (by decide) (fun c => ?_) (fun c => ?_)
  · replace hok := g_neg hok c
    refine lv_aload_n hx hb dX8_levels_9 rfl (lv_at hl 0 rfl) ?_
    refine lv_iload_n hx hb dX8_levels_10 rfl (lv_at hl 1 rfl) ?_
    obtain ⟨r2, hq, hok⟩ := g_bnd1 hok
    refine cG (is := [0, 10, 11, 13, 15, 17]) (wc := (wm_X8_isMissing cA h0 h0_rows h0_rows_e h0_filter h0_trial h0_kept h0_ways h0_spread h0_course h0_changes h0_tape h0_bodies h0_causes h0_rows_e_places s0__hasImage s0__hasCauses s0__stepsDone s0_rows_e__sort s0_rows_e__size)) (w1 := (wm_X8_isMissing cA h0 h0_rows h0_rows_e h0_filter h0_trial h0_kept h0_ways h0_spread h0_course h0_changes h0_tape h0_bodies h0_causes h0_rows_e_places s0__hasImage s0__hasCauses s0__stepsDone s0_rows_e__sort s0_rows_e__size)) (rv := (some (.int r2))) (st1 := [.int r2]) (va_runV (Ts := wsX8_levels) (As := [.int x1]) (rest := []) ⟨hx, hb, hml, hown, hts⟩ (c_X8_isMissing l G cA ts h0 h0_rows h0_rows_e h0_filter h0_trial h0_kept h0_ways h0_spread h0_course h0_changes h0_tape h0_bodies h0_causes h0_rows_e_places x1 s0__hasImage s0__hasCauses s0__stepsDone s0_rows_e__sort s0_rows_e__size r2 hq H.size) (cwV 1 hts gX8_levels_X8_isMissing rfl rfl rfl (by decide +kernel) ⟨Nat.le_of_ble_eq_true rfl, Nat.le_of_ble_eq_true rfl⟩) (pre_V (ci := 8) (q0 := 0) (is := [0, 10, 11, 13, 15, 17]) rfl rfl hP hD hS hA hK hZ (by decide +kernel) (by rfl)) rfl rfl hl.1 rfl (by exact lv_room (Nat.le_of_ble_eq_true rfl)) dX8_levels_11 ⟨Nat.le_refl _, Nat.le_refl _⟩) hP hD hS hA (by decide +kernel) (by rfl) (by rfl) rfl (fun H locs hP hD hS => ?_)
    have hP : va_P G vwCl (wm_X8_followInThought cA h0 h0_filter h0_filter_numbers h0_filter_words h0_trial h0_trial_numbers h0_trial_words h0_course h0_course_outputs h0_course_losses h0_rows h0_rows_e h0_rows_e_places h0_kept h0_ways h0_spread h0_changes h0_tape h0_bodies h0_causes s0__hasImage s0__hasCauses s0__stepsDone s0_filter__all s0_filter__v s0_filter__loss s0_filter__result s0_filter__over s0_filter__heldAll s0_filter__heldRounded s0_filter_numbers s0_filter_words s0_trial__all s0_trial__v s0_trial__loss s0_trial__result s0_trial__over s0_trial__heldAll s0_trial__heldRounded s0_trial_numbers s0_trial_words s0_course__length s0_course__overs s0_course__halted s0_course__haltedBy s0_course_outputs s0_course_losses s0_rows_e__sort s0_rows_e__size s0_rows_e_places) H := hP
    have hD : va_D A (wm_X8_followInThought cA h0 h0_filter h0_filter_numbers h0_filter_words h0_trial h0_trial_numbers h0_trial_words h0_course h0_course_outputs h0_course_losses h0_rows h0_rows_e h0_rows_e_places h0_kept h0_ways h0_spread h0_changes h0_tape h0_bodies h0_causes s0__hasImage s0__hasCauses s0__stepsDone s0_filter__all s0_filter__v s0_filter__loss s0_filter__result s0_filter__over s0_filter__heldAll s0_filter__heldRounded s0_filter_numbers s0_filter_words s0_trial__all s0_trial__v s0_trial__loss s0_trial__result s0_trial__over s0_trial__heldAll s0_trial__heldRounded s0_trial_numbers s0_trial_words s0_course__length s0_course__overs s0_course__halted s0_course__haltedBy s0_course_outputs s0_course_losses s0_rows_e__sort s0_rows_e__size s0_rows_e_places) := hD
    refine lv_if_eq (tgt := 20) hx hb dX8_levels_14 (by decide) (fun c => ?_) (fun c => ?_)
    · replace hok := g_pos hok c
      refine lv_aload_n hx hb dX8_levels_20 rfl (lv_at hl 0 rfl) ?_
      refine lv_iload_n hx hb dX8_levels_21 rfl (lv_at hl 1 rfl) ?_
      obtain ⟨o3, o4, o5, o6, o7, o8, o9, o10, o11, o12, o13, o14, o15, o16, o17, hq, hok⟩ := g_bnd15 hok
      refine cG (is := [0, 1, 2, 3, 4, 5, 6, 7, 8, 9, 10, 11, 12, 13, 14, 15, 16, 17, 18]) (wc := (wm_X8_followInThought cA h0 h0_filter h0_filter_numbers h0_filter_words h0_trial h0_trial_numbers h0_trial_words h0_course h0_course_outputs h0_course_losses h0_rows h0_rows_e h0_rows_e_places h0_kept h0_ways h0_spread h0_changes h0_tape h0_bodies h0_causes s0__hasImage s0__hasCauses s0__stepsDone s0_filter__all s0_filter__v s0_filter__loss s0_filter__result s0_filter__over s0_filter__heldAll s0_filter__heldRounded s0_filter_numbers s0_filter_words s0_trial__all s0_trial__v s0_trial__loss s0_trial__result s0_trial__over s0_trial__heldAll s0_trial__heldRounded s0_trial_numbers s0_trial_words s0_course__length s0_course__overs s0_course__halted s0_course__haltedBy s0_course_outputs s0_course_losses s0_rows_e__sort s0_rows_e__size s0_rows_e_places)) (w1 := (wm_X8_followInThought cA h0 h0_filter h0_filter_numbers h0_filter_words h0_trial h0_trial_numbers h0_trial_words h0_course h0_course_outputs h0_course_losses h0_rows h0_rows_e h0_rows_e_places h0_kept h0_ways h0_spread h0_changes h0_tape h0_bodies h0_causes s0__hasImage s0__hasCauses s0__stepsDone s0_filter__all s0_filter__v s0_filter__loss s0_filter__result s0_filter__over s0_filter__heldAll s0_filter__heldRounded s0_filter_numbers s0_filter_words o3 o4 o5 o6 o7 o8 o9 o10 o11 o12 o13 o14 o15 o16 o17 s0_rows_e__sort s0_rows_e__size s0_rows_e_places)) (rv := none) (st1 := []) (va_runV (Ts := wsX8_levels) (As := [.int x1]) (rest := []) ⟨hx, hb, hml, hown, hts⟩ (c_X8_followInThought l G cA ts h0 h0_filter h0_filter_numbers h0_filter_words h0_trial h0_trial_numbers h0_trial_words h0_course h0_course_outputs h0_course_losses h0_rows h0_rows_e h0_rows_e_places h0_kept h0_ways h0_spread h0_changes h0_tape h0_bodies h0_causes x1 s0__hasImage s0__hasCauses s0__stepsDone s0_filter__all s0_filter__v s0_filter__loss s0_filter__result s0_filter__over s0_filter__heldAll s0_filter__heldRounded s0_filter_numbers s0_filter_words s0_trial__all s0_trial__v s0_trial__loss s0_trial__result s0_trial__over s0_trial__heldAll s0_trial__heldRounded s0_trial_numbers s0_trial_words s0_course__length s0_course__overs s0_course__halted s0_course__haltedBy s0_course_outputs s0_course_losses s0_rows_e__sort s0_rows_e__size s0_rows_e_places o3 o4 o5 o6 o7 o8 o9 o10 o11 o12 o13 o14 o15 o16 o17 hq H.size) (cwV 1 hts gX8_levels_X8_followInThought rfl rfl rfl (by decide +kernel) ⟨Nat.le_of_ble_eq_true rfl, Nat.le_of_ble_eq_true rfl⟩) (pre_V (ci := 8) (q0 := 0) (is := [0, 1, 2, 3, 4, 5, 6, 7, 8, 9, 10, 11, 12, 13, 14, 15, 16, 17, 18]) rfl rfl hP hD hS hA hK hZ (by decide +kernel) (by rfl)) rfl rfl hl.1 rfl (by exact lv_room (Nat.le_of_ble_eq_true rfl)) dX8_levels_22 ⟨Nat.le_refl _, Nat.le_refl _⟩) hP hD hS hA (by decide +kernel) (by rfl) (by rfl) rfl (fun H locs hP hD hS => ?_)
      obtain ⟨hP, hD⟩ : va_P G vwCl (wm_X8_followInThought cA h0 h0_filter h0_filter_numbers h0_filter_words h0_trial h0_trial_numbers h0_trial_words h0_course h0_course_outputs h0_course_losses h0_rows h0_rows_e h0_rows_e_places h0_kept h0_ways h0_spread h0_changes h0_tape h0_bodies h0_causes s0__hasImage s0__hasCauses s0__stepsDone s0_filter__all s0_filter__v s0_filter__loss s0_filter__result s0_filter__over s0_filter__heldAll s0_filter__heldRounded s0_filter_numbers s0_filter_words o3 o4 o5 o6 o7 o8 o9 o10 o11 o12 o13 o14 o15 o16 o17 s0_rows_e__sort s0_rows_e__size s0_rows_e_places) H ∧ va_D A (wm_X8_followInThought cA h0 h0_filter h0_filter_numbers h0_filter_words h0_trial h0_trial_numbers h0_trial_words h0_course h0_course_outputs h0_course_losses h0_rows h0_rows_e h0_rows_e_places h0_kept h0_ways h0_spread h0_changes h0_tape h0_bodies h0_causes s0__hasImage s0__hasCauses s0__stepsDone s0_filter__all s0_filter__v s0_filter__loss s0_filter__result s0_filter__over s0_filter__heldAll s0_filter__heldRounded s0_filter_numbers s0_filter_words o3 o4 o5 o6 o7 o8 o9 o10 o11 o12 o13 o14 o15 o16 o17 s0_rows_e__sort s0_rows_e__size s0_rows_e_places) := PD_eq hP hD (rp_eq (js := []) 19 (by decide +kernel) rfl rfl (by rfl) (by rfl) (by decide +kernel))
      refine lv_aload_n hx hb dX8_levels_25 rfl (lv_at hl 0 rfl) ?_
      refine va_get (ci := 8) (v := .ref h0_course) (C := RX8) (T := TX8) (N := 14) hx hb hts hinX8 hown hK hP 0 rfl rfl 6 (by decide) (hts _ (List.mem_of_getElem? (i := 1) rfl)) (fun _ h9 => h9) rfl dX8_levels_26 ?_
      obtain ⟨r18, hq, hok⟩ := g_bnd1 hok
      refine cG (is := [7, 9]) (wc := (wm_X2_lossesTogether cA h0_course h0_course_losses h0_course_outputs o12 o13 o14 o15 o17)) (w1 := (wm_X2_lossesTogether cA h0_course h0_course_losses h0_course_outputs o12 o13 o14 o15 o17)) (rv := (some (.int r18))) (st1 := [.int r18]) (va_runV (Ts := wsX8_levels) (As := []) (rest := []) ⟨hx, hb, hml, hown, hts⟩ (c_X2_howManyLevels l G cA ts h0_course h0_course_losses h0_course_outputs o12 o13 o14 o15 o17 r18 hq H.size) (cwV 0 hts gX8_levels_X2_howManyLevels rfl rfl rfl (by decide +kernel) ⟨Nat.le_of_ble_eq_true rfl, Nat.le_of_ble_eq_true rfl⟩) (pre_V (ci := 2) (q0 := 7) (is := [7, 9]) rfl rfl hP hD hS hA hK hZ (by decide +kernel) (by rfl)) rfl rfl hl.1 rfl (by exact lv_room (Nat.le_of_ble_eq_true rfl)) dX8_levels_29 ⟨Nat.le_refl _, Nat.le_refl _⟩) hP hD hS hA (by decide +kernel) (by rfl) (by rfl) rfl (fun H locs hP hD hS => ?_)
      have hP : va_P G vwCl (wm_X8_followInThought cA h0 h0_filter h0_filter_numbers h0_filter_words h0_trial h0_trial_numbers h0_trial_words h0_course h0_course_outputs h0_course_losses h0_rows h0_rows_e h0_rows_e_places h0_kept h0_ways h0_spread h0_changes h0_tape h0_bodies h0_causes s0__hasImage s0__hasCauses s0__stepsDone s0_filter__all s0_filter__v s0_filter__loss s0_filter__result s0_filter__over s0_filter__heldAll s0_filter__heldRounded s0_filter_numbers s0_filter_words o3 o4 o5 o6 o7 o8 o9 o10 o11 o12 o13 o14 o15 o16 o17 s0_rows_e__sort s0_rows_e__size s0_rows_e_places) H := hP
      have hD : va_D A (wm_X8_followInThought cA h0 h0_filter h0_filter_numbers h0_filter_words h0_trial h0_trial_numbers h0_trial_words h0_course h0_course_outputs h0_course_losses h0_rows h0_rows_e h0_rows_e_places h0_kept h0_ways h0_spread h0_changes h0_tape h0_bodies h0_causes s0__hasImage s0__hasCauses s0__stepsDone s0_filter__all s0_filter__v s0_filter__loss s0_filter__result s0_filter__over s0_filter__heldAll s0_filter__heldRounded s0_filter_numbers s0_filter_words o3 o4 o5 o6 o7 o8 o9 o10 o11 o12 o13 o14 o15 o16 o17 s0_rows_e__sort s0_rows_e__size s0_rows_e_places) := hD
      obtain ⟨e, hok⟩ := g_pr hok
      try subst e
      obtain ⟨e, hok⟩ := g_pr hok
      try subst e
      obtain ⟨e, hok⟩ := g_pr hok
      try subst e
      obtain ⟨e, hok⟩ := g_pr hok
      try subst e
      obtain ⟨e, hok⟩ := g_pr hok
      try subst e
      obtain ⟨e, hok⟩ := g_pr hok
      try subst e
      obtain ⟨e, hok⟩ := g_pr hok
      try subst e
      obtain ⟨e, hok⟩ := g_pr hok
      try subst e
      obtain ⟨e, hok⟩ := g_pr hok
      try subst e
      obtain ⟨e, hok⟩ := g_pr hok
      try subst e
      obtain ⟨e, hok⟩ := g_pr hok
      try subst e
      obtain ⟨e, hok⟩ := g_pr hok
      try subst e
      obtain ⟨e, hok⟩ := g_pr hok
      try subst e
      obtain ⟨e, hok⟩ := g_pr hok
      try subst e
      obtain ⟨e, hok⟩ := g_pr hok
      try subst e
      cases hok
      exact cr_i hx hb hr hlocks hQ dX8_levels_32 hP hS
    replace hok := g_neg hok c
    refine lv_bipush (v := -11) hx hb dX8_levels_17 (by decide) ?_
    obtain ⟨e, hok⟩ := g_pr hok
    try subst e
    obtain ⟨e, hok⟩ := g_pr hok
    try subst e
    obtain ⟨e, hok⟩ := g_pr hok
    try subst e
    obtain ⟨e, hok⟩ := g_pr hok
    try subst e
    obtain ⟨e, hok⟩ := g_pr hok
    try subst e
    obtain ⟨e, hok⟩ := g_pr hok
    try subst e
    obtain ⟨e, hok⟩ := g_pr hok
    try subst e
    obtain ⟨e, hok⟩ := g_pr hok
    try subst e
    obtain ⟨e, hok⟩ := g_pr hok
    try subst e
    obtain ⟨e, hok⟩ := g_pr hok
    try subst e
    obtain ⟨e, hok⟩ := g_pr hok
    try subst e
    obtain ⟨e, hok⟩ := g_pr hok
    try subst e
    obtain ⟨e, hok⟩ := g_pr hok
    try subst e
    obtain ⟨e, hok⟩ := g_pr hok
    try subst e
    obtain ⟨e, hok⟩ := g_pr hok
    try subst e
    cases hok
    exact cr_i hx hb hr hlocks hQ dX8_levels_19 hP hS
  replace hok := g_pos hok c
  refine lv_iconst (v := -1) hx hb dX8_levels_7 (by decide) ?_
  obtain ⟨e, hok⟩ := g_pr hok
  try subst e
  obtain ⟨e, hok⟩ := g_pr hok
  try subst e
  obtain ⟨e, hok⟩ := g_pr hok
  try subst e
  obtain ⟨e, hok⟩ := g_pr hok
  try subst e
  obtain ⟨e, hok⟩ := g_pr hok
  try subst e
  obtain ⟨e, hok⟩ := g_pr hok
  try subst e
  obtain ⟨e, hok⟩ := g_pr hok
  try subst e
  obtain ⟨e, hok⟩ := g_pr hok
  try subst e
  obtain ⟨e, hok⟩ := g_pr hok
  try subst e
  obtain ⟨e, hok⟩ := g_pr hok
  try subst e
  obtain ⟨e, hok⟩ := g_pr hok
  try subst e
  obtain ⟨e, hok⟩ := g_pr hok
  try subst e
  obtain ⟨e, hok⟩ := g_pr hok
  try subst e
  obtain ⟨e, hok⟩ := g_pr hok
  try subst e
  obtain ⟨e, hok⟩ := g_pr hok
  try subst e
  cases hok
  exact cr_i hx hb hr hlocks hQ dX8_levels_8 hP hS
