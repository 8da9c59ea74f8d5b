set_option maxHeartbeats 40000000 in
set_option maxRecDepth 100000 in
theorem c_X8_slotOf (l : Launch) (G : va_G) (cA : Nat → ClassId) (ts : Nat → Nat) (x0 : Int32) (x1 : Int32) (r : Int32) (hok : fX8_slotOf x0 x1 = some r) : Ct l G cA ts yX8_slotOf wsX8_slotOf 1 40 [.int x0, .int x1] (wm_X0_find cA) (wm_X0_find cA) (some (.int r)) := by
  refine Ct.intro (cc := cX8_slotOf) (maxL := 2) (ret := some .int) (by decide +kernel) rfl (Nat.le_of_ble_eq_true rfl) ?_
  intro p e s m ar below meth c A Q hx hb hr hml hown hlocks hts hK hZ hA hQ hP hD hS ls hl
  have hown : s.vm.findClass RX8 = some m.cls := hown
  have hl : lv_has ls 2 [(0, .int x0), (1, .int x1)] := hl
  have hP : va_P G vwCl (wm_X0_find cA) s.heap := hP
  have hD : va_D A (wm_X0_find cA) := hD
  unfold fX8_slotOf at hok
  refine lv_iload_n hx hb dX8_slotOf_0 rfl (lv_at hl 0 rfl) ?_
  refine lv_if_lt (tgt := 10) hx hb dX8_slotOf_1 (by decide) (fun c => ?_) (fun c => ?_)
  · replace hok := g_pos hok c
    refine lv_iconst (v := -1) hx hb dX8_slotOf_10 (by decide) ?_
    cases hok
    exact cr_i hx hb hr hlocks hQ dX8_slotOf_11 hP hS
  replace hok := g_neg hok c
  refine lv_iload_n hx hb dX8_slotOf_4 rfl (lv_at hl 0 rfl) ?_
  refine lv_bipush (v := 7) hx hb dX8_slotOf_5 (by decide) ?_
  refine lv_icmp_le (tgt := 12) hx hb dX8_slotOf_7 (by decide) (fun c => ?_) (fun c => ?_)
  · replace hok := g_pos hok c
    refine lv_iload_n hx hb dX8_slotOf_12 rfl (lv_at hl 0 rfl) ?_
    refine lv_iconst (v := 2) hx hb dX8_slotOf_13 (by decide) ?_
    refine lv_icmp_ne (tgt := 37) hx hb dX8_slotOf_14 (by decide) (fun c => ?_) (fun c => ?_)
    · replace hok := g_neg hok c
      refine lv_iload_n hx hb dX8_slotOf_37 rfl (lv_at hl 0 rfl) ?_
      refine lv_iconst (v := 2) hx hb dX8_slotOf_38 (by decide) ?_
      refine lv_icmp_ge (tgt := 46) hx hb dX8_slotOf_39 (by decide) (fun c => ?_) (fun c => ?_)
      · replace hok := g_pos hok c
        refine lv_iload_n hx hb dX8_slotOf_46 rfl (lv_at hl 0 rfl) ?_
        refine lv_iconst (v := 2) hx hb dX8_slotOf_47 (by decide) ?_
        refine lv_iadd hx hb dX8_slotOf_48 ?_
        cases hok
        exact cr_i hx hb hr hlocks hQ dX8_slotOf_49 hP hS
      replace hok := g_neg hok c
      refine lv_iload_n hx hb dX8_slotOf_42 rfl (lv_at hl 0 rfl) ?_
      refine lv_goto (tgt := 49) hx hb dX8_slotOf_43 (by decide) ?_
      cases hok
      exact cr_i hx hb hr hlocks hQ dX8_slotOf_49 hP hS
    replace hok := g_pos hok c
    refine lv_iload_n hx hb dX8_slotOf_17 rfl (lv_at hl 1 rfl) ?_
    refine lv_iconst (v := 1) hx hb dX8_slotOf_18 (by decide) ?_
    refine lv_icmp_lt (tgt := 35) hx hb dX8_slotOf_19 (by decide) (fun c => ?_) (fun c => ?_)
    · replace hok := g_pos hok c
      refine lv_iconst (v := -1) hx hb dX8_slotOf_35 (by decide) ?_
      cases hok
      exact cr_i hx hb hr hlocks hQ dX8_slotOf_36 hP hS
    replace hok := g_neg hok c
    refine lv_iload_n hx hb dX8_slotOf_22 rfl (lv_at hl 1 rfl) ?_
    refine lv_iconst (v := 3) hx hb dX8_slotOf_23 (by decide) ?_
    refine lv_icmp_gt (tgt := 35) hx hb dX8_slotOf_24 (by decide) (fun c => ?_) (fun c => ?_)
    · replace hok := g_pos hok c
      refine lv_iconst (v := -1) hx hb dX8_slotOf_35 (by decide) ?_
      cases hok
      exact cr_i hx hb hr hlocks hQ dX8_slotOf_36 hP hS
    replace hok := g_neg hok c
    refine lv_iconst (v := 2) hx hb dX8_slotOf_27 (by decide) ?_
    refine lv_iload_n hx hb dX8_slotOf_28 rfl (lv_at hl 1 rfl) ?_
    refine lv_iadd hx hb dX8_slotOf_29 ?_
    refine lv_iconst (v := 1) hx hb dX8_slotOf_30 (by decide) ?_
    refine lv_isub hx hb dX8_slotOf_31 ?_
    refine lv_goto (tgt := 36) hx hb dX8_slotOf_32 (by decide) ?_
    cases hok
    exact cr_i hx hb hr hlocks hQ dX8_slotOf_36 hP hS
  replace hok := g_neg hok c
  refine lv_iconst (v := -1) hx hb dX8_slotOf_10 (by decide) ?_
  cases hok
  exact cr_i hx hb hr hlocks hQ dX8_slotOf_11 hP hS
set_option maxHeartbeats 40000000 in
set_option maxRecDepth 100000 in
theorem c_X8_set (l : Launch) (G : va_G) (cA : Nat → ClassId) (ts : Nat → Nat) (h0 : Nat) (h0_filter : Nat) (h0_filter_numbers : Nat) (h0_filter_words : Nat) (h0_changes : Nat) (h0_changes_slots : Nat) (h0_changes_olds : Nat) (h0_changes_news : Nat) (h0_trial : Nat) (h0_kept : Nat) (h0_ways : Nat) (h0_spread : Nat) (h0_course : Nat) (h0_rows : Nat) (h0_tape : Nat) (h0_bodies : Nat) (h0_causes : Nat) (x1 : Int32) (x2 : Int32) (x3 : Int32) (s0__hasImage : Int32) (s0__hasCauses : Int32) (s0__stepsDone : Int32) (s0_filter__all : Int32) (s0_filter__v : Int32) (s0_filter__loss : Int32) (s0_filter__result : Int32) (s0_filter__over : Int32) (s0_filter__heldAll : Int32) (s0_filter__heldRounded : Int32) (s0_filter_numbers : Nat → Int32) (s0_filter_words : Nat → Int32) (s0_changes__done : Int32) (s0_changes__undone : Int32) (s0_changes_slots : Nat → Int32) (s0_changes_olds : Nat → Int32) (s0_changes_news : Nat → Int32) (r : Int32) (o0_filter_numbers : Nat → Int32) (o0_filter_words : Nat → Int32) (o0_changes__done : Int32) (o0_changes__undone : Int32) (o0_changes_slots : Nat → Int32) (o0_changes_olds : Nat → Int32) (o0_changes_news : Nat → Int32) (hok : fX8_set x1 x2 x3 s0_filter_numbers s0_filter_words s0_changes__done s0_changes__undone s0_changes_slots s0_changes_olds s0_changes_news = some (r, o0_filter_numbers, o0_filter_words, o0_changes__done, o0_changes__undone, o0_changes_slots, o0_changes_olds, o0_changes_news)) : Ct l G cA ts yX8_set wsX8_set 3 84 [.ref h0, .int x1, .int x2, .int x3] (wm_X8_set cA h0 h0_filter h0_filter_numbers h0_filter_words h0_changes h0_changes_slots h0_changes_olds h0_changes_news h0_trial h0_kept h0_ways h0_spread h0_course h0_rows h0_tape h0_bodies h0_causes s0__hasImage s0__hasCauses s0__stepsDone s0_filter__all s0_filter__v s0_filter__loss s0_filter__result s0_filter__over s0_filter__heldAll s0_filter__heldRounded s0_filter_numbers s0_filter_words s0_changes__done s0_changes__undone s0_changes_slots s0_changes_olds s0_changes_news) (wm_X8_set cA h0 h0_filter h0_filter_numbers h0_filter_words h0_changes h0_changes_slots h0_changes_olds h0_changes_news h0_trial h0_kept h0_ways h0_spread h0_course h0_rows h0_tape h0_bodies h0_causes s0__hasImage s0__hasCauses s0__stepsDone s0_filter__all s0_filter__v s0_filter__loss s0_filter__result s0_filter__over s0_filter__heldAll s0_filter__heldRounded o0_filter_numbers o0_filter_words o0_changes__done o0_changes__undone o0_changes_slots o0_changes_olds o0_changes_news) (some (.int r)) := by
  refine Ct.intro (cc := cX8_set) (maxL := 6) (ret := some .int) (by decide +kernel) rfl (Nat.le_of_ble_eq_true rfl) ?_
  intro p e s m ar below meth c A Q hx hb hr hml hown hlocks hts hK hZ hA hQ hP hD hS ls hl
  have hown : s.vm.findClass RX8 = some m.cls := hown
  have hinX3 : ∀ w ∈ wsX30, w ∈ wsX8_set := fun _ h => List.mem_cons_of_mem _ (List.mem_append_left _ (List.mem_append_right _ (h)))
  have hinX8 : ∀ w ∈ wsX80, w ∈ wsX8_set := fun _ h => List.mem_cons_of_mem _ (List.mem_append_left _ (List.mem_append_left _ (List.mem_append_right _ (h))))
  have hl : lv_has ls 6 [(0, .ref h0), (1, .int x1), (2, .int x2), (3, .int x3)] := hl
  have hP : va_P G vwCl (wm_X8_set cA h0 h0_filter h0_filter_numbers h0_filter_words h0_changes h0_changes_slots h0_changes_olds h0_changes_news h0_trial h0_kept h0_ways h0_spread h0_course h0_rows h0_tape h0_bodies h0_causes s0__hasImage s0__hasCauses s0__stepsDone s0_filter__all s0_filter__v s0_filter__loss s0_filter__result s0_filter__over s0_filter__heldAll s0_filter__heldRounded s0_filter_numbers s0_filter_words s0_changes__done s0_changes__undone s0_changes_slots s0_changes_olds s0_changes_news) s.heap := hP
  have hD : va_D A (wm_X8_set cA h0 h0_filter h0_filter_numbers h0_filter_words h0_changes h0_changes_slots h0_changes_olds h0_changes_news h0_trial h0_kept h0_ways h0_spread h0_course h0_rows h0_tape h0_bodies h0_causes s0__hasImage s0__hasCauses s0__stepsDone s0_filter__all s0_filter__v s0_filter__loss s0_filter__result s0_filter__over s0_filter__heldAll s0_filter__heldRounded s0_filter_numbers s0_filter_words s0_changes__done s0_changes__undone s0_changes_slots s0_changes_olds s0_changes_news) := hD
  unfold fX8_set at hok
  refine lv_iload_n hx hb dX8_set_0 rfl (lv_at hl 1 rfl) ?_
  refine lv_iload_n hx hb dX8_set_1 rfl (lv_at hl 2 rfl) ?_
  obtain ⟨r1, hq, hok⟩ := g_bnd1 hok
  refine cG (is := []) (wc := (wm_X0_find cA)) (w1 := (wm_X0_find cA)) (rv := (some (.int r1))) (st1 := [.int r1]) (va_runS (Ts := wsX8_set) (As := [.int x1, .int x2]) (rest := []) ⟨hx, hb, hml, hown, hts⟩ (c_X8_slotOf l G cA ts x1 x2 r1 hq s.heap.size) (va_cwS 2 hts gX8_set_X8_slotOf rfl rfl rfl (by decide +kernel) ⟨Nat.le_of_ble_eq_true rfl, Nat.le_of_ble_eq_true rfl⟩) (pre_S (is := []) hP hD hS hA hK hZ (by decide +kernel) (by rfl)) rfl rfl hl.1 rfl (by exact lv_room (Nat.le_of_ble_eq_true rfl)) dX8_set_2 ⟨Nat.le_refl _, Nat.le_refl _⟩) hP hD hS hA (by decide +kernel) (by rfl) (by rfl) rfl (fun H locs hP hD hS => ?_)
  have hP : va_P G vwCl (wm_X8_set cA h0 h0_filter h0_filter_numbers h0_filter_words h0_changes h0_changes_slots h0_changes_olds h0_changes_news h0_trial h0_kept h0_ways h0_spread h0_course h0_rows h0_tape h0_bodies h0_causes s0__hasImage s0__hasCauses s0__stepsDone s0_filter__all s0_filter__v s0_filter__loss s0_filter__result s0_filter__over s0_filter__heldAll s0_filter__heldRounded s0_filter_numbers s0_filter_words s0_changes__done s0_changes__undone s0_changes_slots s0_changes_olds s0_changes_news) H := hP
  have hD : va_D A (wm_X8_set cA h0 h0_filter h0_filter_numbers h0_filter_words h0_changes h0_changes_slots h0_changes_olds h0_changes_news h0_trial h0_kept h0_ways h0_spread h0_course h0_rows h0_tape h0_bodies h0_causes s0__hasImage s0__hasCauses s0__stepsDone s0_filter__all s0_filter__v s0_filter__loss s0_filter__result s0_filter__over s0_filter__heldAll s0_filter__heldRounded s0_filter_numbers s0_filter_words s0_changes__done s0_changes__undone s0_changes_slots s0_changes_olds s0_changes_news) := hD
  refine lv_istore (lv' := [(4, .int r1), (0, .ref h0), (1, .int x1), (2, .int x2), (3, .int x3)]) hx hb dX8_set_5 hl (by decide) rfl (fun ls hl => ?_)
  refine lv_iload hx hb dX8_set_7 (lv_at hl 0 rfl) ?_
  refine lv_if_lt (tgt := 39) hx hb dX8_set_9 (by decide) (fun c => ?_) (fun c => ?_)
  · replace hok := g_pos hok c
    refine lv_sipush (v := -1001) hx hb dX8_set_39 (by decide) ?_
    cases hok
    exact cr_i hx hb hr hlocks hQ dX8_set_42 hP hS
  replace hok := g_neg hok c
  refine lv_iload hx hb dX8_set_12 (lv_at hl 0 rfl) ?_
  refine lv_bipush (v := 10) hx hb dX8_set_14 (by decide) ?_
  refine lv_icmp_ge (tgt := 39) hx hb dX8_set_16 (by decide) (fun c => ?_) (fun c => ?_)
  · replace hok := g_pos hok c
    refine lv_sipush (v := -1001) hx hb dX8_set_39 (by decide) ?_
    cases hok
    exact cr_i hx hb hr hlocks hQ dX8_set_42 hP hS
  replace hok := g_neg hok c
  refine lv_iload_n hx hb dX8_set_19 rfl (lv_at hl 4 rfl) ?_
  refine va_gets hx hb hZ.1.1.1.1 hS hown (hts _ (List.mem_of_getElem? (i := 1) rfl)) (fun _ h9 => h9) dX8_set_20 ?_
  refine lv_iload hx hb dX8_set_23 (lv_at hl 0 rfl) ?_
  obtain ⟨hin, hok⟩ := g_no hok
  refine va_ti (v := .int (tb tLOW r1.toNatClampNeg)) hx hb hZ.1.1.1.2 hS hin rfl dX8_set_25 ?_
  refine lv_icmp_lt (tgt := 39) hx hb dX8_set_26 (by decide) (fun c => ?_) (fun c => ?_)
  · replace hok := g_pos hok c
    refine lv_sipush (v := -1001) hx hb dX8_set_39 (by decide) ?_
    cases hok
    exact cr_i hx hb hr hlocks hQ dX8_set_42 hP hS
  replace hok := g_neg hok c
  refine lv_iload_n hx hb dX8_set_29 rfl (lv_at hl 4 rfl) ?_
  refine va_gets hx hb hZ.1.1.2.1.1 hS hown (hts _ (List.mem_of_getElem? (i := 2) rfl)) (fun _ h9 => h9) dX8_set_30 ?_
  refine lv_iload hx hb dX8_set_33 (lv_at hl 0 rfl) ?_
  obtain ⟨hin, hok⟩ := g_no hok
  refine va_ti (v := .int (tb tHIGH r1.toNatClampNeg)) hx hb hZ.1.1.2.1.2 hS hin rfl dX8_set_35 ?_
  refine lv_icmp_le (tgt := 43) hx hb dX8_set_36 (by decide) (fun c => ?_) (fun c => ?_)
  · replace hok := g_pos hok c
    refine lv_aload_n hx hb dX8_set_43 rfl (lv_at hl 1 rfl) ?_
    refine va_get (ci := 8) (v := .ref h0_filter) (C := RX8) (T := TX8) (N := 14) hx hb hts hinX8 hown hK hP 0 rfl rfl 0 (by decide) (hts _ (List.mem_of_getElem? (i := 3) rfl)) (fun _ h9 => h9) rfl dX8_set_44 ?_
    refine lv_iload hx hb dX8_set_47 (lv_at hl 0 rfl) ?_
    refine lv_iload_n hx hb dX8_set_49 rfl (lv_at hl 4 rfl) ?_
    obtain ⟨r2, hq, hok⟩ := g_bnd1 hok
    refine cG (is := [1, 2]) (wc := (wm_X3_unit cA h0_filter h0_filter_numbers h0_filter_words s0_filter__all s0_filter__v s0_filter__loss s0_filter__result s0_filter__over s0_filter__heldAll s0_filter__heldRounded s0_filter_numbers)) (w1 := (wm_X3_unit cA h0_filter h0_filter_numbers h0_filter_words s0_filter__all s0_filter__v s0_filter__loss s0_filter__result s0_filter__over s0_filter__heldAll s0_filter__heldRounded s0_filter_numbers)) (rv := (some (.int r2))) (st1 := [.int r2]) (va_runV (Ts := wsX8_set) (As := [.int r1, .int x3]) (rest := []) ⟨hx, hb, hml, hown, hts⟩ (c_X3_isTooLargeWith l G cA ts h0_filter h0_filter_numbers h0_filter_words r1 x3 s0_filter__all s0_filter__v s0_filter__loss s0_filter__result s0_filter__over s0_filter__heldAll s0_filter__heldRounded s0_filter_numbers r2 hq H.size) (cwV 2 hts gX8_set_X3_isTooLargeWith rfl rfl rfl (by decide +kernel) ⟨Nat.le_of_ble_eq_true rfl, Nat.le_of_ble_eq_true rfl⟩) (pre_V (ci := 3) (q0 := 1) (is := [1, 2]) rfl rfl hP hD hS hA hK hZ (by decide +kernel) (by rfl)) rfl rfl hl.1 rfl (by exact lv_room (Nat.le_of_ble_eq_true rfl)) dX8_set_50 ⟨Nat.le_refl _, Nat.le_refl _⟩) hP hD hS hA (by decide +kernel) (by rfl) (by rfl) rfl (fun H locs hP hD hS => ?_)
    have hP : va_P G vwCl (wm_X8_set cA h0 h0_filter h0_filter_numbers h0_filter_words h0_changes h0_changes_slots h0_changes_olds h0_changes_news h0_trial h0_kept h0_ways h0_spread h0_course h0_rows h0_tape h0_bodies h0_causes s0__hasImage s0__hasCauses s0__stepsDone s0_filter__all s0_filter__v s0_filter__loss s0_filter__result s0_filter__over s0_filter__heldAll s0_filter__heldRounded s0_filter_numbers s0_filter_words s0_changes__done s0_changes__undone s0_changes_slots s0_changes_olds s0_changes_news) H := hP
    have hD : va_D A (wm_X8_set cA h0 h0_filter h0_filter_numbers h0_filter_words h0_changes h0_changes_slots h0_changes_olds h0_changes_news h0_trial h0_kept h0_ways h0_spread h0_course h0_rows h0_tape h0_bodies h0_causes s0__hasImage s0__hasCauses s0__stepsDone s0_filter__all s0_filter__v s0_filter__loss s0_filter__result s0_filter__over s0_filter__heldAll s0_filter__heldRounded s0_filter_numbers s0_filter_words s0_changes__done s0_changes__undone s0_changes_slots s0_changes_olds s0_changes_news) := hD
    refine lv_if_eq (tgt := 60) hx hb dX8_set_53 (by decide) (fun c => ?_) (fun c => ?_)
    · replace hok := g_pos hok c
      refine lv_aload_n hx hb dX8_set_60 rfl (lv_at hl 1 rfl) ?_
      refine va_get (ci := 8) (v := .ref h0_filter) (C := RX8) (T := TX8) (N := 14) hx hb hts hinX8 hown hK hP 0 rfl rfl 0 (by decide) (hts _ (List.mem_of_getElem? (i := 3) rfl)) (fun _ h9 => h9) rfl dX8_set_61 ?_
      refine va_get (ci := 3) (v := .ref h0_filter_numbers) (C := RX3) (T := TX3) (N := 9) hx hb hts hinX3 hown hK hP 1 rfl rfl 0 (by decide) (hts _ (List.mem_of_getElem? (i := 4) rfl)) (fun _ h9 => h9) rfl dX8_set_64 ?_
      refine lv_iload hx hb dX8_set_67 (lv_at hl 0 rfl) ?_
      obtain ⟨hin, hok⟩ := g_no hok
      refine x_iald (k := r1.toNatClampNeg) hx hb hK hP 2 0 rfl rfl hin rfl dX8_set_69 ?_
      refine lv_istore (lv' := [(5, .int (s0_filter_numbers r1.toNatClampNeg)), (4, .int r1), (0, .ref h0), (1, .int x1), (2, .int x2), (3, .int x3)]) hx hb dX8_set_70 hl (by decide) rfl (fun ls hl => ?_)
      refine lv_iload hx hb dX8_set_72 (lv_at hl 0 rfl) ?_
      refine lv_iload_n hx hb dX8_set_74 rfl (lv_at hl 5 rfl) ?_
      refine lv_icmp_eq (tgt := 100) hx hb dX8_set_75 (by decide) (fun c => ?_) (fun c => ?_)
      · replace hok := g_pos hok c
        refine lv_iload hx hb dX8_set_100 (lv_at hl 0 rfl) ?_
        cases hok
        exact cr_i hx hb hr hlocks hQ dX8_set_102 hP hS
      replace hok := g_neg hok c
      refine lv_aload_n hx hb dX8_set_78 rfl (lv_at hl 2 rfl) ?_
      refine va_get (ci := 8) (v := .ref h0_changes) (C := RX8) (T := TX8) (N := 14) hx hb hts hinX8 hown hK hP 0 rfl rfl 8 (by decide) (hts _ (List.mem_of_getElem? (i := 5) rfl)) (fun _ h9 => h9) rfl dX8_set_79 ?_
      refine lv_iload hx hb dX8_set_82 (lv_at hl 1 rfl) ?_
      refine lv_iload hx hb dX8_set_84 (lv_at hl 0 rfl) ?_
      refine lv_iload_n hx hb dX8_set_86 rfl (lv_at hl 5 rfl) ?_
      obtain ⟨o3, o4, o5, o6, o7, hq, hok⟩ := g_bnd5 hok
      refine cG (is := [4, 5, 6, 7]) (wc := (wm_X1_dropEldest cA h0_changes h0_changes_slots h0_changes_olds h0_changes_news s0_changes__done s0_changes__undone s0_changes_slots s0_changes_olds s0_changes_news)) (w1 := (wm_X1_dropEldest cA h0_changes h0_changes_slots h0_changes_olds h0_changes_news o3 o4 o5 o6 o7)) (rv := none) (st1 := []) (va_runV (Ts := wsX8_set) (As := [.int r1, .int (s0_filter_numbers r1.toNatClampNeg), .int x3]) (rest := []) ⟨hx, hb, hml, hown, hts⟩ (c_X1_add l G cA ts h0_changes h0_changes_slots h0_changes_olds h0_changes_news r1 (s0_filter_numbers r1.toNatClampNeg) x3 s0_changes__done s0_changes__undone s0_changes_slots s0_changes_olds s0_changes_news o3 o4 o5 o6 o7 hq H.size) (cwV 3 hts gX8_set_X1_add rfl rfl rfl (by decide +kernel) ⟨Nat.le_of_ble_eq_true rfl, Nat.le_of_ble_eq_true rfl⟩) (pre_V (ci := 1) (q0 := 4) (is := [4, 5, 6, 7]) rfl rfl hP hD hS hA hK hZ (by decide +kernel) (by rfl)) rfl rfl hl.1 rfl (by exact lv_room (Nat.le_of_ble_eq_true rfl)) dX8_set_87 ⟨Nat.le_refl _, Nat.le_refl _⟩) hP hD hS hA (by decide +kernel) (by rfl) (by rfl) rfl (fun H locs hP hD hS => ?_)
      have hP : va_P G vwCl (wm_X8_set cA h0 h0_filter h0_filter_numbers h0_filter_words h0_changes h0_changes_slots h0_changes_olds h0_changes_news h0_trial h0_kept h0_ways h0_spread h0_course h0_rows h0_tape h0_bodies h0_causes s0__hasImage s0__hasCauses s0__stepsDone s0_filter__all s0_filter__v s0_filter__loss s0_filter__result s0_filter__over s0_filter__heldAll s0_filter__heldRounded s0_filter_numbers s0_filter_words o3 o4 o5 o6 o7) H := hP
      have hD : va_D A (wm_X8_set cA h0 h0_filter h0_filter_numbers h0_filter_words h0_changes h0_changes_slots h0_changes_olds h0_changes_news h0_trial h0_kept h0_ways h0_spread h0_course h0_rows h0_tape h0_bodies h0_causes s0__hasImage s0__hasCauses s0__stepsDone s0_filter__all s0_filter__v s0_filter__loss s0_filter__result s0_filter__over s0_filter__heldAll s0_filter__heldRounded s0_filter_numbers s0_filter_words o3 o4 o5 o6 o7) := hD
      refine lv_aload_n hx hb dX8_set_90 rfl (lv_at hl 2 rfl) ?_
      refine va_get (ci := 8) (v := .ref h0_filter) (C := RX8) (T := TX8) (N := 14) hx hb hts hinX8 hown hK hP 0 rfl rfl 0 (by decide) (hts _ (List.mem_of_getElem? (i := 3) rfl)) (fun _ h9 => h9) rfl dX8_set_91 ?_
      refine lv_iload hx hb dX8_set_94 (lv_at hl 1 rfl) ?_
      refine lv_iload_n hx hb dX8_set_96 rfl (lv_at hl 5 rfl) ?_
      obtain ⟨o8, o9, hq, hok⟩ := g_bnd2 hok
      refine cG (is := [1, 2, 3]) (wc := (wm_X3_gather cA h0_filter h0_filter_numbers h0_filter_words s0_filter__all s0_filter__v s0_filter__loss s0_filter__result s0_filter__over s0_filter__heldAll s0_filter__heldRounded s0_filter_numbers s0_filter_words)) (w1 := (wm_X3_gather cA h0_filter h0_filter_numbers h0_filter_words s0_filter__all s0_filter__v s0_filter__loss s0_filter__result s0_filter__over s0_filter__heldAll s0_filter__heldRounded o8 o9)) (rv := none) (st1 := []) (va_runV (Ts := wsX8_set) (As := [.int r1, .int x3]) (rest := []) ⟨hx, hb, hml, hown, hts⟩ (c_X3_become l G cA ts h0_filter h0_filter_numbers h0_filter_words r1 x3 s0_filter__all s0_filter__v s0_filter__loss s0_filter__result s0_filter__over s0_filter__heldAll s0_filter__heldRounded s0_filter_numbers s0_filter_words o8 o9 hq H.size) (cwV 2 hts gX8_set_X3_become rfl rfl rfl (by decide +kernel) ⟨Nat.le_of_ble_eq_true rfl, Nat.le_of_ble_eq_true rfl⟩) (pre_V (ci := 3) (q0 := 1) (is := [1, 2, 3]) rfl rfl hP hD hS hA hK hZ (by decide +kernel) (by rfl)) rfl rfl hl.1 rfl (by exact lv_room (Nat.le_of_ble_eq_true rfl)) dX8_set_97 ⟨Nat.le_refl _, Nat.le_refl _⟩) hP hD hS hA (by decide +kernel) (by rfl) (by rfl) rfl (fun H locs hP hD hS => ?_)
      have hP : va_P G vwCl (wm_X8_set cA h0 h0_filter h0_filter_numbers h0_filter_words h0_changes h0_changes_slots h0_changes_olds h0_changes_news h0_trial h0_kept h0_ways h0_spread h0_course h0_rows h0_tape h0_bodies h0_causes s0__hasImage s0__hasCauses s0__stepsDone s0_filter__all s0_filter__v s0_filter__loss s0_filter__result s0_filter__over s0_filter__heldAll s0_filter__heldRounded o8 o9 o3 o4 o5 o6 o7) H := hP
      have hD : va_D A (wm_X8_set cA h0 h0_filter h0_filter_numbers h0_filter_words h0_changes h0_changes_slots h0_changes_olds h0_changes_news h0_trial h0_kept h0_ways h0_spread h0_course h0_rows h0_tape h0_bodies h0_causes s0__hasImage s0__hasCauses s0__stepsDone s0_filter__all s0_filter__v s0_filter__loss s0_filter__result s0_filter__over s0_filter__heldAll s0_filter__heldRounded o8 o9 o3 o4 o5 o6 o7) := hD
      refine lv_iload hx hb dX8_set_100 (lv_at hl 0 rfl) ?_
      cases hok
      exact cr_i hx hb hr hlocks hQ dX8_set_102 hP hS
    replace hok := g_neg hok c
    refine lv_sipush (v := -1005) hx hb dX8_set_56 (by decide) ?_
    cases hok
    exact cr_i hx hb hr hlocks hQ dX8_set_59 hP hS
  replace hok := g_neg hok c
  refine lv_sipush (v := -1001) hx hb dX8_set_39 (by decide) ?_
  cases hok
  exact cr_i hx hb hr hlocks hQ dX8_set_42 hP hS
set_option maxHeartbeats 40000000 in
set_option maxRecDepth 100000 in
theorem c_X8_of (l : Launch) (G : va_G) (cA : Nat → ClassId) (ts : Nat → Nat) (h0 : Nat) (h0_filter : Nat) (h0_filter_numbers : Nat) (h0_trial : Nat) (h0_kept : Nat) (h0_ways : Nat) (h0_spread : Nat) (h0_course : Nat) (h0_rows : Nat) (h0_changes : Nat) (h0_tape : Nat) (h0_bodies : Nat) (h0_causes : Nat) (h0_filter_words : Nat) (x1 : Int32) (x2 : Int32) (s0__hasImage : Int32) (s0__hasCauses : Int32) (s0__stepsDone : Int32) (s0_filter__all : Int32) (s0_filter__v : Int32) (s0_filter__loss : Int32) (s0_filter__result : Int32) (s0_filter__over : Int32) (s0_filter__heldAll : Int32) (s0_filter__heldRounded : Int32) (s0_filter_numbers : Nat → Int32) (r : Int32) (hok : fX8_of x1 x2 s0_filter_numbers = some r) : Ct l G cA ts yX8_of wsX8_of 2 61 [.ref h0, .int x1, .int x2] (wm_X8_of cA h0 h0_filter h0_filter_numbers h0_trial h0_kept h0_ways h0_spread h0_course h0_rows h0_changes h0_tape h0_bodies h0_causes h0_filter_words s0__hasImage s0__hasCauses s0__stepsDone s0_filter__all s0_filter__v s0_filter__loss s0_filter__result s0_filter__over s0_filter__heldAll s0_filter__heldRounded s0_filter_numbers) (wm_X8_of cA h0 h0_filter h0_filter_numbers h0_trial h0_kept h0_ways h0_spread h0_course h0_rows h0_changes h0_tape h0_bodies h0_causes h0_filter_words s0__hasImage s0__hasCauses s0__stepsDone s0_filter__all s0_filter__v s0_filter__loss s0_filter__result s0_filter__over s0_filter__heldAll s0_filter__heldRounded s0_filter_numbers) (some (.int r)) := by
  refine Ct.intro (cc := cX8_of) (maxL := 4) (ret := some .int) (by decide +kernel) rfl (Nat.le_of_ble_eq_true rfl) ?_
  intro p e s m ar below meth c A Q hx hb hr hml hown hlocks hts hK hZ hA hQ hP hD hS ls hl
  have hown : s.vm.findClass RX8 = some m.cls := hown
  have hinX3 : ∀ w ∈ wsX30, w ∈ wsX8_of := fun _ h => List.mem_cons_of_mem _ (List.mem_append_right _ (h))
  have hinX8 : ∀ w ∈ wsX80, w ∈ wsX8_of := fun _ h => List.mem_cons_of_mem _ (List.mem_append_left _ (List.mem_append_right _ (h)))
  have hl : lv_has ls 4 [(0, .ref h0), (1, .int x1), (2, .int x2)] := hl
  have hP : va_P G vwCl (wm_X8_of cA h0 h0_filter h0_filter_numbers h0_trial h0_kept h0_ways h0_spread h0_course h0_rows h0_changes h0_tape h0_bodies h0_causes h0_filter_words s0__hasImage s0__hasCauses s0__stepsDone s0_filter__all s0_filter__v s0_filter__loss s0_filter__result s0_filter__over s0_filter__heldAll s0_filter__heldRounded s0_filter_numbers) s.heap := hP
  have hD : va_D A (wm_X8_of cA h0 h0_filter h0_filter_numbers h0_trial h0_kept h0_ways h0_spread h0_course h0_rows h0_changes h0_tape h0_bodies h0_causes h0_filter_words s0__hasImage s0__hasCauses s0__stepsDone s0_filter__all s0_filter__v s0_filter__loss s0_filter__result s0_filter__over s0_filter__heldAll s0_filter__heldRounded s0_filter_numbers) := hD
  unfold fX8_of at hok
  refine lv_iload_n hx hb dX8_of_0 rfl (lv_at hl 1 rfl) ?_
  refine lv_iload_n hx hb dX8_of_1 rfl (lv_at hl 2 rfl) ?_
  obtain ⟨r1, hq, hok⟩ := g_bnd1 hok
  refine cG (is := []) (wc := (wm_X0_find cA)) (w1 := (wm_X0_find cA)) (rv := (some (.int r1))) (st1 := [.int r1]) (va_runS (Ts := wsX8_of) (As := [.int x1, .int x2]) (rest := []) ⟨hx, hb, hml, hown, hts⟩ (c_X8_slotOf l G cA ts x1 x2 r1 hq s.heap.size) (va_cwS 2 hts gX8_of_X8_slotOf rfl rfl rfl (by decide +kernel) ⟨Nat.le_of_ble_eq_true rfl, Nat.le_of_ble_eq_true rfl⟩) (pre_S (is := []) hP hD hS hA hK hZ (by decide +kernel) (by rfl)) rfl rfl hl.1 rfl (by exact lv_room (Nat.le_of_ble_eq_true rfl)) dX8_of_2 ⟨Nat.le_refl _, Nat.le_refl _⟩) hP hD hS hA (by decide +kernel) (by rfl) (by rfl) rfl (fun H locs hP hD hS => ?_)
  have hP : va_P G vwCl (wm_X8_of cA h0 h0_filter h0_filter_numbers h0_trial h0_kept h0_ways h0_spread h0_course h0_rows h0_changes h0_tape h0_bodies h0_causes h0_filter_words s0__hasImage s0__hasCauses s0__stepsDone s0_filter__all s0_filter__v s0_filter__loss s0_filter__result s0_filter__over s0_filter__heldAll s0_filter__heldRounded s0_filter_numbers) H := hP
  have hD : va_D A (wm_X8_of cA h0 h0_filter h0_filter_numbers h0_trial h0_kept h0_ways h0_spread h0_course h0_rows h0_changes h0_tape h0_bodies h0_causes h0_filter_words s0__hasImage s0__hasCauses s0__stepsDone s0_filter__all s0_filter__v s0_filter__loss s0_filter__result s0_filter__over s0_filter__heldAll s0_filter__heldRounded s0_filter_numbers) := hD
  refine lv_istore_n (lv' := [(3, .int r1), (0, .ref h0), (1, .int x1), (2, .int x2)]) hx hb dX8_of_5 rfl hl (by decide) rfl (fun ls hl => ?_)
  refine lv_iload_n hx hb dX8_of_6 rfl (lv_at hl 0 rfl) ?_
  refine lv_if_lt (tgt := 16) hx hb dX8_of_7 (by decide) (fun c => ?_) (fun c => ?_)
  · replace hok := g_pos hok c
    refine lv_sipush (v := -1001) hx hb dX8_of_16 (by decide) ?_
    refine lv_goto (tgt := 31) hx hb dX8_of_19 (by decide) ?_
    cases hok
    exact cr_i hx hb hr hlocks hQ dX8_of_31 hP hS
  replace hok := g_neg hok c
  refine lv_iload_n hx hb dX8_of_10 rfl (lv_at hl 0 rfl) ?_
  refine lv_bipush (v := 10) hx hb dX8_of_11 (by decide) ?_
  refine lv_icmp_lt (tgt := 22) hx hb dX8_of_13 (by decide) (fun c => ?_) (fun c => ?_)
  · replace hok := g_pos hok c
    refine lv_aload_n hx hb dX8_of_22 rfl (lv_at hl 1 rfl) ?_
    refine va_get (ci := 8) (v := .ref h0_filter) (C := RX8) (T := TX8) (N := 14) hx hb hts hinX8 hown hK hP 0 rfl rfl 0 (by decide) (hts _ (List.mem_of_getElem? (i := 1) rfl)) (fun _ h9 => h9) rfl dX8_of_23 ?_
    refine va_get (ci := 3) (v := .ref h0_filter_numbers) (C := RX3) (T := TX3) (N := 9) hx hb hts hinX3 hown hK hP 1 rfl rfl 0 (by decide) (hts _ (List.mem_of_getElem? (i := 2) rfl)) (fun _ h9 => h9) rfl dX8_of_26 ?_
    refine lv_iload_n hx hb dX8_of_29 rfl (lv_at hl 0 rfl) ?_
    obtain ⟨hin, hok⟩ := g_no hok
    refine x_iald (k := r1.toNatClampNeg) hx hb hK hP 2 0 rfl rfl hin rfl dX8_of_30 ?_
    cases hok
    exact cr_i hx hb hr hlocks hQ dX8_of_31 hP hS
  replace hok := g_neg hok c
  refine lv_sipush (v := -1001) hx hb dX8_of_16 (by decide) ?_
  refine lv_goto (tgt := 31) hx hb dX8_of_19 (by decide) ?_
  cases hok
  exact cr_i hx hb hr hlocks hQ dX8_of_31 hP hS
set_option maxHeartbeats 40000000 in
set_option maxRecDepth 100000 in
theorem c_X8_isWordNumber (l : Launch) (G : va_G) (cA : Nat → ClassId) (ts : Nat → Nat) (h0 : Nat) (h0_filter : Nat) (h0_filter_numbers : Nat) (h0_trial : Nat) (h0_kept : Nat) (h0_ways : Nat) (h0_spread : Nat) (h0_course : Nat) (h0_rows : Nat) (h0_changes : Nat) (h0_tape : Nat) (h0_bodies : Nat) (h0_causes : Nat) (h0_filter_words : Nat) (x1 : Int32) (s0__hasImage : Int32) (s0__hasCauses : Int32) (s0__stepsDone : Int32) (s0_filter__all : Int32) (s0_filter__v : Int32) (s0_filter__loss : Int32) (s0_filter__result : Int32) (s0_filter__over : Int32) (s0_filter__heldAll : Int32) (s0_filter__heldRounded : Int32) (s0_filter_numbers : Nat → Int32) (r : Int32) (hok : fX8_isWordNumber x1 s0_filter_numbers = some r) : Ct l G cA ts yX8_isWordNumber wsX8_isWordNumber 1 40 [.ref h0, .int x1] (wm_X8_of cA h0 h0_filter h0_filter_numbers h0_trial h0_kept h0_ways h0_spread h0_course h0_rows h0_changes h0_tape h0_bodies h0_causes h0_filter_words s0__hasImage s0__hasCauses s0__stepsDone s0_filter__all s0_filter__v s0_filter__loss s0_filter__result s0_filter__over s0_filter__heldAll s0_filter__heldRounded s0_filter_numbers) (wm_X8_of cA h0 h0_filter h0_filter_numbers h0_trial h0_kept h0_ways h0_spread h0_course h0_rows h0_changes h0_tape h0_bodies h0_causes h0_filter_words s0__hasImage s0__hasCauses s0__stepsDone s0_filter__all s0_filter__v s0_filter__loss s0_filter__result s0_filter__over s0_filter__heldAll s0_filter__heldRounded s0_filter_numbers) (some (.int r)) := by
  refine Ct.intro (cc := cX8_isWordNumber) (maxL := 2) (ret := some .boolean) (by decide +kernel) rfl (Nat.le_of_ble_eq_true rfl) ?_
  intro p e s m ar below meth c A Q hx hb hr hml hown hlocks hts hK hZ hA hQ hP hD hS ls hl
  have hown : s.vm.findClass RX8 = some m.cls := hown
  have hinX3 : ∀ w ∈ wsX30, w ∈ wsX8_isWordNumber := fun _ h => List.mem_cons_of_mem _ (List.mem_append_right _ (h))
  have hinX8 : ∀ w ∈ wsX80, w ∈ wsX8_isWordNumber := fun _ h => List.mem_cons_of_mem _ (List.mem_append_left _ (List.mem_append_right _ (h)))
  have hl : lv_has ls 2 [(0, .ref h0), (1, .int x1)] := hl
  have hP : va_P G vwCl (wm_X8_of cA h0 h0_filter h0_filter_numbers h0_trial h0_kept h0_ways h0_spread h0_course h0_rows h0_changes h0_tape h0_bodies h0_causes h0_filter_words s0__hasImage s0__hasCauses s0__stepsDone s0_filter__all s0_filter__v s0_filter__loss s0_filter__result s0_filter__over s0_filter__heldAll s0_filter__heldRounded s0_filter_numbers) s.heap := hP
  have hD : va_D A (wm_X8_of cA h0 h0_filter h0_filter_numbers h0_trial h0_kept h0_ways h0_spread h0_course h0_rows h0_changes h0_tape h0_bodies h0_causes h0_filter_words s0__hasImage s0__hasCauses s0__stepsDone s0_filter__all s0_filter__v s0_filter__loss s0_filter__result s0_filter__over s0_filter__heldAll s0_filter__heldRounded s0_filter_numbers) := hD
  unfold fX8_isWordNumber at hok
  refine lv_iload_n hx hb dX8_isWordNumber_0 rfl (lv_at hl 1 rfl) ?_
  refine lv_iconst (v := 1) hx hb dX8_isWordNumber_1 (by decide) ?_
  refine lv_icmp_lt (tgt := 27) hx hb dX8_isWordNumber_2 (by decide) (fun c => ?_) (fun c => ?_)
  · replace hok := g_pos hok c
    refine lv_iconst (v := 0) hx hb dX8_isWordNumber_27 (by decide) ?_
    cases hok
    exact cr_z (ty := .boolean) (by decide +kernel) hx hb hr hlocks hQ dX8_isWordNumber_28 hP hS
  replace hok := g_neg hok c
  refine lv_iload_n hx hb dX8_isWordNumber_5 rfl (lv_at hl 1 rfl) ?_
  refine lv_iconst (v := 3) hx hb dX8_isWordNumber_6 (by decide) ?_
  refine lv_icmp_gt (tgt := 27) hx hb dX8_isWordNumber_7 (by decide) (fun c => ?_) (fun c => ?_)
  · replace hok := g_pos hok c
    refine lv_iconst (v := 0) hx hb dX8_isWordNumber_27 (by decide) ?_
    cases hok
    exact cr_z (ty := .boolean) (by decide +kernel) hx hb hr hlocks hQ dX8_isWordNumber_28 hP hS
  replace hok := g_neg hok c
  refine lv_iload_n hx hb dX8_isWordNumber_10 rfl (lv_at hl 1 rfl) ?_
  refine lv_aload_n hx hb dX8_isWordNumber_11 rfl (lv_at hl 0 rfl) ?_
  refine va_get (ci := 8) (v := .ref h0_filter) (C := RX8) (T := TX8) (N := 14) hx hb hts hinX8 hown hK hP 0 rfl rfl 0 (by decide) (hts _ (List.mem_of_getElem? (i := 1) rfl)) (fun _ h9 => h9) rfl dX8_isWordNumber_12 ?_
  refine va_get (ci := 3) (v := .ref h0_filter_numbers) (C := RX3) (T := TX3) (N := 9) hx hb hts hinX3 hown hK hP 1 rfl rfl 0 (by decide) (hts _ (List.mem_of_getElem? (i := 2) rfl)) (fun _ h9 => h9) rfl dX8_isWordNumber_15 ?_
  refine lv_iconst (v := 0) hx hb dX8_isWordNumber_18 (by decide) ?_
  refine x_iald (k := 0) hx hb hK hP 2 0 rfl rfl (show ¬ ((0:Int32) < 0 ∨ 10 ≤ (0:Int32).toNatClampNeg) by decide) (by decide) dX8_isWordNumber_19 ?_
  refine lv_icmp_gt (tgt := 27) hx hb dX8_isWordNumber_20 (by decide) (fun c => ?_) (fun c => ?_)
  · replace hok := g_pos hok c
    refine lv_iconst (v := 0) hx hb dX8_isWordNumber_27 (by decide) ?_
    cases hok
    exact cr_z (ty := .boolean) (by decide +kernel) hx hb hr hlocks hQ dX8_isWordNumber_28 hP hS
  replace hok := g_neg hok c
  refine lv_iconst (v := 1) hx hb dX8_isWordNumber_23 (by decide) ?_
  refine lv_goto (tgt := 28) hx hb dX8_isWordNumber_24 (by decide) ?_
  cases hok
  exact cr_z (ty := .boolean) (by decide +kernel) hx hb hr hlocks hQ dX8_isWordNumber_28 hP hS
set_option maxHeartbeats 40000000 in
set_option maxRecDepth 100000 in
theorem c_X8_past (l : Launch) (G : va_G) (cA : Nat → ClassId) (ts : Nat → Nat) (h0 : Nat) (h0_filter : Nat) (h0_filter_numbers : Nat) (h0_filter_words : Nat) (h0_trial : Nat) (h0_kept : Nat) (h0_ways : Nat) (h0_spread : Nat) (h0_course : Nat) (h0_rows : Nat) (h0_changes : Nat) (h0_tape : Nat) (h0_bodies : Nat) (h0_causes : Nat) (x1 : Int32) (x2 : Int32) (s0__hasImage : Int32) (s0__hasCauses : Int32) (s0__stepsDone : Int32) (s0_filter__all : Int32) (s0_filter__v : Int32) (s0_filter__loss : Int32) (s0_filter__result : Int32) (s0_filter__over : Int32) (s0_filter__heldAll : Int32) (s0_filter__heldRounded : Int32) (s0_filter_numbers : Nat → Int32) (s0_filter_words : Nat → Int32) (r : Int32) (o0_filter_words : Nat → Int32) (hok : fX8_past x1 x2 s0_filter_numbers s0_filter_words = some (r, o0_filter_words)) : Ct l G cA ts yX8_past wsX8_past 3 81 [.ref h0, .int x1, .int x2] (wm_X8_past cA h0 h0_filter h0_filter_numbers h0_filter_words h0_trial h0_kept h0_ways h0_spread h0_course h0_rows h0_changes h0_tape h0_bodies h0_causes s0__hasImage s0__hasCauses s0__stepsDone s0_filter__all s0_filter__v s0_filter__loss s0_filter__result s0_filter__over s0_filter__heldAll s0_filter__heldRounded s0_filter_numbers s0_filter_words) (wm_X8_past cA h0 h0_filter h0_filter_numbers h0_filter_words h0_trial h0_kept h0_ways h0_spread h0_course h0_rows h0_changes h0_tape h0_bodies h0_causes s0__hasImage s0__hasCauses s0__stepsDone s0_filter__all s0_filter__v s0_filter__loss s0_filter__result s0_filter__over s0_filter__heldAll s0_filter__heldRounded s0_filter_numbers o0_filter_words) (some (.int r)) := by
  refine Ct.intro (cc := cX8_past) (maxL := 4) (ret := some .int) (by decide +kernel) rfl (Nat.le_of_ble_eq_true rfl) ?_
  intro p e s m ar below meth c A Q hx hb hr hml hown hlocks hts hK hZ hA hQ hP hD hS ls hl
  have hown : s.vm.findClass RX8 = some m.cls := hown
  have hinX3 : ∀ w ∈ wsX30, w ∈ wsX8_past := fun _ h => List.mem_cons_of_mem _ (List.mem_append_right _ (h))
  have hinX8 : ∀ w ∈ wsX80, w ∈ wsX8_past := fun _ h => List.mem_cons_of_mem _ (List.mem_append_left _ (List.mem_append_right _ (h)))
  have hl : lv_has ls 4 [(0, .ref h0), (1, .int x1), (2, .int x2)] := hl
  have hP : va_P G vwCl (wm_X8_past cA h0 h0_filter h0_filter_numbers h0_filter_words h0_trial h0_kept h0_ways h0_spread h0_course h0_rows h0_changes h0_tape h0_bodies h0_causes s0__hasImage s0__hasCauses s0__stepsDone s0_filter__all s0_filter__v s0_filter__loss s0_filter__result s0_filter__over s0_filter__heldAll s0_filter__heldRounded s0_filter_numbers s0_filter_words) s.heap := hP
  have hD : va_D A (wm_X8_past cA h0 h0_filter h0_filter_numbers h0_filter_words h0_trial h0_kept h0_ways h0_spread h0_course h0_rows h0_changes h0_tape h0_bodies h0_causes s0__hasImage s0__hasCauses s0__stepsDone s0_filter__all s0_filter__v s0_filter__loss s0_filter__result s0_filter__over s0_filter__heldAll s0_filter__heldRounded s0_filter_numbers s0_filter_words) := hD
  unfold fX8_past at hok
  refine lv_aload_n hx hb dX8_past_0 rfl (lv_at hl 0 rfl) ?_
  refine lv_iload_n hx hb dX8_past_1 rfl (lv_at hl 1 rfl) ?_
  obtain ⟨r1, hq, hok⟩ := g_bnd1 hok
  refine cG (is := [0, 1, 2]) (wc := (wm_X8_of cA h0 h0_filter h0_filter_numbers h0_trial h0_kept h0_ways h0_spread h0_course h0_rows h0_changes h0_tape h0_bodies h0_causes h0_filter_words s0__hasImage s0__hasCauses s0__stepsDone s0_filter__all s0_filter__v s0_filter__loss s0_filter__result s0_filter__over s0_filter__heldAll s0_filter__heldRounded s0_filter_numbers)) (w1 := (wm_X8_of cA h0 h0_filter h0_filter_numbers h0_trial h0_kept h0_ways h0_spread h0_course h0_rows h0_changes h0_tape h0_bodies h0_causes h0_filter_words s0__hasImage s0__hasCauses s0__stepsDone s0_filter__all s0_filter__v s0_filter__loss s0_filter__result s0_filter__over s0_filter__heldAll s0_filter__heldRounded s0_filter_numbers)) (rv := (some (.int r1))) (st1 := [.int r1]) (va_runV (Ts := wsX8_past) (As := [.int x1]) (rest := []) ⟨hx, hb, hml, hown, hts⟩ (c_X8_isWordNumber l G cA ts h0 h0_filter h0_filter_numbers h0_trial h0_kept h0_ways h0_spread h0_course h0_rows h0_changes h0_tape h0_bodies h0_causes h0_filter_words x1 s0__hasImage s0__hasCauses s0__stepsDone s0_filter__all s0_filter__v s0_filter__loss s0_filter__result s0_filter__over s0_filter__heldAll s0_filter__heldRounded s0_filter_numbers r1 hq s.heap.size) (cwV 1 hts gX8_past_X8_isWordNumber rfl rfl rfl (by decide +kernel) ⟨Nat.le_of_ble_eq_true rfl, Nat.le_of_ble_eq_true rfl⟩) (pre_V (ci := 8) (q0 := 0) (is := [0, 1, 2]) rfl rfl hP hD hS hA hK hZ (by decide +kernel) (by rfl)) rfl rfl hl.1 rfl (by exact lv_room (Nat.le_of_ble_eq_true rfl)) dX8_past_2 ⟨Nat.le_refl _, Nat.le_refl _⟩) hP hD hS hA (by decide +kernel) (by rfl) (by rfl) rfl (fun H locs hP hD hS => ?_)
  have hP : va_P G vwCl (wm_X8_past cA h0 h0_filter h0_filter_numbers h0_filter_words h0_trial h0_kept h0_ways h0_spread h0_course h0_rows h0_changes h0_tape h0_bodies h0_causes s0__hasImage s0__hasCauses s0__stepsDone s0_filter__all s0_filter__v s0_filter__loss s0_filter__result s0_filter__over s0_filter__heldAll s0_filter__heldRounded s0_filter_numbers s0_filter_words) H := hP
  have hD : va_D A (wm_X8_past cA h0 h0_filter h0_filter_numbers h0_filter_words h0_trial h0_kept h0_ways h0_spread h0_course h0_rows h0_changes h0_tape h0_bodies h0_causes s0__hasImage s0__hasCauses s0__stepsDone s0_filter__all s0_filter__v s0_filter__loss s0_filter__result s0_filter__over s0_filter__heldAll s0_filter__heldRounded s0_filter_numbers s0_filter_words) := hD
  refine lv_if_eq (tgt := 19) hx hb dX8_past_5 (by decide) (fun c => ?_) (fun c => ?_)
  · replace hok := g_pos hok c
    refine lv_sipush (v := -1001) hx hb dX8_past_19 (by decide) ?_
    cases hok
    exact cr_i hx hb hr hlocks hQ dX8_past_22 hP hS
  replace hok := g_neg hok c
  refine lv_aload_n hx hb dX8_past_8 rfl (lv_at hl 0 rfl) ?_
  refine va_get (ci := 8) (v := .ref h0_filter) (C := RX8) (T := TX8) (N := 14) hx hb hts hinX8 hown hK hP 0 rfl rfl 0 (by decide) (hts _ (List.mem_of_getElem? (i := 1) rfl)) (fun _ h9 => h9) rfl dX8_past_9 ?_
  refine lv_iload_n hx hb dX8_past_12 rfl (lv_at hl 2 rfl) ?_
  obtain ⟨r2, hq, hok⟩ := g_bnd1 hok
  refine cG (is := [1, 2]) (wc := (wm_X3_unit cA h0_filter h0_filter_numbers h0_filter_words s0_filter__all s0_filter__v s0_filter__loss s0_filter__result s0_filter__over s0_filter__heldAll s0_filter__heldRounded s0_filter_numbers)) (w1 := (wm_X3_unit cA h0_filter h0_filter_numbers h0_filter_words s0_filter__all s0_filter__v s0_filter__loss s0_filter__result s0_filter__over s0_filter__heldAll s0_filter__heldRounded s0_filter_numbers)) (rv := (some (.int r2))) (st1 := [.int r2]) (va_runV (Ts := wsX8_past) (As := [.int x2]) (rest := []) ⟨hx, hb, hml, hown, hts⟩ (c_X3_holds l G cA ts h0_filter h0_filter_numbers h0_filter_words x2 s0_filter__all s0_filter__v s0_filter__loss s0_filter__result s0_filter__over s0_filter__heldAll s0_filter__heldRounded s0_filter_numbers r2 hq H.size) (cwV 1 hts gX8_past_X3_holds rfl rfl rfl (by decide +kernel) ⟨Nat.le_of_ble_eq_true rfl, Nat.le_of_ble_eq_true rfl⟩) (pre_V (ci := 3) (q0 := 1) (is := [1, 2]) rfl rfl hP hD hS hA hK hZ (by decide +kernel) (by rfl)) rfl rfl hl.1 rfl (by exact lv_room (Nat.le_of_ble_eq_true rfl)) dX8_past_13 ⟨Nat.le_refl _, Nat.le_refl _⟩) hP hD hS hA (by decide +kernel) (by rfl) (by rfl) rfl (fun H locs hP hD hS => ?_)
  have hP : va_P G vwCl (wm_X8_past cA h0 h0_filter h0_filter_numbers h0_filter_words h0_trial h0_kept h0_ways h0_spread h0_course h0_rows h0_changes h0_tape h0_bodies h0_causes s0__hasImage s0__hasCauses s0__stepsDone s0_filter__all s0_filter__v s0_filter__loss s0_filter__result s0_filter__over s0_filter__heldAll s0_filter__heldRounded s0_filter_numbers s0_filter_words) H := hP
  have hD : va_D A (wm_X8_past cA h0 h0_filter h0_filter_numbers h0_filter_words h0_trial h0_kept h0_ways h0_spread h0_course h0_rows h0_changes h0_tape h0_bodies h0_causes s0__hasImage s0__hasCauses s0__stepsDone s0_filter__all s0_filter__v s0_filter__loss s0_filter__result s0_filter__over s0_filter__heldAll s0_filter__heldRounded s0_filter_numbers s0_filter_words) := hD
  refine lv_if_ne (tgt := 23) hx hb dX8_past_16 (by decide) (fun c => ?_) (fun c => ?_)
  · replace hok := g_neg hok c
    refine lv_aload_n hx hb dX8_past_23 rfl (lv_at hl 0 rfl) ?_
    refine va_get (ci := 8) (v := .ref h0_filter) (C := RX8) (T := TX8) (N := 14) hx hb hts hinX8 hown hK hP 0 rfl rfl 0 (by decide) (hts _ (List.mem_of_getElem? (i := 1) rfl)) (fun _ h9 => h9) rfl dX8_past_24 ?_
    refine va_get (ci := 3) (v := .ref h0_filter_words) (C := RX3) (T := TX3) (N := 9) hx hb hts hinX3 hown hK hP 1 rfl rfl 1 (by decide) (hts _ (List.mem_of_getElem? (i := 2) rfl)) (fun _ h9 => h9) rfl dX8_past_27 ?_
    refine lv_iload_n hx hb dX8_past_30 rfl (lv_at hl 1 rfl) ?_
    refine lv_iconst (v := 1) hx hb dX8_past_31 (by decide) ?_
    refine lv_isub hx hb dX8_past_32 ?_
    obtain ⟨hin, hok⟩ := g_no hok
    refine x_iald (k := (x1 - (1:Int32)).toNatClampNeg) hx hb hK hP 3 0 rfl rfl hin rfl dX8_past_33 ?_
    refine lv_istore_n (lv' := [(3, .int (s0_filter_words (x1 - (1:Int32)).toNatClampNeg)), (0, .ref h0), (1, .int x1), (2, .int x2)]) hx hb dX8_past_34 rfl hl (by decide) rfl (fun ls hl => ?_)
    refine lv_aload_n hx hb dX8_past_35 rfl (lv_at hl 1 rfl) ?_
    refine va_get (ci := 8) (v := .ref h0_filter) (C := RX8) (T := TX8) (N := 14) hx hb hts hinX8 hown hK hP 0 rfl rfl 0 (by decide) (hts _ (List.mem_of_getElem? (i := 1) rfl)) (fun _ h9 => h9) rfl dX8_past_36 ?_
    refine va_get (ci := 3) (v := .ref h0_filter_words) (C := RX3) (T := TX3) (N := 9) hx hb hts hinX3 hown hK hP 1 rfl rfl 1 (by decide) (hts _ (List.mem_of_getElem? (i := 2) rfl)) (fun _ h9 => h9) rfl dX8_past_39 ?_
    refine lv_iload_n hx hb dX8_past_42 rfl (lv_at hl 2 rfl) ?_
    refine lv_iconst (v := 1) hx hb dX8_past_43 (by decide) ?_
    refine lv_isub hx hb dX8_past_44 ?_
    refine lv_iload_n hx hb dX8_past_45 rfl (lv_at hl 3 rfl) ?_
    obtain ⟨hin, hok⟩ := g_no hok
    refine x_iast (k := (x1 - (1:Int32)).toNatClampNeg) hx hb hK hP hD hS 3 0 rfl rfl hin rfl dX8_past_46 (fun H locs hP hD hS => ?_)
    have hP : va_P G vwCl (wm_X8_past cA h0 h0_filter h0_filter_numbers h0_filter_words h0_trial h0_kept h0_ways h0_spread h0_course h0_rows h0_changes h0_tape h0_bodies h0_causes s0__hasImage s0__hasCauses s0__stepsDone s0_filter__all s0_filter__v s0_filter__loss s0_filter__result s0_filter__over s0_filter__heldAll s0_filter__heldRounded s0_filter_numbers (upd s0_filter_words (x1 - (1:Int32)).toNatClampNeg x2)) H := hP
    have hD : va_D A (wm_X8_past cA h0 h0_filter h0_filter_numbers h0_filter_words h0_trial h0_kept h0_ways h0_spread h0_course h0_rows h0_changes h0_tape h0_bodies h0_causes s0__hasImage s0__hasCauses s0__stepsDone s0_filter__all s0_filter__v s0_filter__loss s0_filter__result s0_filter__over s0_filter__heldAll s0_filter__heldRounded s0_filter_numbers (upd s0_filter_words (x1 - (1:Int32)).toNatClampNeg x2)) := hD
    refine lv_iload_n hx hb dX8_past_47 rfl (lv_at hl 0 rfl) ?_
    cases hok
    exact cr_i hx hb hr hlocks hQ dX8_past_48 hP hS
  replace hok := g_pos hok c
  refine lv_sipush (v := -1001) hx hb dX8_past_19 (by decide) ?_
  cases hok
  exact cr_i hx hb hr hlocks hQ dX8_past_22 hP hS
set_option maxHeartbeats 40000000 in
set_option maxRecDepth 100000 in
theorem c_X8_word (l : Launch) (G : va_G) (cA : Nat → ClassId) (ts : Nat → Nat) (h0 : Nat) (h0_filter : Nat) (h0_filter_numbers : Nat) (h0_filter_words : Nat) (h0_trial : Nat) (h0_kept : Nat) (h0_ways : Nat) (h0_spread : Nat) (h0_course : Nat) (h0_rows : Nat) (h0_changes : Nat) (h0_tape : Nat) (h0_bodies : Nat) (h0_causes : Nat) (x1 : Int32) (s0__hasImage : Int32) (s0__hasCauses : Int32) (s0__stepsDone : Int32) (s0_filter__all : Int32) (s0_filter__v : Int32) (s0_filter__loss : Int32) (s0_filter__result : Int32) (s0_filter__over : Int32) (s0_filter__heldAll : Int32) (s0_filter__heldRounded : Int32) (s0_filter_numbers : Nat → Int32) (s0_filter_words : Nat → Int32) (r : Int32) (hok : fX8_word x1 s0_filter_numbers s0_filter_words = some r) : Ct l G cA ts yX8_word wsX8_word 2 61 [.ref h0, .int x1] (wm_X8_past cA h0 h0_filter h0_filter_numbers h0_filter_words h0_trial h0_kept h0_ways h0_spread h0_course h0_rows h0_changes h0_tape h0_bodies h0_causes s0__hasImage s0__hasCauses s0__stepsDone s0_filter__all s0_filter__v s0_filter__loss s0_filter__result s0_filter__over s0_filter__heldAll s0_filter__heldRounded s0_filter_numbers s0_filter_words) (wm_X8_past cA h0 h0_filter h0_filter_numbers h0_filter_words h0_trial h0_kept h0_ways h0_spread h0_course h0_rows h0_changes h0_tape h0_bodies h0_causes s0__hasImage s0__hasCauses s0__stepsDone s0_filter__all s0_filter__v s0_filter__loss s0_filter__result s0_filter__over s0_filter__heldAll s0_filter__heldRounded s0_filter_numbers s0_filter_words) (some (.int r)) := by
  refine Ct.intro (cc := cX8_word) (maxL := 2) (ret := some .int) (by decide +kernel) rfl (Nat.le_of_ble_eq_true rfl) ?_
  intro p e s m ar below meth c A Q hx hb hr hml hown hlocks hts hK hZ hA hQ hP hD hS ls hl
  have hown : s.vm.findClass RX8 = some m.cls := hown
  have hinX3 : ∀ w ∈ wsX30, w ∈ wsX8_word := fun _ h => List.mem_cons_of_mem _ (List.mem_append_right _ (h))
  have hinX8 : ∀ w ∈ wsX80, w ∈ wsX8_word := fun _ h => List.mem_cons_of_mem _ (List.mem_append_left _ (List.mem_append_right _ (h)))
  have hl : lv_has ls 2 [(0, .ref h0), (1, .int x1)] := hl
  have hP : va_P G vwCl (wm_X8_past cA h0 h0_filter h0_filter_numbers h0_filter_words h0_trial h0_kept h0_ways h0_spread h0_course h0_rows h0_changes h0_tape h0_bodies h0_causes s0__hasImage s0__hasCauses s0__stepsDone s0_filter__all s0_filter__v s0_filter__loss s0_filter__result s0_filter__over s0_filter__heldAll s0_filter__heldRounded s0_filter_numbers s0_filter_words) s.heap := hP
  have hD : va_D A (wm_X8_past cA h0 h0_filter h0_filter_numbers h0_filter_words h0_trial h0_kept h0_ways h0_spread h0_course h0_rows h0_changes h0_tape h0_bodies h0_causes s0__hasImage s0__hasCauses s0__stepsDone s0_filter__all s0_filter__v s0_filter__loss s0_filter__result s0_filter__over s0_filter__heldAll s0_filter__heldRounded s0_filter_numbers s0_filter_words) := hD
  unfold fX8_word at hok
  refine lv_aload_n hx hb dX8_word_0 rfl (lv_at hl 0 rfl) ?_
  refine lv_iload_n hx hb dX8_word_1 rfl (lv_at hl 1 rfl) ?_
  obtain ⟨r1, hq, hok⟩ := g_bnd1 hok
  refine cG (is := [0, 1, 2]) (wc := (wm_X8_of cA h0 h0_filter h0_filter_numbers h0_trial h0_kept h0_ways h0_spread h0_course h0_rows h0_changes h0_tape h0_bodies h0_causes h0_filter_words s0__hasImage s0__hasCauses s0__stepsDone s0_filter__all s0_filter__v s0_filter__loss s0_filter__result s0_filter__over s0_filter__heldAll s0_filter__heldRounded s0_filter_numbers)) (w1 := (wm_X8_of cA h0 h0_filter h0_filter_numbers h0_trial h0_kept h0_ways h0_spread h0_course h0_rows h0_changes h0_tape h0_bodies h0_causes h0_filter_words s0__hasImage s0__hasCauses s0__stepsDone s0_filter__all s0_filter__v s0_filter__loss s0_filter__result s0_filter__over s0_filter__heldAll s0_filter__heldRounded s0_filter_numbers)) (rv := (some (.int r1))) (st1 := [.int r1]) (va_runV (Ts := wsX8_word) (As := [.int x1]) (rest := []) ⟨hx, hb, hml, hown, hts⟩ (c_X8_isWordNumber l G cA ts h0 h0_filter h0_filter_numbers h0_trial h0_kept h0_ways h0_spread h0_course h0_rows h0_changes h0_tape h0_bodies h0_causes h0_filter_words x1 s0__hasImage s0__hasCauses s0__stepsDone s0_filter__all s0_filter__v s0_filter__loss s0_filter__result s0_filter__over s0_filter__heldAll s0_filter__heldRounded s0_filter_numbers r1 hq s.heap.size) (cwV 1 hts gX8_word_X8_isWordNumber rfl rfl rfl (by decide +kernel) ⟨Nat.le_of_ble_eq_true rfl, Nat.le_of_ble_eq_true rfl⟩) (pre_V (ci := 8) (q0 := 0) (is := [0, 1, 2]) rfl rfl hP hD hS hA hK hZ (by decide +kernel) (by rfl)) rfl rfl hl.1 rfl (by exact lv_room (Nat.le_of_ble_eq_true rfl)) dX8_word_2 ⟨Nat.le_refl _, Nat.le_refl _⟩) hP hD hS hA (by decide +kernel) (by rfl) (by rfl) rfl (fun H locs hP hD hS => ?_)
  have hP : va_P G vwCl (wm_X8_past cA h0 h0_filter h0_filter_numbers h0_filter_words h0_trial h0_kept h0_ways h0_spread h0_course h0_rows h0_changes h0_tape h0_bodies h0_causes s0__hasImage s0__hasCauses s0__stepsDone s0_filter__all s0_filter__v s0_filter__loss s0_filter__result s0_filter__over s0_filter__heldAll s0_filter__heldRounded s0_filter_numbers s0_filter_words) H := hP
  have hD : va_D A (wm_X8_past cA h0 h0_filter h0_filter_numbers h0_filter_words h0_trial h0_kept h0_ways h0_spread h0_course h0_rows h0_changes h0_tape h0_bodies h0_causes s0__hasImage s0__hasCauses s0__stepsDone s0_filter__all s0_filter__v s0_filter__loss s0_filter__result s0_filter__over s0_filter__heldAll s0_filter__heldRounded s0_filter_numbers s0_filter_words) := hD
  refine lv_if_eq (tgt := 22) hx hb dX8_word_5 (by decide) (fun c => ?_) (fun c => ?_)
  · replace hok := g_pos hok c
    refine lv_sipush (v := -1001) hx hb dX8_word_22 (by decide) ?_
    cases hok
    exact cr_i hx hb hr hlocks hQ dX8_word_25 hP hS
  replace hok := g_neg hok c
  refine lv_aload_n hx hb dX8_word_8 rfl (lv_at hl 0 rfl) ?_
  refine va_get (ci := 8) (v := .ref h0_filter) (C := RX8) (T := TX8) (N := 14) hx hb hts hinX8 hown hK hP 0 rfl rfl 0 (by decide) (hts _ (List.mem_of_getElem? (i := 1) rfl)) (fun _ h9 => h9) rfl dX8_word_9 ?_
  refine va_get (ci := 3) (v := .ref h0_filter_words) (C := RX3) (T := TX3) (N := 9) hx hb hts hinX3 hown hK hP 1 rfl rfl 1 (by decide) (hts _ (List.mem_of_getElem? (i := 2) rfl)) (fun _ h9 => h9) rfl dX8_word_12 ?_
  refine lv_iload_n hx hb dX8_word_15 rfl (lv_at hl 1 rfl) ?_
  refine lv_iconst (v := 1) hx hb dX8_word_16 (by decide) ?_
  refine lv_isub hx hb dX8_word_17 ?_
  obtain ⟨hin, hok⟩ := g_no hok
  refine x_iald (k := (x1 - (1:Int32)).toNatClampNeg) hx hb hK hP 3 0 rfl rfl hin rfl dX8_word_18 ?_
  refine lv_goto (tgt := 25) hx hb dX8_word_19 (by decide) ?_
  cases hok
  exact cr_i hx hb hr hlocks hQ dX8_word_25 hP hS
set_option maxHeartbeats 40000000 in
set_option maxRecDepth 100000 in
theorem c_X8_isInput (l : Launch) (G : va_G) (cA : Nat → ClassId) (ts : Nat → Nat) (x0 : Int32) (r : Int32) (hok : fX8_isInput x0 = some r) : Ct l G cA ts yX8_isInput wsX8_isInput 1 40 [.int x0] (wm_X0_find cA) (wm_X0_find cA) (some (.int r)) := by
  refine Ct.intro (cc := cX8_isInput) (maxL := 1) (ret := some .boolean) (by decide +kernel) rfl (Nat.le_of_ble_eq_true rfl) ?_
  intro p e s m ar below meth c A Q hx hb hr hml hown hlocks hts hK hZ hA hQ hP hD hS ls hl
  have hown : s.vm.findClass RX8 = some m.cls := hown
  have hl : lv_has ls 1 [(0, .int x0)] := hl
  have hP : va_P G vwCl (wm_X0_find cA) s.heap := hP
  have hD : va_D A (wm_X0_find cA) := hD
  unfold fX8_isInput at hok
  refine lv_iload_n hx hb dX8_isInput_0 rfl (lv_at hl 0 rfl) ?_
  refine lv_bipush (v := -99) hx hb dX8_isInput_1 (by decide) ?_
  refine lv_icmp_lt (tgt := 16) hx hb dX8_isInput_3 (by decide) (fun c => ?_) (fun c => ?_)
  · replace hok := g_pos hok c
    refine lv_iconst (v := 0) hx hb dX8_isInput_16 (by decide) ?_
    cases hok
    exact cr_z (ty := .boolean) (by decide +kernel) hx hb hr hlocks hQ dX8_isInput_17 hP hS
  replace hok := g_neg hok c
  refine lv_iload_n hx hb dX8_isInput_6 rfl (lv_at hl 0 rfl) ?_
  refine lv_bipush (v := 99) hx hb dX8_isInput_7 (by decide) ?_
  refine lv_icmp_gt (tgt := 16) hx hb dX8_isInput_9 (by decide) (fun c => ?_) (fun c => ?_)
  · replace hok := g_pos hok c
    refine lv_iconst (v := 0) hx hb dX8_isInput_16 (by decide) ?_
    cases hok
    exact cr_z (ty := .boolean) (by decide +kernel) hx hb hr hlocks hQ dX8_isInput_17 hP hS
  replace hok := g_neg hok c
  refine lv_iconst (v := 1) hx hb dX8_isInput_12 (by decide) ?_
  refine lv_goto (tgt := 17) hx hb dX8_isInput_13 (by decide) ?_
  cases hok
  exact cr_z (ty := .boolean) (by decide +kernel) hx hb hr hlocks hQ dX8_isInput_17 hP hS
set_option maxHeartbeats 40000000 in
set_option maxRecDepth 100000 in
theorem c_X8_tellCauses (l : Launch) (G : va_G) (cA : Nat → ClassId) (ts : Nat → Nat) (h0 : Nat) (h0_causes : Nat) (h0_filter : Nat) (h0_trial : Nat) (h0_kept : Nat) (h0_ways : Nat) (h0_spread : Nat) (h0_course : Nat) (h0_rows : Nat) (h0_changes : Nat) (h0_tape : Nat) (h0_bodies : Nat) (x1 : Int32) (x2 : Int32) (x3 : Int32) (s0__hasImage : Int32) (s0__hasCauses : Int32) (s0__stepsDone : Int32) (s0_causes : Nat → Int32) (o0__hasCauses : Int32) (o0_causes : Nat → Int32) (hok : fX8_tellCauses x1 x2 x3 s0__hasCauses s0_causes = some (o0__hasCauses, o0_causes)) : Ct l G cA ts yX8_tellCauses wsX8_tellCauses 1 40 [.ref h0, .int x1, .int x2, .int x3] (wm_X8_tellCauses cA h0 h0_causes h0_filter h0_trial h0_kept h0_ways h0_spread h0_course h0_rows h0_changes h0_tape h0_bodies s0__hasImage s0__hasCauses s0__stepsDone s0_causes) (wm_X8_tellCauses cA h0 h0_causes h0_filter h0_trial h0_kept h0_ways h0_spread h0_course h0_rows h0_changes h0_tape h0_bodies s0__hasImage o0__hasCauses s0__stepsDone o0_causes) none := by
  refine Ct.intro (cc := cX8_tellCauses) (maxL := 4) (ret := none) (by decide +kernel) rfl (Nat.le_of_ble_eq_true rfl) ?_
  intro p e s m ar below meth c A Q hx hb hr hml hown hlocks hts hK hZ hA hQ hP hD hS ls hl
  have hown : s.vm.findClass RX8 = some m.cls := hown
  have hinX8 : ∀ w ∈ wsX80, w ∈ wsX8_tellCauses := fun _ h => List.mem_cons_of_mem _ (List.mem_append_right _ (h))
  have hl : lv_has ls 4 [(0, .ref h0), (1, .int x1), (2, .int x2), (3, .int x3)] := hl
  have hP : va_P G vwCl (wm_X8_tellCauses cA h0 h0_causes h0_filter h0_trial h0_kept h0_ways h0_spread h0_course h0_rows h0_changes h0_tape h0_bodies s0__hasImage s0__hasCauses s0__stepsDone s0_causes) s.heap := hP
  have hD : va_D A (wm_X8_tellCauses cA h0 h0_causes h0_filter h0_trial h0_kept h0_ways h0_spread h0_course h0_rows h0_changes h0_tape h0_bodies s0__hasImage s0__hasCauses s0__stepsDone s0_causes) := hD
  unfold fX8_tellCauses at hok
  refine lv_aload_n hx hb dX8_tellCauses_0 rfl (lv_at hl 0 rfl) ?_
  refine va_get (ci := 8) (v := .ref h0_causes) (C := RX8) (T := TX8) (N := 14) hx hb hts hinX8 hown hK hP 0 rfl rfl 11 (by decide) (hts _ (List.mem_of_getElem? (i := 1) rfl)) (fun _ h9 => h9) rfl dX8_tellCauses_1 ?_
  refine lv_iconst (v := 0) hx hb dX8_tellCauses_4 (by decide) ?_
  refine lv_iload_n hx hb dX8_tellCauses_5 rfl (lv_at hl 1 rfl) ?_
  refine x_iast (k := 0) hx hb hK hP hD hS 1 0 rfl rfl (show ¬ ((0:Int32) < 0 ∨ 3 ≤ (0:Int32).toNatClampNeg) by decide) (by decide) dX8_tellCauses_6 (fun H locs hP hD hS => ?_)
  have hP : va_P G vwCl (wm_X8_tellCauses cA h0 h0_causes h0_filter h0_trial h0_kept h0_ways h0_spread h0_course h0_rows h0_changes h0_tape h0_bodies s0__hasImage s0__hasCauses s0__stepsDone (upd s0_causes 0 x1)) H := hP
  have hD : va_D A (wm_X8_tellCauses cA h0 h0_causes h0_filter h0_trial h0_kept h0_ways h0_spread h0_course h0_rows h0_changes h0_tape h0_bodies s0__hasImage s0__hasCauses s0__stepsDone (upd s0_causes 0 x1)) := hD
  refine lv_aload_n hx hb dX8_tellCauses_7 rfl (lv_at hl 0 rfl) ?_
  refine va_get (ci := 8) (v := .ref h0_causes) (C := RX8) (T := TX8) (N := 14) hx hb hts hinX8 hown hK hP 0 rfl rfl 11 (by decide) (hts _ (List.mem_of_getElem? (i := 1) rfl)) (fun _ h9 => h9) rfl dX8_tellCauses_8 ?_
  refine lv_iconst (v := 1) hx hb dX8_tellCauses_11 (by decide) ?_
  refine lv_iload_n hx hb dX8_tellCauses_12 rfl (lv_at hl 2 rfl) ?_
  refine x_iast (k := 1) hx hb hK hP hD hS 1 0 rfl rfl (show ¬ ((1:Int32) < 0 ∨ 3 ≤ (1:Int32).toNatClampNeg) by decide) (by decide) dX8_tellCauses_13 (fun H locs hP hD hS => ?_)
  have hP : va_P G vwCl (wm_X8_tellCauses cA h0 h0_causes h0_filter h0_trial h0_kept h0_ways h0_spread h0_course h0_rows h0_changes h0_tape h0_bodies s0__hasImage s0__hasCauses s0__stepsDone (upd (upd s0_causes 0 x1) 1 x2)) H := hP
  have hD : va_D A (wm_X8_tellCauses cA h0 h0_causes h0_filter h0_trial h0_kept h0_ways h0_spread h0_course h0_rows h0_changes h0_tape h0_bodies s0__hasImage s0__hasCauses s0__stepsDone (upd (upd s0_causes 0 x1) 1 x2)) := hD
  refine lv_aload_n hx hb dX8_tellCauses_14 rfl (lv_at hl 0 rfl) ?_
  refine va_get (ci := 8) (v := .ref h0_causes) (C := RX8) (T := TX8) (N := 14) hx hb hts hinX8 hown hK hP 0 rfl rfl 11 (by decide) (hts _ (List.mem_of_getElem? (i := 1) rfl)) (fun _ h9 => h9) rfl dX8_tellCauses_15 ?_
  refine lv_iconst (v := 2) hx hb dX8_tellCauses_18 (by decide) ?_
  refine lv_iload_n hx hb dX8_tellCauses_19 rfl (lv_at hl 3 rfl) ?_
  refine x_iast (k := 2) hx hb hK hP hD hS 1 0 rfl rfl (show ¬ ((2:Int32) < 0 ∨ 3 ≤ (2:Int32).toNatClampNeg) by decide) (by decide) dX8_tellCauses_20 (fun H locs hP hD hS => ?_)
  have hP : va_P G vwCl (wm_X8_tellCauses cA h0 h0_causes h0_filter h0_trial h0_kept h0_ways h0_spread h0_course h0_rows h0_changes h0_tape h0_bodies s0__hasImage s0__hasCauses s0__stepsDone (upd (upd (upd s0_causes 0 x1) 1 x2) 2 x3)) H := hP
  have hD : va_D A (wm_X8_tellCauses cA h0 h0_causes h0_filter h0_trial h0_kept h0_ways h0_spread h0_course h0_rows h0_changes h0_tape h0_bodies s0__hasImage s0__hasCauses s0__stepsDone (upd (upd (upd s0_causes 0 x1) 1 x2) 2 x3)) := hD
  refine lv_aload_n hx hb dX8_tellCauses_21 rfl (lv_at hl 0 rfl) ?_
  refine lv_iconst (v := 1) hx hb dX8_tellCauses_22 (by decide) ?_
  refine va_put (D := G) (ci := 8) (v := .int (1:Int32)) (ty := .boolean) (C := RX8) (T := TX8) (N := 14) hx hb hts hinX8 tyX8 tyX8_ok nmX8 hown hK hP hD hS 0 rfl rfl 12 (by decide) (hts _ (List.mem_of_getElem? (i := 2) rfl)) (fun _ h9 => h9) rfl (by decide +kernel) (by decide +kernel) (by decide +kernel) (Nat.le_of_ble_eq_true rfl) dX8_tellCauses_23 (fun H locs hP hD hS => ?_)
  have hP : va_P G vwCl (wm_X8_tellCauses cA h0 h0_causes h0_filter h0_trial h0_kept h0_ways h0_spread h0_course h0_rows h0_changes h0_tape h0_bodies s0__hasImage (1:Int32) s0__stepsDone (upd (upd (upd s0_causes 0 x1) 1 x2) 2 x3)) H := hP
  have hD : va_D A (wm_X8_tellCauses cA h0 h0_causes h0_filter h0_trial h0_kept h0_ways h0_spread h0_course h0_rows h0_changes h0_tape h0_bodies s0__hasImage (1:Int32) s0__stepsDone (upd (upd (upd s0_causes 0 x1) 1 x2) 2 x3)) := hD
  cases hok
  exact cr_v hx hb hr hlocks hQ dX8_tellCauses_26 hP hS
set_option maxHeartbeats 40000000 in
set_option maxRecDepth 100000 in
theorem c_X8_step (l : Launch) (G : va_G) (cA : Nat → ClassId) (ts : Nat → Nat) (h0 : Nat) (h0_filter : Nat) (h0_filter_numbers : Nat) (h0_filter_words : Nat) (h0_causes : Nat) (h0_trial : Nat) (h0_kept : Nat) (h0_ways : Nat) (h0_spread : Nat) (h0_course : Nat) (h0_rows : Nat) (h0_changes : Nat) (h0_tape : Nat) (h0_bodies : Nat) (x1 : Int32) (s0__hasImage : Int32) (s0__hasCauses : Int32) (s0__stepsDone : Int32) (s0_filter__all : Int32) (s0_filter__v : Int32) (s0_filter__loss : Int32) (s0_filter__result : Int32) (s0_filter__over : Int32) (s0_filter__heldAll : Int32) (s0_filter__heldRounded : Int32) (s0_filter_numbers : Nat → Int32) (s0_filter_words : Nat → Int32) (s0_causes : Nat → Int32) (r : Int32) (o0__hasCauses : Int32) (o0__stepsDone : Int32) (o0_filter__all : Int32) (o0_filter__v : Int32) (o0_filter__loss : Int32) (o0_filter__result : Int32) (o0_filter__over : Int32) (o0_filter__heldAll : Int32) (o0_filter__heldRounded : Int32) (o0_filter_words : Nat → Int32) (o0_causes : Nat → Int32) (hok : fX8_step x1 s0__hasCauses s0__stepsDone s0_filter__all s0_filter__v s0_filter__loss s0_filter__result s0_filter__over s0_filter__heldAll s0_filter__heldRounded s0_filter_numbers s0_filter_words s0_causes = some (r, o0__hasCauses, o0__stepsDone, o0_filter__all, o0_filter__v, o0_filter__loss, o0_filter__result, o0_filter__over, o0_filter__heldAll, o0_filter__heldRounded, o0_filter_words, o0_causes)) : Ct l G cA ts yX8_step wsX8_step 5 126 [.ref h0, .int x1] (wm_X8_step cA h0 h0_filter h0_filter_numbers h0_filter_words h0_causes h0_trial h0_kept h0_ways h0_spread h0_course h0_rows h0_changes h0_tape h0_bodies s0__hasImage s0__hasCauses s0__stepsDone s0_filter__all s0_filter__v s0_filter__loss s0_filter__result s0_filter__over s0_filter__heldAll s0_filter__heldRounded s0_filter_numbers s0_filter_words s0_causes) (wm_X8_step cA h0 h0_filter h0_filter_numbers h0_filter_words h0_causes h0_trial h0_kept h0_ways h0_spread h0_course h0_rows h0_changes h0_tape h0_bodies s0__hasImage o0__hasCauses o0__stepsDone o0_filter__all o0_filter__v o0_filter__loss o0_filter__result o0_filter__over o0_filter__heldAll o0_filter__heldRounded s0_filter_numbers o0_filter_words o0_causes) (some (.int r)) := by
  refine Ct.intro (cc := cX8_step) (maxL := 2) (ret := some .int) (by decide +kernel) rfl (Nat.le_of_ble_eq_true rfl) ?_
  intro p e s m ar below meth c A Q hx hb hr hml hown hlocks hts hK hZ hA hQ hP hD hS ls hl
  have hown : s.vm.findClass RX8 = some m.cls := hown
  have hinX3 : ∀ w ∈ wsX30, w ∈ wsX8_step := fun _ h => List.mem_cons_of_mem _ (List.mem_append_right _ (h))
  have hinX8 : ∀ w ∈ wsX80, w ∈ wsX8_step := fun _ h => List.mem_cons_of_mem _ (List.mem_append_left _ (List.mem_append_right _ (h)))
  have hl : lv_has ls 2 [(0, .ref h0), (1, .int x1)] := hl
  have hP : va_P G vwCl (wm_X8_step cA h0 h0_filter h0_filter_numbers h0_filter_words h0_causes h0_trial h0_kept h0_ways h0_spread h0_course h0_rows h0_changes h0_tape h0_bodies s0__hasImage s0__hasCauses s0__stepsDone s0_filter__all s0_filter__v s0_filter__loss s0_filter__result s0_filter__over s0_filter__heldAll s0_filter__heldRounded s0_filter_numbers s0_filter_words s0_causes) s.heap := hP
  have hD : va_D A (wm_X8_step cA h0 h0_filter h0_filter_numbers h0_filter_words h0_causes h0_trial h0_kept h0_ways h0_spread h0_course h0_rows h0_changes h0_tape h0_bodies s0__hasImage s0__hasCauses s0__stepsDone s0_filter__all s0_filter__v s0_filter__loss s0_filter__result s0_filter__over s0_filter__heldAll s0_filter__heldRounded s0_filter_numbers s0_filter_words s0_causes) := hD
  unfold fX8_step at hok
  refine lv_iload_n hx hb dX8_step_0 rfl (lv_at hl 1 rfl) ?_
  obtain ⟨r1, hq, hok⟩ := g_bnd1 hok
  refine cG (is := []) (wc := (wm_X0_find cA)) (w1 := (wm_X0_find cA)) (rv := (some (.int r1))) (st1 := [.int r1]) (va_runS (Ts := wsX8_step) (As := [.int x1]) (rest := []) ⟨hx, hb, hml, hown, hts⟩ (c_X8_isInput l G cA ts x1 r1 hq s.heap.size) (va_cwS 1 hts gX8_step_X8_isInput rfl rfl rfl (by decide +kernel) ⟨Nat.le_of_ble_eq_true rfl, Nat.le_of_ble_eq_true rfl⟩) (pre_S (is := []) hP hD hS hA hK hZ (by decide +kernel) (by rfl)) rfl rfl hl.1 rfl (by exact lv_room (Nat.le_of_ble_eq_true rfl)) dX8_step_1 ⟨Nat.le_refl _, Nat.le_refl _⟩) hP hD hS hA (by decide +kernel) (by rfl) (by rfl) rfl (fun H locs hP hD hS => ?_)
  have hP : va_P G vwCl (wm_X8_step cA h0 h0_filter h0_filter_numbers h0_filter_words h0_causes h0_trial h0_kept h0_ways h0_spread h0_course h0_rows h0_changes h0_tape h0_bodies s0__hasImage s0__hasCauses s0__stepsDone s0_filter__all s0_filter__v s0_filter__loss s0_filter__result s0_filter__over s0_filter__heldAll s0_filter__heldRounded s0_filter_numbers s0_filter_words s0_causes) H := hP
  have hD : va_D A (wm_X8_step cA h0 h0_filter h0_filter_numbers h0_filter_words h0_causes h0_trial h0_kept h0_ways h0_spread h0_course h0_rows h0_changes h0_tape h0_bodies s0__hasImage s0__hasCauses s0__stepsDone s0_filter__all s0_filter__v s0_filter__loss s0_filter__result s0_filter__over s0_filter__heldAll s0_filter__heldRounded s0_filter_numbers s0_filter_words s0_causes) := hD
  refine lv_if_ne (tgt := 11) hx hb dX8_step_4 (by decide) (fun c => ?_) (fun c => ?_)
  · replace hok := g_neg hok c
    refine lv_aload_n hx hb dX8_step_11 rfl (lv_at hl 0 rfl) ?_
    refine va_get (ci := 8) (v := .ref h0_filter) (C := RX8) (T := TX8) (N := 14) hx hb hts hinX8 hown hK hP 0 rfl rfl 0 (by decide) (hts _ (List.mem_of_getElem? (i := 1) rfl)) (fun _ h9 => h9) rfl dX8_step_12 ?_
    refine lv_iload_n hx hb dX8_step_15 rfl (lv_at hl 1 rfl) ?_
    obtain ⟨o2, o3, o4, o5, o6, o7, o8, hq, hok⟩ := g_bnd7 hok
    refine cG (is := [1, 2, 3]) (wc := (wm_X3_gather cA h0_filter h0_filter_numbers h0_filter_words s0_filter__all s0_filter__v s0_filter__loss s0_filter__result s0_filter__over s0_filter__heldAll s0_filter__heldRounded s0_filter_numbers s0_filter_words)) (w1 := (wm_X3_gather cA h0_filter h0_filter_numbers h0_filter_words o2 o3 o4 o5 o6 o7 o8 s0_filter_numbers s0_filter_words)) (rv := none) (st1 := []) (va_runV (Ts := wsX8_step) (As := [.int x1]) (rest := []) ⟨hx, hb, hml, hown, hts⟩ (c_X3_weigh l G cA ts h0_filter h0_filter_numbers h0_filter_words x1 s0_filter__all s0_filter__v s0_filter__loss s0_filter__result s0_filter__over s0_filter__heldAll s0_filter__heldRounded s0_filter_numbers s0_filter_words o2 o3 o4 o5 o6 o7 o8 hq H.size) (cwV 1 hts gX8_step_X3_weigh rfl rfl rfl (by decide +kernel) ⟨Nat.le_of_ble_eq_true rfl, Nat.le_of_ble_eq_true rfl⟩) (pre_V (ci := 3) (q0 := 1) (is := [1, 2, 3]) rfl rfl hP hD hS hA hK hZ (by decide +kernel) (by rfl)) rfl rfl hl.1 rfl (by exact lv_room (Nat.le_of_ble_eq_true rfl)) dX8_step_16 ⟨Nat.le_refl _, Nat.le_refl _⟩) hP hD hS hA (by decide +kernel) (by rfl) (by rfl) rfl (fun H locs hP hD hS => ?_)
    have hP : va_P G vwCl (wm_X8_step cA h0 h0_filter h0_filter_numbers h0_filter_words h0_causes h0_trial h0_kept h0_ways h0_spread h0_course h0_rows h0_changes h0_tape h0_bodies s0__hasImage s0__hasCauses s0__stepsDone o2 o3 o4 o5 o6 o7 o8 s0_filter_numbers s0_filter_words s0_causes) H := hP
    have hD : va_D A (wm_X8_step cA h0 h0_filter h0_filter_numbers h0_filter_words h0_causes h0_trial h0_kept h0_ways h0_spread h0_course h0_rows h0_changes h0_tape h0_bodies s0__hasImage s0__hasCauses s0__stepsDone o2 o3 o4 o5 o6 o7 o8 s0_filter_numbers s0_filter_words s0_causes) := hD
    refine lv_aload_n hx hb dX8_step_19 rfl (lv_at hl 0 rfl) ?_
    refine va_get (ci := 8) (v := .ref h0_filter) (C := RX8) (T := TX8) (N := 14) hx hb hts hinX8 hown hK hP 0 rfl rfl 0 (by decide) (hts _ (List.mem_of_getElem? (i := 1) rfl)) (fun _ h9 => h9) rfl dX8_step_20 ?_
    refine va_get (ci := 3) (v := .int o5) (C := RX3) (T := TX3) (N := 9) hx hb hts hinX3 hown hK hP 1 rfl rfl 5 (by decide) (hts _ (List.mem_of_getElem? (i := 2) rfl)) (fun _ h9 => h9) rfl dX8_step_23 ?_
    refine lv_sipush (v := -1005) hx hb dX8_step_26 (by decide) ?_
    refine lv_icmp_ne (tgt := 49) hx hb dX8_step_29 (by decide) (fun c => ?_) (fun c => ?_)
    · replace hok := g_neg hok c
      refine lv_aload_n hx hb dX8_step_49 rfl (lv_at hl 0 rfl) ?_
      refine va_get (ci := 8) (v := .ref h0_filter) (C := RX8) (T := TX8) (N := 14) hx hb hts hinX8 hown hK hP 0 rfl rfl 0 (by decide) (hts _ (List.mem_of_getElem? (i := 1) rfl)) (fun _ h9 => h9) rfl dX8_step_50 ?_
      obtain ⟨o9, hq, hok⟩ := g_bnd1 hok
      refine cG (is := [1, 2, 3]) (wc := (wm_X3_gather cA h0_filter h0_filter_numbers h0_filter_words o2 o3 o4 o5 o6 o7 o8 s0_filter_numbers s0_filter_words)) (w1 := (wm_X3_gather cA h0_filter h0_filter_numbers h0_filter_words o2 o3 o4 o5 o6 o7 o8 s0_filter_numbers o9)) (rv := none) (st1 := []) (va_runV (Ts := wsX8_step) (As := []) (rest := []) ⟨hx, hb, hml, hown, hts⟩ (c_X3_push l G cA ts h0_filter h0_filter_numbers h0_filter_words o2 o3 o4 o5 o6 o7 o8 s0_filter_numbers s0_filter_words o9 hq H.size) (cwV 0 hts gX8_step_X3_push rfl rfl rfl (by decide +kernel) ⟨Nat.le_of_ble_eq_true rfl, Nat.le_of_ble_eq_true rfl⟩) (pre_V (ci := 3) (q0 := 1) (is := [1, 2, 3]) rfl rfl hP hD hS hA hK hZ (by decide +kernel) (by rfl)) rfl rfl hl.1 rfl (by exact lv_room (Nat.le_of_ble_eq_true rfl)) dX8_step_53 ⟨Nat.le_refl _, Nat.le_refl _⟩) hP hD hS hA (by decide +kernel) (by rfl) (by rfl) rfl (fun H locs hP hD hS => ?_)
      have hP : va_P G vwCl (wm_X8_step cA h0 h0_filter h0_filter_numbers h0_filter_words h0_causes h0_trial h0_kept h0_ways h0_spread h0_course h0_rows h0_changes h0_tape h0_bodies s0__hasImage s0__hasCauses s0__stepsDone o2 o3 o4 o5 o6 o7 o8 s0_filter_numbers o9 s0_causes) H := hP
      have hD : va_D A (wm_X8_step cA h0 h0_filter h0_filter_numbers h0_filter_words h0_causes h0_trial h0_kept h0_ways h0_spread h0_course h0_rows h0_changes h0_tape h0_bodies s0__hasImage s0__hasCauses s0__stepsDone o2 o3 o4 o5 o6 o7 o8 s0_filter_numbers o9 s0_causes) := hD
      refine lv_aload_n hx hb dX8_step_56 rfl (lv_at hl 0 rfl) ?_
      refine lv_dup hx hb dX8_step_57 rfl ?_
      refine va_get (ci := 8) (v := .int s0__stepsDone) (C := RX8) (T := TX8) (N := 14) hx hb hts hinX8 hown hK hP 0 rfl rfl 13 (by decide) (hts _ (List.mem_of_getElem? (i := 4) rfl)) (fun _ h9 => h9) rfl dX8_step_58 ?_
      refine lv_iconst (v := 1) hx hb dX8_step_61 (by decide) ?_
      refine lv_iadd hx hb dX8_step_62 ?_
      refine va_put (D := G) (ci := 8) (v := .int (s0__stepsDone + (1:Int32))) (ty := .int) (C := RX8) (T := TX8) (N := 14) hx hb hts hinX8 tyX8 tyX8_ok nmX8 hown hK hP hD hS 0 rfl rfl 13 (by decide) (hts _ (List.mem_of_getElem? (i := 4) rfl)) (fun _ h9 => h9) rfl (by decide +kernel) rfl rfl (Nat.le_of_ble_eq_true rfl) dX8_step_63 (fun H locs hP hD hS => ?_)
      have hP : va_P G vwCl (wm_X8_step cA h0 h0_filter h0_filter_numbers h0_filter_words h0_causes h0_trial h0_kept h0_ways h0_spread h0_course h0_rows h0_changes h0_tape h0_bodies s0__hasImage s0__hasCauses (s0__stepsDone + (1:Int32)) o2 o3 o4 o5 o6 o7 o8 s0_filter_numbers o9 s0_causes) H := hP
      have hD : va_D A (wm_X8_step cA h0 h0_filter h0_filter_numbers h0_filter_words h0_causes h0_trial h0_kept h0_ways h0_spread h0_course h0_rows h0_changes h0_tape h0_bodies s0__hasImage s0__hasCauses (s0__stepsDone + (1:Int32)) o2 o3 o4 o5 o6 o7 o8 s0_filter_numbers o9 s0_causes) := hD
      refine lv_aload_n hx hb dX8_step_66 rfl (lv_at hl 0 rfl) ?_
      refine va_get (ci := 8) (v := .ref h0_filter) (C := RX8) (T := TX8) (N := 14) hx hb hts hinX8 hown hK hP 0 rfl rfl 0 (by decide) (hts _ (List.mem_of_getElem? (i := 1) rfl)) (fun _ h9 => h9) rfl dX8_step_67 ?_
      refine va_get (ci := 3) (v := .int o5) (C := RX3) (T := TX3) (N := 9) hx hb hts hinX3 hown hK hP 1 rfl rfl 5 (by decide) (hts _ (List.mem_of_getElem? (i := 2) rfl)) (fun _ h9 => h9) rfl dX8_step_70 ?_
      obtain ⟨e, hok⟩ := g_pr hok
      try subst e
      obtain ⟨e, hok⟩ := g_pr hok
      try subst e
      obtain ⟨e, hok⟩ := g_pr hok
      try subst e
      obtain ⟨e, hok⟩ := g_pr hok
      try subst e
      obtain ⟨e, hok⟩ := g_pr hok
      try subst e
      obtain ⟨e, hok⟩ := g_pr hok
      try subst e
      obtain ⟨e, hok⟩ := g_pr hok
      try subst e
      obtain ⟨e, hok⟩ := g_pr hok
      try subst e
      obtain ⟨e, hok⟩ := g_pr hok
      try subst e
      obtain ⟨e, hok⟩ := g_pr hok
      try subst e
      obtain ⟨e, hok⟩ := g_pr hok
      try subst e
      cases hok
      exact cr_i hx hb hr hlocks hQ dX8_step_73 hP hS
    replace hok := g_pos hok c
    refine lv_aload_n hx hb dX8_step_32 rfl (lv_at hl 0 rfl) ?_
    refine lv_iconst (v := 0) hx hb dX8_step_33 (by decide) ?_
    refine lv_iconst (v := 0) hx hb dX8_step_34 (by decide) ?_
    refine lv_aload_n hx hb dX8_step_35 rfl (lv_at hl 0 rfl) ?_
    refine va_get (ci := 8) (v := .ref h0_filter) (C := RX8) (T := TX8) (N := 14) hx hb hts hinX8 hown hK hP 0 rfl rfl 0 (by decide) (hts _ (List.mem_of_getElem? (i := 1) rfl)) (fun _ h9 => h9) rfl dX8_step_36 ?_
    refine va_get (ci := 3) (v := .int o3) (C := RX3) (T := TX3) (N := 9) hx hb hts hinX3 hown hK hP 1 rfl rfl 3 (by decide) (hts _ (List.mem_of_getElem? (i := 3) rfl)) (fun _ h9 => h9) rfl dX8_step_39 ?_
    obtain ⟨o10, o11, hq, hok⟩ := g_bnd2 hok
    refine cG (is := [0, 4]) (wc := (wm_X8_tellCauses cA h0 h0_causes h0_filter h0_trial h0_kept h0_ways h0_spread h0_course h0_rows h0_changes h0_tape h0_bodies s0__hasImage s0__hasCauses s0__stepsDone s0_causes)) (w1 := (wm_X8_tellCauses cA h0 h0_causes h0_filter h0_trial h0_kept h0_ways h0_spread h0_course h0_rows h0_changes h0_tape h0_bodies s0__hasImage o10 s0__stepsDone o11)) (rv := none) (st1 := []) (va_runV (Ts := wsX8_step) (As := [.int (0:Int32), .int (0:Int32), .int o3]) (rest := []) ⟨hx, hb, hml, hown, hts⟩ (c_X8_tellCauses l G cA ts h0 h0_causes h0_filter h0_trial h0_kept h0_ways h0_spread h0_course h0_rows h0_changes h0_tape h0_bodies (0:Int32) (0:Int32) o3 s0__hasImage s0__hasCauses s0__stepsDone s0_causes o10 o11 hq H.size) (cwV 3 hts gX8_step_X8_tellCauses rfl rfl rfl (by decide +kernel) ⟨Nat.le_of_ble_eq_true rfl, Nat.le_of_ble_eq_true rfl⟩) (pre_V (ci := 8) (q0 := 0) (is := [0, 4]) rfl rfl hP hD hS hA hK hZ (by decide +kernel) (by rfl)) rfl rfl hl.1 rfl (by exact lv_room (Nat.le_of_ble_eq_true rfl)) dX8_step_42 ⟨Nat.le_refl _, Nat.le_refl _⟩) hP hD hS hA (by decide +kernel) (by rfl) (by rfl) rfl (fun H locs hP hD hS => ?_)
    have hP : va_P G vwCl (wm_X8_step cA h0 h0_filter h0_filter_numbers h0_filter_words h0_causes h0_trial h0_kept h0_ways h0_spread h0_course h0_rows h0_changes h0_tape h0_bodies s0__hasImage o10 s0__stepsDone o2 o3 o4 o5 o6 o7 o8 s0_filter_numbers s0_filter_words o11) H := hP
    have hD : va_D A (wm_X8_step cA h0 h0_filter h0_filter_numbers h0_filter_words h0_causes h0_trial h0_kept h0_ways h0_spread h0_course h0_rows h0_changes h0_tape h0_bodies s0__hasImage o10 s0__stepsDone o2 o3 o4 o5 o6 o7 o8 s0_filter_numbers s0_filter_words o11) := hD
    refine lv_sipush (v := -1005) hx hb dX8_step_45 (by decide) ?_
    obtain ⟨e, hok⟩ := g_pr hok
    try subst e
    obtain ⟨e, hok⟩ := g_pr hok
    try subst e
    obtain ⟨e, hok⟩ := g_pr hok
    try subst e
    obtain ⟨e, hok⟩ := g_pr hok
    try subst e
    obtain ⟨e, hok⟩ := g_pr hok
    try subst e
    obtain ⟨e, hok⟩ := g_pr hok
    try subst e
    obtain ⟨e, hok⟩ := g_pr hok
    try subst e
    obtain ⟨e, hok⟩ := g_pr hok
    try subst e
    obtain ⟨e, hok⟩ := g_pr hok
    try subst e
    obtain ⟨e, hok⟩ := g_pr hok
    try subst e
    obtain ⟨e, hok⟩ := g_pr hok
    try subst e
    cases hok
    exact cr_i hx hb hr hlocks hQ dX8_step_48 hP hS
  replace hok := g_pos hok c
  refine lv_sipush (v := -1001) hx hb dX8_step_7 (by decide) ?_
  obtain ⟨e, hok⟩ := g_pr hok
  try subst e
  obtain ⟨e, hok⟩ := g_pr hok
  try subst e
  obtain ⟨e, hok⟩ := g_pr hok
  try subst e
  obtain ⟨e, hok⟩ := g_pr hok
  try subst e
  obtain ⟨e, hok⟩ := g_pr hok
  try subst e
  obtain ⟨e, hok⟩ := g_pr hok
  try subst e
  obtain ⟨e, hok⟩ := g_pr hok
  try subst e
  obtain ⟨e, hok⟩ := g_pr hok
  try subst e
  obtain ⟨e, hok⟩ := g_pr hok
  try subst e
  obtain ⟨e, hok⟩ := g_pr hok
  try subst e
  obtain ⟨e, hok⟩ := g_pr hok
  try subst e
  cases hok
  exact cr_i hx hb hr hlocks hQ dX8_step_10 hP hS
set_option maxHeartbeats 40000000 in
set_option maxRecDepth 100000 in
theorem c_X8_would (l : Launch) (G : va_G) (cA : Nat → ClassId) (ts : Nat → Nat) (h0 : Nat) (h0_filter : Nat) (h0_filter_numbers : Nat) (h0_filter_words : Nat) (h0_trial : Nat) (h0_kept : Nat) (h0_ways : Nat) (h0_spread : Nat) (h0_course : Nat) (h0_rows : Nat) (h0_changes : Nat) (h0_tape : Nat) (h0_bodies : Nat) (h0_causes : Nat) (x1 : Int32) (x2 : Int32) (s0__hasImage : Int32) (s0__hasCauses : Int32) (s0__stepsDone : Int32) (s0_filter__all : Int32) (s0_filter__v : Int32) (s0_filter__loss : Int32) (s0_filter__result : Int32) (s0_filter__over : Int32) (s0_filter__heldAll : Int32) (s0_filter__heldRounded : Int32) (s0_filter_numbers : Nat → Int32) (s0_filter_words : Nat → Int32) (r : Int32) (o0_filter__all : Int32) (o0_filter__v : Int32) (o0_filter__loss : Int32) (o0_filter__result : Int32) (o0_filter__over : Int32) (o0_filter__heldAll : Int32) (o0_filter__heldRounded : Int32) (hok : fX8_would x1 x2 s0_filter__all s0_filter__v s0_filter__loss s0_filter__result s0_filter__over s0_filter__heldAll s0_filter__heldRounded s0_filter_numbers s0_filter_words = some (r, o0_filter__all, o0_filter__v, o0_filter__loss, o0_filter__result, o0_filter__over, o0_filter__heldAll, o0_filter__heldRounded)) : Ct l G cA ts yX8_would wsX8_would 5 126 [.ref h0, .int x1, .int x2] (wm_X8_past cA h0 h0_filter h0_filter_numbers h0_filter_words h0_trial h0_kept h0_ways h0_spread h0_course h0_rows h0_changes h0_tape h0_bodies h0_causes s0__hasImage s0__hasCauses s0__stepsDone s0_filter__all s0_filter__v s0_filter__loss s0_filter__result s0_filter__over s0_filter__heldAll s0_filter__heldRounded s0_filter_numbers s0_filter_words) (wm_X8_past cA h0 h0_filter h0_filter_numbers h0_filter_words h0_trial h0_kept h0_ways h0_spread h0_course h0_rows h0_changes h0_tape h0_bodies h0_causes s0__hasImage s0__hasCauses s0__stepsDone o0_filter__all o0_filter__v o0_filter__loss o0_filter__result o0_filter__over o0_filter__heldAll o0_filter__heldRounded s0_filter_numbers s0_filter_words) (some (.int r)) := by
  refine Ct.intro (cc := cX8_would) (maxL := 3) (ret := some .int) (by decide +kernel) rfl (Nat.le_of_ble_eq_true rfl) ?_
  intro p e s m ar below meth c A Q hx hb hr hml hown hlocks hts hK hZ hA hQ hP hD hS ls hl
  have hown : s.vm.findClass RX8 = some m.cls := hown
  have hinX3 : ∀ w ∈ wsX30, w ∈ wsX8_would := fun _ h => List.mem_cons_of_mem _ (List.mem_append_right _ (h))
  have hinX8 : ∀ w ∈ wsX80, w ∈ wsX8_would := fun _ h => List.mem_cons_of_mem _ (List.mem_append_left _ (List.mem_append_right _ (h)))
  have hl : lv_has ls 3 [(0, .ref h0), (1, .int x1), (2, .int x2)] := hl
  have hP : va_P G vwCl (wm_X8_past cA h0 h0_filter h0_filter_numbers h0_filter_words h0_trial h0_kept h0_ways h0_spread h0_course h0_rows h0_changes h0_tape h0_bodies h0_causes s0__hasImage s0__hasCauses s0__stepsDone s0_filter__all s0_filter__v s0_filter__loss s0_filter__result s0_filter__over s0_filter__heldAll s0_filter__heldRounded s0_filter_numbers s0_filter_words) s.heap := hP
  have hD : va_D A (wm_X8_past cA h0 h0_filter h0_filter_numbers h0_filter_words h0_trial h0_kept h0_ways h0_spread h0_course h0_rows h0_changes h0_tape h0_bodies h0_causes s0__hasImage s0__hasCauses s0__stepsDone s0_filter__all s0_filter__v s0_filter__loss s0_filter__result s0_filter__over s0_filter__heldAll s0_filter__heldRounded s0_filter_numbers s0_filter_words) := hD
  unfold fX8_would at hok
  refine lv_iload_n hx hb dX8_would_0 rfl (lv_at hl 1 rfl) ?_
  obtain ⟨r1, hq, hok⟩ := g_bnd1 hok
  refine cG (is := []) (wc := (wm_X0_find cA)) (w1 := (wm_X0_find cA)) (rv := (some (.int r1))) (st1 := [.int r1]) (va_runS (Ts := wsX8_would) (As := [.int x1]) (rest := []) ⟨hx, hb, hml, hown, hts⟩ (c_X8_isInput l G cA ts x1 r1 hq s.heap.size) (va_cwS 1 hts gX8_would_X8_isInput rfl rfl rfl (by decide +kernel) ⟨Nat.le_of_ble_eq_true rfl, Nat.le_of_ble_eq_true rfl⟩) (pre_S (is := []) hP hD hS hA hK hZ (by decide +kernel) (by rfl)) rfl rfl hl.1 rfl (by exact lv_room (Nat.le_of_ble_eq_true rfl)) dX8_would_1 ⟨Nat.le_refl _, Nat.le_refl _⟩) hP hD hS hA (by decide +kernel) (by rfl) (by rfl) rfl (fun H locs hP hD hS => ?_)
  have hP : va_P G vwCl (wm_X8_past cA h0 h0_filter h0_filter_numbers h0_filter_words h0_trial h0_kept h0_ways h0_spread h0_course h0_rows h0_changes h0_tape h0_bodies h0_causes s0__hasImage s0__hasCauses s0__stepsDone s0_filter__all s0_filter__v s0_filter__loss s0_filter__result s0_filter__over s0_filter__heldAll s0_filter__heldRounded s0_filter_numbers s0_filter_words) H := hP
  have hD : va_D A (wm_X8_past cA h0 h0_filter h0_filter_numbers h0_filter_words h0_trial h0_kept h0_ways h0_spread h0_course h0_rows h0_changes h0_tape h0_bodies h0_causes s0__hasImage s0__hasCauses s0__stepsDone s0_filter__all s0_filter__v s0_filter__loss s0_filter__result s0_filter__over s0_filter__heldAll s0_filter__heldRounded s0_filter_numbers s0_filter_words) := hD
  refine lv_if_eq (tgt := 16) hx hb dX8_would_4 (by decide) (fun c => ?_) (fun c => ?_)
  · replace hok := g_pos hok c
    refine lv_ldc (v := -1000000) hx hb hown (hts _ (List.mem_of_getElem? (i := 1) rfl)) dX8_would_16 ?_
    cases hok
    exact cr_i hx hb hr hlocks hQ dX8_would_18 hP hS
  replace hok := g_neg hok c
  refine lv_iload_n hx hb dX8_would_7 rfl (lv_at hl 2 rfl) ?_
  refine lv_if_lt (tgt := 16) hx hb dX8_would_8 (by decide) (fun c => ?_) (fun c => ?_)
  · replace hok := g_pos hok c
    refine lv_ldc (v := -1000000) hx hb hown (hts _ (List.mem_of_getElem? (i := 1) rfl)) dX8_would_16 ?_
    cases hok
    exact cr_i hx hb hr hlocks hQ dX8_would_18 hP hS
  replace hok := g_neg hok c
  refine lv_iload_n hx hb dX8_would_11 rfl (lv_at hl 2 rfl) ?_
  refine lv_iconst (v := 4) hx hb dX8_would_12 (by decide) ?_
  refine lv_icmp_le (tgt := 19) hx hb dX8_would_13 (by decide) (fun c => ?_) (fun c => ?_)
  · replace hok := g_pos hok c
    refine lv_aload_n hx hb dX8_would_19 rfl (lv_at hl 0 rfl) ?_
    refine va_get (ci := 8) (v := .ref h0_filter) (C := RX8) (T := TX8) (N := 14) hx hb hts hinX8 hown hK hP 0 rfl rfl 0 (by decide) (hts _ (List.mem_of_getElem? (i := 2) rfl)) (fun _ h9 => h9) rfl dX8_would_20 ?_
    refine lv_iload_n hx hb dX8_would_23 rfl (lv_at hl 1 rfl) ?_
    obtain ⟨o2, o3, o4, o5, o6, o7, o8, hq, hok⟩ := g_bnd7 hok
    refine cG (is := [1, 2, 3]) (wc := (wm_X3_gather cA h0_filter h0_filter_numbers h0_filter_words s0_filter__all s0_filter__v s0_filter__loss s0_filter__result s0_filter__over s0_filter__heldAll s0_filter__heldRounded s0_filter_numbers s0_filter_words)) (w1 := (wm_X3_gather cA h0_filter h0_filter_numbers h0_filter_words o2 o3 o4 o5 o6 o7 o8 s0_filter_numbers s0_filter_words)) (rv := none) (st1 := []) (va_runV (Ts := wsX8_would) (As := [.int x1]) (rest := []) ⟨hx, hb, hml, hown, hts⟩ (c_X3_weigh l G cA ts h0_filter h0_filter_numbers h0_filter_words x1 s0_filter__all s0_filter__v s0_filter__loss s0_filter__result s0_filter__over s0_filter__heldAll s0_filter__heldRounded s0_filter_numbers s0_filter_words o2 o3 o4 o5 o6 o7 o8 hq H.size) (cwV 1 hts gX8_would_X3_weigh rfl rfl rfl (by decide +kernel) ⟨Nat.le_of_ble_eq_true rfl, Nat.le_of_ble_eq_true rfl⟩) (pre_V (ci := 3) (q0 := 1) (is := [1, 2, 3]) rfl rfl hP hD hS hA hK hZ (by decide +kernel) (by rfl)) rfl rfl hl.1 rfl (by exact lv_room (Nat.le_of_ble_eq_true rfl)) dX8_would_24 ⟨Nat.le_refl _, Nat.le_refl _⟩) hP hD hS hA (by decide +kernel) (by rfl) (by rfl) rfl (fun H locs hP hD hS => ?_)
    have hP : va_P G vwCl (wm_X8_past cA h0 h0_filter h0_filter_numbers h0_filter_words h0_trial h0_kept h0_ways h0_spread h0_course h0_rows h0_changes h0_tape h0_bodies h0_causes s0__hasImage s0__hasCauses s0__stepsDone o2 o3 o4 o5 o6 o7 o8 s0_filter_numbers s0_filter_words) H := hP
    have hD : va_D A (wm_X8_past cA h0 h0_filter h0_filter_numbers h0_filter_words h0_trial h0_kept h0_ways h0_spread h0_course h0_rows h0_changes h0_tape h0_bodies h0_causes s0__hasImage s0__hasCauses s0__stepsDone o2 o3 o4 o5 o6 o7 o8 s0_filter_numbers s0_filter_words) := hD
    refine lv_iload_n hx hb dX8_would_27 rfl (lv_at hl 2 rfl) ?_
    by_cases c0 : x2 = 0
    · replace hok := g_pos hok c0
      have e9 : (x2).toInt = 0 := by rw [c0]; rfl
      refine lv_tableIn (tgt := 60) (off := 32) hx hb dX8_would_28 (by rw [e9]; decide) (by rw [e9]; decide) (by rw [e9]; rfl) (by decide) ?_
      refine lv_aload_n hx hb dX8_would_60 rfl (lv_at hl 0 rfl) ?_
      refine va_get (ci := 8) (v := .ref h0_filter) (C := RX8) (T := TX8) (N := 14) hx hb hts hinX8 hown hK hP 0 rfl rfl 0 (by decide) (hts _ (List.mem_of_getElem? (i := 2) rfl)) (fun _ h9 => h9) rfl dX8_would_61 ?_
      refine va_get (ci := 3) (v := .int o5) (C := RX3) (T := TX3) (N := 9) hx hb hts hinX3 hown hK hP 1 rfl rfl 5 (by decide) (hts _ (List.mem_of_getElem? (i := 3) rfl)) (fun _ h9 => h9) rfl dX8_would_64 ?_
      cases hok
      exact cr_i hx hb hr hlocks hQ dX8_would_67 hP hS
    replace hok := g_neg hok c0
    by_cases c1 : x2 = 1
    · replace hok := g_pos hok c1
      have e9 : (x2).toInt = 1 := by rw [c1]; rfl
      refine lv_tableIn (tgt := 68) (off := 40) hx hb dX8_would_28 (by rw [e9]; decide) (by rw [e9]; decide) (by rw [e9]; rfl) (by decide) ?_
      refine lv_aload_n hx hb dX8_would_68 rfl (lv_at hl 0 rfl) ?_
      refine va_get (ci := 8) (v := .ref h0_filter) (C := RX8) (T := TX8) (N := 14) hx hb hts hinX8 hown hK hP 0 rfl rfl 0 (by decide) (hts _ (List.mem_of_getElem? (i := 2) rfl)) (fun _ h9 => h9) rfl dX8_would_69 ?_
      refine va_get (ci := 3) (v := .int o2) (C := RX3) (T := TX3) (N := 9) hx hb hts hinX3 hown hK hP 1 rfl rfl 2 (by decide) (hts _ (List.mem_of_getElem? (i := 4) rfl)) (fun _ h9 => h9) rfl dX8_would_72 ?_
      cases hok
      exact cr_i hx hb hr hlocks hQ dX8_would_75 hP hS
    replace hok := g_neg hok c1
    by_cases c2 : x2 = 2
    · replace hok := g_pos hok c2
      have e9 : (x2).toInt = 2 := by rw [c2]; rfl
      refine lv_tableIn (tgt := 76) (off := 48) hx hb dX8_would_28 (by rw [e9]; decide) (by rw [e9]; decide) (by rw [e9]; rfl) (by decide) ?_
      refine lv_aload_n hx hb dX8_would_76 rfl (lv_at hl 0 rfl) ?_
      refine va_get (ci := 8) (v := .ref h0_filter) (C := RX8) (T := TX8) (N := 14) hx hb hts hinX8 hown hK hP 0 rfl rfl 0 (by decide) (hts _ (List.mem_of_getElem? (i := 2) rfl)) (fun _ h9 => h9) rfl dX8_would_77 ?_
      refine va_get (ci := 3) (v := .int o3) (C := RX3) (T := TX3) (N := 9) hx hb hts hinX3 hown hK hP 1 rfl rfl 3 (by decide) (hts _ (List.mem_of_getElem? (i := 5) rfl)) (fun _ h9 => h9) rfl dX8_would_80 ?_
      cases hok
      exact cr_i hx hb hr hlocks hQ dX8_would_83 hP hS
    replace hok := g_neg hok c2
    by_cases c3 : x2 = 3
    · replace hok := g_pos hok c3
      have e9 : (x2).toInt = 3 := by rw [c3]; rfl
      refine lv_tableIn (tgt := 84) (off := 56) hx hb dX8_would_28 (by rw [e9]; decide) (by rw [e9]; decide) (by rw [e9]; rfl) (by decide) ?_
      refine lv_aload_n hx hb dX8_would_84 rfl (lv_at hl 0 rfl) ?_
      refine va_get (ci := 8) (v := .ref h0_filter) (C := RX8) (T := TX8) (N := 14) hx hb hts hinX8 hown hK hP 0 rfl rfl 0 (by decide) (hts _ (List.mem_of_getElem? (i := 2) rfl)) (fun _ h9 => h9) rfl dX8_would_85 ?_
      refine va_get (ci := 3) (v := .int o4) (C := RX3) (T := TX3) (N := 9) hx hb hts hinX3 hown hK hP 1 rfl rfl 4 (by decide) (hts _ (List.mem_of_getElem? (i := 6) rfl)) (fun _ h9 => h9) rfl dX8_would_88 ?_
      cases hok
      exact cr_i hx hb hr hlocks hQ dX8_would_91 hP hS
    replace hok := g_neg hok c3
    refine lv_tableOut (tgt := 92) hx hb dX8_would_28 (by have b0 := lv_neT (a := 0) c0 rfl; have b1 := lv_neT (a := 1) c1 rfl; have b2 := lv_neT (a := 2) c2 rfl; have b3 := lv_neT (a := 3) c3 rfl; omega) (by decide) ?_
    refine lv_aload_n hx hb dX8_would_92 rfl (lv_at hl 0 rfl) ?_
    refine va_get (ci := 8) (v := .ref h0_filter) (C := RX8) (T := TX8) (N := 14) hx hb hts hinX8 hown hK hP 0 rfl rfl 0 (by decide) (hts _ (List.mem_of_getElem? (i := 2) rfl)) (fun _ h9 => h9) rfl dX8_would_93 ?_
    refine va_get (ci := 3) (v := .int o6) (C := RX3) (T := TX3) (N := 9) hx hb hts hinX3 hown hK hP 1 rfl rfl 6 (by decide) (hts _ (List.mem_of_getElem? (i := 7) rfl)) (fun _ h9 => h9) rfl dX8_would_96 ?_
    refine lv_if_eq (tgt := 106) hx hb dX8_would_99 (by decide) (fun c => ?_) (fun c => ?_)
    · replace hok := g_pos hok c
      refine lv_iconst (v := 0) hx hb dX8_would_106 (by decide) ?_
      cases hok
      exact cr_i hx hb hr hlocks hQ dX8_would_107 hP hS
    replace hok := g_neg hok c
    refine lv_iconst (v := 1) hx hb dX8_would_102 (by decide) ?_
    refine lv_goto (tgt := 107) hx hb dX8_would_103 (by decide) ?_
    cases hok
    exact cr_i hx hb hr hlocks hQ dX8_would_107 hP hS
  replace hok := g_neg hok c
  refine lv_ldc (v := -1000000) hx hb hown (hts _ (List.mem_of_getElem? (i := 1) rfl)) dX8_would_16 ?_
  cases hok
  exact cr_i hx hb hr hlocks hQ dX8_would_18 hP hS
