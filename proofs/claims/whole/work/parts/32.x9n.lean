set_option maxHeartbeats 40000000 in
set_option maxRecDepth 100000 in
theorem c_X9_reach (l : Launch) (G : va_G) (cA : Nat → ClassId) (ts : Nat → Nat) (h0 : Nat) (h0_g : Nat) (h0_p : Nat) (h0_path : Nat) (h0_isReached : Nat) (h0_kept : Nat) (h0_changed : Nat) (h0_causes : Nat) (h0_rows : Nat) (h0_sorts : Nat) (h0_sizes : Nat) (h0_moved : Nat) (h0_outs : Nat) (h0_losses : Nat) (h0_levelOf : Nat) (h0_levelOften : Nat) (h0_to : Nat) (h0_round : Nat) (h0_tail : Nat) (h0_leastOn : Nat) (h0_period : Nat) (h0_amplitude : Nat) (h0_basin : Nat) (h0_numbered : Nat) (h0_tape : Nat) (h0_told : Nat) (h0_traced : Nat) (x1 : Int32) (x2 : Int32) (s0__isKept : Int32) (s0__done : Int32) (s0__undoable : Int32) (s0__redoable : Int32) (s0__all : Int32) (s0__v : Int32) (s0__loss : Int32) (s0__isOver : Int32) (s0__hasCauses : Int32) (s0__outMany : Int32) (s0__overMany : Int32) (s0__isHalted : Int32) (s0__levelMany : Int32) (s0__rounds : Int32) (s0__stuck : Int32) (s0__onRounds : Int32) (s0__longest : Int32) (s0__loudest : Int32) (s0__reached : Int32) (s0__isAnyOver : Int32) (s0__taped : Int32) (s0__at : Int32) (s0__ran : Int32) (s0_g : Nat → Int32) (s0_p : Nat → Int32) (s0_path : Nat → Int32) (s0_isReached : Nat → Int32) (r : Int32) (o0__all : Int32) (o0__v : Int32) (o0__loss : Int32) (o0__isOver : Int32) (o0__reached : Int32) (o0__isAnyOver : Int32) (o0_p : Nat → Int32) (o0_path : Nat → Int32) (o0_isReached : Nat → Int32) (hok : fX9_reach x1 x2 s0__all s0__v s0__loss s0__isOver s0__reached s0__isAnyOver s0_g s0_p s0_path s0_isReached = some (r, o0__all, o0__v, o0__loss, o0__isOver, o0__reached, o0__isAnyOver, o0_p, o0_path, o0_isReached)) : Ct l G cA ts yX9_reach wsX9_reach 6 157 [.ref h0, .int x1, .int x2] (wm_X9_reaches cA h0 h0_g h0_p h0_path h0_isReached h0_kept h0_changed h0_causes h0_rows h0_sorts h0_sizes h0_moved h0_outs h0_losses h0_levelOf h0_levelOften h0_to h0_round h0_tail h0_leastOn h0_period h0_amplitude h0_basin h0_numbered h0_tape h0_told h0_traced s0__isKept s0__done s0__undoable s0__redoable s0__all s0__v s0__loss s0__isOver s0__hasCauses s0__outMany s0__overMany s0__isHalted s0__levelMany s0__rounds s0__stuck s0__onRounds s0__longest s0__loudest s0__reached s0__isAnyOver s0__taped s0__at s0__ran s0_g s0_p s0_path s0_isReached) (wm_X9_reaches cA h0 h0_g h0_p h0_path h0_isReached h0_kept h0_changed h0_causes h0_rows h0_sorts h0_sizes h0_moved h0_outs h0_losses h0_levelOf h0_levelOften h0_to h0_round h0_tail h0_leastOn h0_period h0_amplitude h0_basin h0_numbered h0_tape h0_told h0_traced s0__isKept s0__done s0__undoable s0__redoable o0__all o0__v o0__loss o0__isOver s0__hasCauses s0__outMany s0__overMany s0__isHalted s0__levelMany s0__rounds s0__stuck s0__onRounds s0__longest s0__loudest o0__reached o0__isAnyOver s0__taped s0__at s0__ran s0_g o0_p o0_path o0_isReached) (some (.int r)) := by
  refine Ct.intro (cc := cX9_reach) (maxL := 3) (ret := some .int) (by decide +kernel) rfl (Nat.le_of_ble_eq_true rfl) ?_
  intro p e s m ar below meth c A Q hx hb hr hml hown hlocks hts hK hZ hA hQ hP hD hS ls hl
  have hown : s.vm.findClass RX9 = some m.cls := hown
  have hinX9 : ∀ w ∈ wsX90, w ∈ wsX9_reach := fun _ h => List.mem_cons_of_mem _ (List.mem_append_right _ (h))
  have hl : lv_has ls 3 [(0, .ref h0), (1, .int x1), (2, .int x2)] := hl
  have hP : va_P G vwCl (wm_X9_reaches cA h0 h0_g h0_p h0_path h0_isReached h0_kept h0_changed h0_causes h0_rows h0_sorts h0_sizes h0_moved h0_outs h0_losses h0_levelOf h0_levelOften h0_to h0_round h0_tail h0_leastOn h0_period h0_amplitude h0_basin h0_numbered h0_tape h0_told h0_traced s0__isKept s0__done s0__undoable s0__redoable s0__all s0__v s0__loss s0__isOver s0__hasCauses s0__outMany s0__overMany s0__isHalted s0__levelMany s0__rounds s0__stuck s0__onRounds s0__longest s0__loudest s0__reached s0__isAnyOver s0__taped s0__at s0__ran s0_g s0_p s0_path s0_isReached) s.heap := hP
  have hD : va_D A (wm_X9_reaches cA h0 h0_g h0_p h0_path h0_isReached h0_kept h0_changed h0_causes h0_rows h0_sorts h0_sizes h0_moved h0_outs h0_losses h0_levelOf h0_levelOften h0_to h0_round h0_tail h0_leastOn h0_period h0_amplitude h0_basin h0_numbered h0_tape h0_told h0_traced s0__isKept s0__done s0__undoable s0__redoable s0__all s0__v s0__loss s0__isOver s0__hasCauses s0__outMany s0__overMany s0__isHalted s0__levelMany s0__rounds s0__stuck s0__onRounds s0__longest s0__loudest s0__reached s0__isAnyOver s0__taped s0__at s0__ran s0_g s0_p s0_path s0_isReached) := hD
  unfold fX9_reach at hok
  refine lv_iload_n hx hb dX9_reach_0 rfl (lv_at hl 1 rfl) ?_
  refine lv_i2l (v := (x1.toInt64)) hx hb dX9_reach_1 rfl ?_
  refine lv_lconst (v := 0) hx hb dX9_reach_2 (by decide) ?_
  refine lv_ldc2 (v := 20) hx hb hown (hts _ (List.mem_of_getElem? (i := 1) rfl)) dX9_reach_3 ?_
  obtain ⟨r1, hq, hok⟩ := g_bnd1 hok
  refine cG (is := []) (wc := (wm_X0_find cA)) (w1 := (wm_X0_find cA)) (rv := (some (.int r1))) (st1 := [.int r1]) (va_runS (Ts := wsX9_reach) (As := [.long (x1.toInt64), .long (0:Int64), .long (20:Int64)]) (rest := []) ⟨hx, hb, hml, hown, hts⟩ (c_X9_in l G cA ts (x1.toInt64) (0:Int64) (20:Int64) r1 hq s.heap.size) (va_cwS 3 hts gX9_reach_X9_in rfl rfl rfl (by decide +kernel) ⟨Nat.le_of_ble_eq_true rfl, Nat.le_of_ble_eq_true rfl⟩) (pre_S (is := []) hP hD hS hA hK hZ (by decide +kernel) (by rfl)) rfl rfl hl.1 rfl (by exact lv_room (Nat.le_of_ble_eq_true rfl)) dX9_reach_6 ⟨Nat.le_refl _, Nat.le_refl _⟩) hP hD hS hA (by decide +kernel) (by rfl) (by rfl) rfl (fun H locs hP hD hS => ?_)
  have hP : va_P G vwCl (wm_X9_reaches cA h0 h0_g h0_p h0_path h0_isReached h0_kept h0_changed h0_causes h0_rows h0_sorts h0_sizes h0_moved h0_outs h0_losses h0_levelOf h0_levelOften h0_to h0_round h0_tail h0_leastOn h0_period h0_amplitude h0_basin h0_numbered h0_tape h0_told h0_traced s0__isKept s0__done s0__undoable s0__redoable s0__all s0__v s0__loss s0__isOver s0__hasCauses s0__outMany s0__overMany s0__isHalted s0__levelMany s0__rounds s0__stuck s0__onRounds s0__longest s0__loudest s0__reached s0__isAnyOver s0__taped s0__at s0__ran s0_g s0_p s0_path s0_isReached) H := hP
  have hD : va_D A (wm_X9_reaches cA h0 h0_g h0_p h0_path h0_isReached h0_kept h0_changed h0_causes h0_rows h0_sorts h0_sizes h0_moved h0_outs h0_losses h0_levelOf h0_levelOften h0_to h0_round h0_tail h0_leastOn h0_period h0_amplitude h0_basin h0_numbered h0_tape h0_told h0_traced s0__isKept s0__done s0__undoable s0__redoable s0__all s0__v s0__loss s0__isOver s0__hasCauses s0__outMany s0__overMany s0__isHalted s0__levelMany s0__rounds s0__stuck s0__onRounds s0__longest s0__loudest s0__reached s0__isAnyOver s0__taped s0__at s0__ran s0_g s0_p s0_path s0_isReached) := hD
  refine lv_if_eq (tgt := 22) hx hb dX9_reach_9 (by decide) (fun c => ?_) (fun c => ?_)
  · replace hok := g_pos hok c
    refine lv_iconst (v := -1) hx hb dX9_reach_22 (by decide) ?_
    cases hok
    exact cr_i hx hb hr hlocks hQ dX9_reach_23 hP hS
  replace hok := g_neg hok c
  refine lv_iload_n hx hb dX9_reach_12 rfl (lv_at hl 2 rfl) ?_
  refine lv_i2l (v := (x2.toInt64)) hx hb dX9_reach_13 rfl ?_
  refine lv_lconst (v := 0) hx hb dX9_reach_14 (by decide) ?_
  refine lv_lconst (v := 1) hx hb dX9_reach_15 (by decide) ?_
  obtain ⟨r2, hq, hok⟩ := g_bnd1 hok
  refine cG (is := []) (wc := (wm_X0_find cA)) (w1 := (wm_X0_find cA)) (rv := (some (.int r2))) (st1 := [.int r2]) (va_runS (Ts := wsX9_reach) (As := [.long (x2.toInt64), .long (0:Int64), .long (1:Int64)]) (rest := []) ⟨hx, hb, hml, hown, hts⟩ (c_X9_in l G cA ts (x2.toInt64) (0:Int64) (1:Int64) r2 hq H.size) (va_cwS 3 hts gX9_reach_X9_in rfl rfl rfl (by decide +kernel) ⟨Nat.le_of_ble_eq_true rfl, Nat.le_of_ble_eq_true rfl⟩) (pre_S (is := []) hP hD hS hA hK hZ (by decide +kernel) (by rfl)) rfl rfl hl.1 rfl (by exact lv_room (Nat.le_of_ble_eq_true rfl)) dX9_reach_16 ⟨Nat.le_refl _, Nat.le_refl _⟩) hP hD hS hA (by decide +kernel) (by rfl) (by rfl) rfl (fun H locs hP hD hS => ?_)
  have hP : va_P G vwCl (wm_X9_reaches cA h0 h0_g h0_p h0_path h0_isReached h0_kept h0_changed h0_causes h0_rows h0_sorts h0_sizes h0_moved h0_outs h0_losses h0_levelOf h0_levelOften h0_to h0_round h0_tail h0_leastOn h0_period h0_amplitude h0_basin h0_numbered h0_tape h0_told h0_traced s0__isKept s0__done s0__undoable s0__redoable s0__all s0__v s0__loss s0__isOver s0__hasCauses s0__outMany s0__overMany s0__isHalted s0__levelMany s0__rounds s0__stuck s0__onRounds s0__longest s0__loudest s0__reached s0__isAnyOver s0__taped s0__at s0__ran s0_g s0_p s0_path s0_isReached) H := hP
  have hD : va_D A (wm_X9_reaches cA h0 h0_g h0_p h0_path h0_isReached h0_kept h0_changed h0_causes h0_rows h0_sorts h0_sizes h0_moved h0_outs h0_losses h0_levelOf h0_levelOften h0_to h0_round h0_tail h0_leastOn h0_period h0_amplitude h0_basin h0_numbered h0_tape h0_told h0_traced s0__isKept s0__done s0__undoable s0__redoable s0__all s0__v s0__loss s0__isOver s0__hasCauses s0__outMany s0__overMany s0__isHalted s0__levelMany s0__rounds s0__stuck s0__onRounds s0__longest s0__loudest s0__reached s0__isAnyOver s0__taped s0__at s0__ran s0_g s0_p s0_path s0_isReached) := hD
  refine lv_if_ne (tgt := 24) hx hb dX9_reach_19 (by decide) (fun c => ?_) (fun c => ?_)
  · replace hok := g_neg hok c
    refine lv_aload_n hx hb dX9_reach_24 rfl (lv_at hl 0 rfl) ?_
    refine lv_iload_n hx hb dX9_reach_25 rfl (lv_at hl 1 rfl) ?_
    obtain ⟨o3, o4, o5, o6, o7, o8, o9, o10, o11, hq, hok⟩ := g_bnd9 hok
    refine cG (is := [0, 1, 2, 3, 4]) (wc := (wm_X9_reaches cA h0 h0_g h0_p h0_path h0_isReached h0_kept h0_changed h0_causes h0_rows h0_sorts h0_sizes h0_moved h0_outs h0_losses h0_levelOf h0_levelOften h0_to h0_round h0_tail h0_leastOn h0_period h0_amplitude h0_basin h0_numbered h0_tape h0_told h0_traced s0__isKept s0__done s0__undoable s0__redoable s0__all s0__v s0__loss s0__isOver s0__hasCauses s0__outMany s0__overMany s0__isHalted s0__levelMany s0__rounds s0__stuck s0__onRounds s0__longest s0__loudest s0__reached s0__isAnyOver s0__taped s0__at s0__ran s0_g s0_p s0_path s0_isReached)) (w1 := (wm_X9_reaches cA h0 h0_g h0_p h0_path h0_isReached h0_kept h0_changed h0_causes h0_rows h0_sorts h0_sizes h0_moved h0_outs h0_losses h0_levelOf h0_levelOften h0_to h0_round h0_tail h0_leastOn h0_period h0_amplitude h0_basin h0_numbered h0_tape h0_told h0_traced s0__isKept s0__done s0__undoable s0__redoable o3 o4 o5 o6 s0__hasCauses s0__outMany s0__overMany s0__isHalted s0__levelMany s0__rounds s0__stuck s0__onRounds s0__longest s0__loudest o7 o8 s0__taped s0__at s0__ran s0_g o9 o10 o11)) (rv := none) (st1 := []) (va_runV (Ts := wsX9_reach) (As := [.int x1]) (rest := []) ⟨hx, hb, hml, hown, hts⟩ (c_X9_reaches l G cA ts h0 h0_g h0_p h0_path h0_isReached h0_kept h0_changed h0_causes h0_rows h0_sorts h0_sizes h0_moved h0_outs h0_losses h0_levelOf h0_levelOften h0_to h0_round h0_tail h0_leastOn h0_period h0_amplitude h0_basin h0_numbered h0_tape h0_told h0_traced x1 s0__isKept s0__done s0__undoable s0__redoable s0__all s0__v s0__loss s0__isOver s0__hasCauses s0__outMany s0__overMany s0__isHalted s0__levelMany s0__rounds s0__stuck s0__onRounds s0__longest s0__loudest s0__reached s0__isAnyOver s0__taped s0__at s0__ran s0_g s0_p s0_path s0_isReached o3 o4 o5 o6 o7 o8 o9 o10 o11 hq H.size) (cwV 1 hts gX9_reach_X9_reaches rfl rfl rfl (by decide +kernel) ⟨Nat.le_of_ble_eq_true rfl, Nat.le_of_ble_eq_true rfl⟩) (pre_V (ci := 9) (q0 := 0) (is := [0, 1, 2, 3, 4]) rfl rfl hP hD hS hA hK hZ (by decide +kernel) (by rfl)) rfl rfl hl.1 rfl (by exact lv_room (Nat.le_of_ble_eq_true rfl)) dX9_reach_26 ⟨Nat.le_refl _, Nat.le_refl _⟩) hP hD hS hA (by decide +kernel) (by rfl) (by rfl) rfl (fun H locs hP hD hS => ?_)
    have hP : va_P G vwCl (wm_X9_reaches cA h0 h0_g h0_p h0_path h0_isReached h0_kept h0_changed h0_causes h0_rows h0_sorts h0_sizes h0_moved h0_outs h0_losses h0_levelOf h0_levelOften h0_to h0_round h0_tail h0_leastOn h0_period h0_amplitude h0_basin h0_numbered h0_tape h0_told h0_traced s0__isKept s0__done s0__undoable s0__redoable o3 o4 o5 o6 s0__hasCauses s0__outMany s0__overMany s0__isHalted s0__levelMany s0__rounds s0__stuck s0__onRounds s0__longest s0__loudest o7 o8 s0__taped s0__at s0__ran s0_g o9 o10 o11) H := hP
    have hD : va_D A (wm_X9_reaches cA h0 h0_g h0_p h0_path h0_isReached h0_kept h0_changed h0_causes h0_rows h0_sorts h0_sizes h0_moved h0_outs h0_losses h0_levelOf h0_levelOften h0_to h0_round h0_tail h0_leastOn h0_period h0_amplitude h0_basin h0_numbered h0_tape h0_told h0_traced s0__isKept s0__done s0__undoable s0__redoable o3 o4 o5 o6 s0__hasCauses s0__outMany s0__overMany s0__isHalted s0__levelMany s0__rounds s0__stuck s0__onRounds s0__longest s0__loudest o7 o8 s0__taped s0__at s0__ran s0_g o9 o10 o11) := hD
    refine lv_iload_n hx hb dX9_reach_29 rfl (lv_at hl 2 rfl) ?_
    refine lv_if_ne (tgt := 40) hx hb dX9_reach_30 (by decide) (fun c => ?_) (fun c => ?_)
    · replace hok := g_neg hok c
      refine lv_aload_n hx hb dX9_reach_40 rfl (lv_at hl 0 rfl) ?_
      refine va_get (ci := 9) (v := .int o8) (C := RX9) (T := TX9) (N := 49) hx hb hts hinX9 hown hK hP 0 rfl rfl 42 (by decide) (hts _ (List.mem_of_getElem? (i := 3) rfl)) (fun _ h9 => h9) rfl dX9_reach_41 ?_
      refine lv_if_eq (tgt := 51) hx hb dX9_reach_44 (by decide) (fun c => ?_) (fun c => ?_)
      · replace hok := g_pos hok c
        refine lv_iconst (v := 0) hx hb dX9_reach_51 (by decide) ?_
        cases hok
        exact cr_i hx hb hr hlocks hQ dX9_reach_52 hP hS
      replace hok := g_neg hok c
      refine lv_iconst (v := 1) hx hb dX9_reach_47 (by decide) ?_
      refine lv_goto (tgt := 52) hx hb dX9_reach_48 (by decide) ?_
      cases hok
      exact cr_i hx hb hr hlocks hQ dX9_reach_52 hP hS
    replace hok := g_pos hok c
    refine lv_aload_n hx hb dX9_reach_33 rfl (lv_at hl 0 rfl) ?_
    refine va_get (ci := 9) (v := .int o7) (C := RX9) (T := TX9) (N := 49) hx hb hts hinX9 hown hK hP 0 rfl rfl 41 (by decide) (hts _ (List.mem_of_getElem? (i := 2) rfl)) (fun _ h9 => h9) rfl dX9_reach_34 ?_
    refine lv_goto (tgt := 52) hx hb dX9_reach_37 (by decide) ?_
    cases hok
    exact cr_i hx hb hr hlocks hQ dX9_reach_52 hP hS
  replace hok := g_pos hok c
  refine lv_iconst (v := -1) hx hb dX9_reach_22 (by decide) ?_
  cases hok
  exact cr_i hx hb hr hlocks hQ dX9_reach_23 hP hS
set_option maxHeartbeats 40000000 in
set_option maxRecDepth 100000 in
theorem c_X9_scale (l : Launch) (G : va_G) (cA : Nat → ClassId) (ts : Nat → Nat) (h0 : Nat) (h0_g : Nat) (h0_p : Nat) (h0_path : Nat) (h0_isReached : Nat) (h0_kept : Nat) (h0_changed : Nat) (h0_causes : Nat) (h0_rows : Nat) (h0_sorts : Nat) (h0_sizes : Nat) (h0_moved : Nat) (h0_outs : Nat) (h0_losses : Nat) (h0_levelOf : Nat) (h0_levelOften : Nat) (h0_to : Nat) (h0_round : Nat) (h0_tail : Nat) (h0_leastOn : Nat) (h0_period : Nat) (h0_amplitude : Nat) (h0_basin : Nat) (h0_numbered : Nat) (h0_tape : Nat) (h0_told : Nat) (h0_traced : Nat) (x1 : Int32) (s0__isKept : Int32) (s0__done : Int32) (s0__undoable : Int32) (s0__redoable : Int32) (s0__all : Int32) (s0__v : Int32) (s0__loss : Int32) (s0__isOver : Int32) (s0__hasCauses : Int32) (s0__outMany : Int32) (s0__overMany : Int32) (s0__isHalted : Int32) (s0__levelMany : Int32) (s0__rounds : Int32) (s0__stuck : Int32) (s0__onRounds : Int32) (s0__longest : Int32) (s0__loudest : Int32) (s0__reached : Int32) (s0__isAnyOver : Int32) (s0__taped : Int32) (s0__at : Int32) (s0__ran : Int32) (s0_g : Nat → Int32) (s0_p : Nat → Int32) (s0_path : Nat → Int32) (s0_isReached : Nat → Int32) (r : Int32) (o0__all : Int32) (o0__v : Int32) (o0__loss : Int32) (o0__isOver : Int32) (o0__reached : Int32) (o0__isAnyOver : Int32) (o0_p : Nat → Int32) (o0_path : Nat → Int32) (o0_isReached : Nat → Int32) (hok : fX9_scale x1 s0__all s0__v s0__loss s0__isOver s0__reached s0__isAnyOver s0_g s0_p s0_path s0_isReached = some (r, o0__all, o0__v, o0__loss, o0__isOver, o0__reached, o0__isAnyOver, o0_p, o0_path, o0_isReached)) : Ct l G cA ts yX9_scale wsX9_scale 6 157 [.ref h0, .int x1] (wm_X9_reaches cA h0 h0_g h0_p h0_path h0_isReached h0_kept h0_changed h0_causes h0_rows h0_sorts h0_sizes h0_moved h0_outs h0_losses h0_levelOf h0_levelOften h0_to h0_round h0_tail h0_leastOn h0_period h0_amplitude h0_basin h0_numbered h0_tape h0_told h0_traced s0__isKept s0__done s0__undoable s0__redoable s0__all s0__v s0__loss s0__isOver s0__hasCauses s0__outMany s0__overMany s0__isHalted s0__levelMany s0__rounds s0__stuck s0__onRounds s0__longest s0__loudest s0__reached s0__isAnyOver s0__taped s0__at s0__ran s0_g s0_p s0_path s0_isReached) (wm_X9_reaches cA h0 h0_g h0_p h0_path h0_isReached h0_kept h0_changed h0_causes h0_rows h0_sorts h0_sizes h0_moved h0_outs h0_losses h0_levelOf h0_levelOften h0_to h0_round h0_tail h0_leastOn h0_period h0_amplitude h0_basin h0_numbered h0_tape h0_told h0_traced s0__isKept s0__done s0__undoable s0__redoable o0__all o0__v o0__loss o0__isOver s0__hasCauses s0__outMany s0__overMany s0__isHalted s0__levelMany s0__rounds s0__stuck s0__onRounds s0__longest s0__loudest o0__reached o0__isAnyOver s0__taped s0__at s0__ran s0_g o0_p o0_path o0_isReached) (some (.int r)) := by
  refine Ct.intro (cc := cX9_scale) (maxL := 3) (ret := some .int) (by decide +kernel) rfl (Nat.le_of_ble_eq_true rfl) ?_
  intro p e s m ar below meth c A Q hx hb hr hml hown hlocks hts hK hZ hA hQ hP hD hS ls hl
  have hown : s.vm.findClass RX9 = some m.cls := hown
  have hinX9 : ∀ w ∈ wsX90, w ∈ wsX9_scale := fun _ h => List.mem_cons_of_mem _ (List.mem_append_right _ (h))
  have hl : lv_has ls 3 [(0, .ref h0), (1, .int x1)] := hl
  have hP : va_P G vwCl (wm_X9_reaches cA h0 h0_g h0_p h0_path h0_isReached h0_kept h0_changed h0_causes h0_rows h0_sorts h0_sizes h0_moved h0_outs h0_losses h0_levelOf h0_levelOften h0_to h0_round h0_tail h0_leastOn h0_period h0_amplitude h0_basin h0_numbered h0_tape h0_told h0_traced s0__isKept s0__done s0__undoable s0__redoable s0__all s0__v s0__loss s0__isOver s0__hasCauses s0__outMany s0__overMany s0__isHalted s0__levelMany s0__rounds s0__stuck s0__onRounds s0__longest s0__loudest s0__reached s0__isAnyOver s0__taped s0__at s0__ran s0_g s0_p s0_path s0_isReached) s.heap := hP
  have hD : va_D A (wm_X9_reaches cA h0 h0_g h0_p h0_path h0_isReached h0_kept h0_changed h0_causes h0_rows h0_sorts h0_sizes h0_moved h0_outs h0_losses h0_levelOf h0_levelOften h0_to h0_round h0_tail h0_leastOn h0_period h0_amplitude h0_basin h0_numbered h0_tape h0_told h0_traced s0__isKept s0__done s0__undoable s0__redoable s0__all s0__v s0__loss s0__isOver s0__hasCauses s0__outMany s0__overMany s0__isHalted s0__levelMany s0__rounds s0__stuck s0__onRounds s0__longest s0__loudest s0__reached s0__isAnyOver s0__taped s0__at s0__ran s0_g s0_p s0_path s0_isReached) := hD
  have L_16 : ∀ (n : Nat) (y2 : Int32) (c0__all : Int32) (c0__v : Int32) (c0__loss : Int32) (c0__isOver : Int32) (c0__reached : Int32) (c0__isAnyOver : Int32) (c0_p : Nat → Int32) (c0_path : Nat → Int32) (c0_isReached : Nat → Int32) (oE : ((Int32) × (Int32) × (Int32) × (Int32) × (Int32) × (Int32) × (Int32) × (Nat → Int32) × (Nat → Int32) × (Nat → Int32)) ⊕ ((Int32) × (Int32) × (Int32) × (Int32) × (Int32) × (Int32) × (Nat → Int32) × (Nat → Int32) × (Nat → Int32))) (H : Heap) (locs : List Loc) (ls : Array Slot), va_P G vwCl (wm_X9_reaches cA h0 h0_g h0_p h0_path h0_isReached h0_kept h0_changed h0_causes h0_rows h0_sorts h0_sizes h0_moved h0_outs h0_losses h0_levelOf h0_levelOften h0_to h0_round h0_tail h0_leastOn h0_period h0_amplitude h0_basin h0_numbered h0_tape h0_told h0_traced s0__isKept s0__done s0__undoable s0__redoable c0__all c0__v c0__loss c0__isOver s0__hasCauses s0__outMany s0__overMany s0__isHalted s0__levelMany s0__rounds s0__stuck s0__onRounds s0__longest s0__loudest c0__reached c0__isAnyOver s0__taped s0__at s0__ran s0_g c0_p c0_path c0_isReached) H → va_D A (wm_X9_reaches cA h0 h0_g h0_p h0_path h0_isReached h0_kept h0_changed h0_causes h0_rows h0_sorts h0_sizes h0_moved h0_outs h0_losses h0_levelOf h0_levelOften h0_to h0_round h0_tail h0_leastOn h0_period h0_amplitude h0_basin h0_numbered h0_tape h0_told h0_traced s0__isKept s0__done s0__undoable s0__redoable c0__all c0__v c0__loss c0__isOver s0__hasCauses s0__outMany s0__overMany s0__isHalted s0__levelMany s0__rounds s0__stuck s0__onRounds s0__longest s0__loudest c0__reached c0__isAnyOver s0__taped s0__at s0__ran s0_g c0_p c0_path c0_isReached) → va_S A s.heap H locs → lv_has ls 3 [(0, .ref h0), (1, .int x1), (2, .int y2)] → fX9_scale_L16 x1 s0_g n y2 c0__all c0__v c0__loss c0__isOver c0__reached c0__isAnyOver c0_p c0_path c0_isReached = some oE → (∀ (p0_0 : Int32) (p0_1 : Int32) (p0_2 : Int32) (p0_3 : Int32) (p0_4 : Int32) (p0_5 : Int32) (p0_6 : Int32) (p0_7 : Nat → Int32) (p0_8 : Nat → Int32) (p0_9 : Nat → Int32), oE = .inl (p0_0, p0_1, p0_2, p0_3, p0_4, p0_5, p0_6, p0_7, p0_8, p0_9) → ∀ (H : Heap) (locs : List Loc) (ls : Array Slot), va_P G vwCl (wm_X9_reaches cA h0 h0_g h0_p h0_path h0_isReached h0_kept h0_changed h0_causes h0_rows h0_sorts h0_sizes h0_moved h0_outs h0_losses h0_levelOf h0_levelOften h0_to h0_round h0_tail h0_leastOn h0_period h0_amplitude h0_basin h0_numbered h0_tape h0_told h0_traced s0__isKept s0__done s0__undoable s0__redoable p0_1 p0_2 p0_3 p0_4 s0__hasCauses s0__outMany s0__overMany s0__isHalted s0__levelMany s0__rounds s0__stuck s0__onRounds s0__longest s0__loudest p0_5 p0_6 s0__taped s0__at s0__ran s0_g p0_7 p0_8 p0_9) H → va_D A (wm_X9_reaches cA h0 h0_g h0_p h0_path h0_isReached h0_kept h0_changed h0_causes h0_rows h0_sorts h0_sizes h0_moved h0_outs h0_losses h0_levelOf h0_levelOften h0_to h0_round h0_tail h0_leastOn h0_period h0_amplitude h0_basin h0_numbered h0_tape h0_told h0_traced s0__isKept s0__done s0__undoable s0__redoable p0_1 p0_2 p0_3 p0_4 s0__hasCauses s0__outMany s0__overMany s0__isHalted s0__levelMany s0__rounds s0__stuck s0__onRounds s0__longest s0__loudest p0_5 p0_6 s0__taped s0__at s0__ran s0_g p0_7 p0_8 p0_9) → va_S A s.heap H locs → lv_has ls 3 [(2, .int p0_0)] → W p l e (rmX 6 157) s m ar below meth c H locs 0 0 Q (F0 m 36 ls [])) → (∀ (p1_0 : Int32) (p1_1 : Int32) (p1_2 : Int32) (p1_3 : Int32) (p1_4 : Int32) (p1_5 : Int32) (p1_6 : Nat → Int32) (p1_7 : Nat → Int32) (p1_8 : Nat → Int32), oE = .inr ((p1_0, p1_1, p1_2, p1_3, p1_4, p1_5, p1_6, p1_7, p1_8)) → ∀ (H : Heap) (locs : List Loc) (ls : Array Slot), va_P G vwCl (wm_X9_reaches cA h0 h0_g h0_p h0_path h0_isReached h0_kept h0_changed h0_causes h0_rows h0_sorts h0_sizes h0_moved h0_outs h0_losses h0_levelOf h0_levelOften h0_to h0_round h0_tail h0_leastOn h0_period h0_amplitude h0_basin h0_numbered h0_tape h0_told h0_traced s0__isKept s0__done s0__undoable s0__redoable p1_0 p1_1 p1_2 p1_3 s0__hasCauses s0__outMany s0__overMany s0__isHalted s0__levelMany s0__rounds s0__stuck s0__onRounds s0__longest s0__loudest p1_4 p1_5 s0__taped s0__at s0__ran s0_g p1_6 p1_7 p1_8) H → va_D A (wm_X9_reaches cA h0 h0_g h0_p h0_path h0_isReached h0_kept h0_changed h0_causes h0_rows h0_sorts h0_sizes h0_moved h0_outs h0_losses h0_levelOf h0_levelOften h0_to h0_round h0_tail h0_leastOn h0_period h0_amplitude h0_basin h0_numbered h0_tape h0_told h0_traced s0__isKept s0__done s0__undoable s0__redoable p1_0 p1_1 p1_2 p1_3 s0__hasCauses s0__outMany s0__overMany s0__isHalted s0__levelMany s0__rounds s0__stuck s0__onRounds s0__longest s0__loudest p1_4 p1_5 s0__taped s0__at s0__ran s0_g p1_6 p1_7 p1_8) → va_S A s.heap H locs → lv_has ls 3 [] → W p l e (rmX 6 157) s m ar below meth c H locs 0 0 Q (F0 m 44 ls [])) → W p l e (rmX 6 157) s m ar below meth c H locs 0 0 Q (F0 m 16 ls []) := by
    intro n
    induction n with
    | zero =>
      intro y2 c0__all c0__v c0__loss c0__isOver c0__reached c0__isAnyOver c0_p c0_path c0_isReached oE H locs ls hP hD hS hl hok
      rw [fX9_scale_L16] at hok
      cases hok
    | succ n ih =>
      intro y2 c0__all c0__v c0__loss c0__isOver c0__reached c0__isAnyOver c0_p c0_path c0_isReached oE H locs ls hP hD hS hl hok  K0 K1
      rw [fX9_scale_L16] at hok
      refine lv_iload_n hx hb dX9_scale_16 rfl (lv_at hl 2 rfl) ?_
      refine lv_bipush (v := 6) hx hb dX9_scale_17 (by decide) ?_
      refine lv_icmp_gt (tgt := 44) hx hb dX9_scale_19 (by decide) (fun c => ?_) (fun c => ?_)
      · replace hok := g_pos hok c
        cases hok
        exact K1 _ _ _ _ _ _ _ _ _ rfl _ _ _ hP hD hS (lv_sub hl [] rfl)
      replace hok := g_neg hok c
      refine lv_aload_n hx hb dX9_scale_22 rfl (lv_at hl 0 rfl) ?_
      refine lv_iload_n hx hb dX9_scale_23 rfl (lv_at hl 1 rfl) ?_
      refine lv_iload_n hx hb dX9_scale_24 rfl (lv_at hl 2 rfl) ?_
      refine lv_ishr hx hb dX9_scale_25 ?_
      obtain ⟨o2, o3, o4, o5, o6, o7, o8, o9, o10, hq, hok⟩ := g_bnd9 hok
      refine cG (is := [0, 1, 2, 3, 4]) (wc := (wm_X9_reaches cA h0 h0_g h0_p h0_path h0_isReached h0_kept h0_changed h0_causes h0_rows h0_sorts h0_sizes h0_moved h0_outs h0_losses h0_levelOf h0_levelOften h0_to h0_round h0_tail h0_leastOn h0_period h0_amplitude h0_basin h0_numbered h0_tape h0_told h0_traced s0__isKept s0__done s0__undoable s0__redoable c0__all c0__v c0__loss c0__isOver s0__hasCauses s0__outMany s0__overMany s0__isHalted s0__levelMany s0__rounds s0__stuck s0__onRounds s0__longest s0__loudest c0__reached c0__isAnyOver s0__taped s0__at s0__ran s0_g c0_p c0_path c0_isReached)) (w1 := (wm_X9_reaches cA h0 h0_g h0_p h0_path h0_isReached h0_kept h0_changed h0_causes h0_rows h0_sorts h0_sizes h0_moved h0_outs h0_losses h0_levelOf h0_levelOften h0_to h0_round h0_tail h0_leastOn h0_period h0_amplitude h0_basin h0_numbered h0_tape h0_told h0_traced s0__isKept s0__done s0__undoable s0__redoable o2 o3 o4 o5 s0__hasCauses s0__outMany s0__overMany s0__isHalted s0__levelMany s0__rounds s0__stuck s0__onRounds s0__longest s0__loudest o6 o7 s0__taped s0__at s0__ran s0_g o8 o9 o10)) (rv := none) (st1 := []) (va_runV (Ts := wsX9_scale) (As := [.int (x1 >>> (y2 &&& 31))]) (rest := []) ⟨hx, hb, hml, hown, hts⟩ (c_X9_reaches l G cA ts h0 h0_g h0_p h0_path h0_isReached h0_kept h0_changed h0_causes h0_rows h0_sorts h0_sizes h0_moved h0_outs h0_losses h0_levelOf h0_levelOften h0_to h0_round h0_tail h0_leastOn h0_period h0_amplitude h0_basin h0_numbered h0_tape h0_told h0_traced (x1 >>> (y2 &&& 31)) s0__isKept s0__done s0__undoable s0__redoable c0__all c0__v c0__loss c0__isOver s0__hasCauses s0__outMany s0__overMany s0__isHalted s0__levelMany s0__rounds s0__stuck s0__onRounds s0__longest s0__loudest c0__reached c0__isAnyOver s0__taped s0__at s0__ran s0_g c0_p c0_path c0_isReached o2 o3 o4 o5 o6 o7 o8 o9 o10 hq H.size) (cwV 1 hts gX9_scale_X9_reaches rfl rfl rfl (by decide +kernel) ⟨Nat.le_of_ble_eq_true rfl, Nat.le_of_ble_eq_true rfl⟩) (pre_V (ci := 9) (q0 := 0) (is := [0, 1, 2, 3, 4]) rfl rfl hP hD hS hA hK hZ (by decide +kernel) (by rfl)) rfl rfl hl.1 rfl (by exact lv_room (Nat.le_of_ble_eq_true rfl)) dX9_scale_26 ⟨Nat.le_refl _, Nat.le_refl _⟩) hP hD hS hA (by decide +kernel) (by rfl) (by rfl) rfl (fun H locs hP hD hS => ?_)
      have hP : va_P G vwCl (wm_X9_reaches cA h0 h0_g h0_p h0_path h0_isReached h0_kept h0_changed h0_causes h0_rows h0_sorts h0_sizes h0_moved h0_outs h0_losses h0_levelOf h0_levelOften h0_to h0_round h0_tail h0_leastOn h0_period h0_amplitude h0_basin h0_numbered h0_tape h0_told h0_traced s0__isKept s0__done s0__undoable s0__redoable o2 o3 o4 o5 s0__hasCauses s0__outMany s0__overMany s0__isHalted s0__levelMany s0__rounds s0__stuck s0__onRounds s0__longest s0__loudest o6 o7 s0__taped s0__at s0__ran s0_g o8 o9 o10) H := hP
      have hD : va_D A (wm_X9_reaches cA h0 h0_g h0_p h0_path h0_isReached h0_kept h0_changed h0_causes h0_rows h0_sorts h0_sizes h0_moved h0_outs h0_losses h0_levelOf h0_levelOften h0_to h0_round h0_tail h0_leastOn h0_period h0_amplitude h0_basin h0_numbered h0_tape h0_told h0_traced s0__isKept s0__done s0__undoable s0__redoable o2 o3 o4 o5 s0__hasCauses s0__outMany s0__overMany s0__isHalted s0__levelMany s0__rounds s0__stuck s0__onRounds s0__longest s0__loudest o6 o7 s0__taped s0__at s0__ran s0_g o8 o9 o10) := hD
      refine lv_aload_n hx hb dX9_scale_29 rfl (lv_at hl 0 rfl) ?_
      refine va_get (ci := 9) (v := .int o7) (C := RX9) (T := TX9) (N := 49) hx hb hts hinX9 hown hK hP 0 rfl rfl 42 (by decide) (hts _ (List.mem_of_getElem? (i := 2) rfl)) (fun _ h9 => h9) rfl dX9_scale_30 ?_
      refine lv_if_ne (tgt := 38) hx hb dX9_scale_33 (by decide) (fun c => ?_) (fun c => ?_)
      · replace hok := g_neg hok c
        refine lv_iinc (v := (y2 + 1)) (lv' := [(2, .int (y2 + 1)), (0, .ref h0), (1, .int x1)]) hx hb dX9_scale_38 hl (k := 2) rfl rfl (by decide) rfl (fun ls hl => ?_)
        refine lv_goto (tgt := 16) hx hb dX9_scale_41 (by decide) ?_
        exact ih (y2 + 1) o2 o3 o4 o5 o6 o7 o8 o9 o10 oE _ _ _ hP hD hS (lv_sub hl [1, 2, 0] rfl) hok K0 K1
      replace hok := g_pos hok c
      cases hok
      exact K0 _ _ _ _ _ _ _ _ _ _ rfl _ _ _ hP hD hS (lv_sub hl [2] rfl)
  unfold fX9_scale at hok
  refine lv_iload_n hx hb dX9_scale_0 rfl (lv_at hl 1 rfl) ?_
  refine lv_i2l (v := (x1.toInt64)) hx hb dX9_scale_1 rfl ?_
  refine lv_lconst (v := 0) hx hb dX9_scale_2 (by decide) ?_
  refine lv_ldc2 (v := 20) hx hb hown (hts _ (List.mem_of_getElem? (i := 1) rfl)) dX9_scale_3 ?_
  obtain ⟨r1, hq, hok⟩ := g_bnd1 hok
  refine cG (is := []) (wc := (wm_X0_find cA)) (w1 := (wm_X0_find cA)) (rv := (some (.int r1))) (st1 := [.int r1]) (va_runS (Ts := wsX9_scale) (As := [.long (x1.toInt64), .long (0:Int64), .long (20:Int64)]) (rest := []) ⟨hx, hb, hml, hown, hts⟩ (c_X9_in l G cA ts (x1.toInt64) (0:Int64) (20:Int64) r1 hq s.heap.size) (va_cwS 3 hts gX9_scale_X9_in rfl rfl rfl (by decide +kernel) ⟨Nat.le_of_ble_eq_true rfl, Nat.le_of_ble_eq_true rfl⟩) (pre_S (is := []) hP hD hS hA hK hZ (by decide +kernel) (by rfl)) rfl rfl hl.1 rfl (by exact lv_room (Nat.le_of_ble_eq_true rfl)) dX9_scale_6 ⟨Nat.le_refl _, Nat.le_refl _⟩) hP hD hS hA (by decide +kernel) (by rfl) (by rfl) rfl (fun H locs hP hD hS => ?_)
  have hP : va_P G vwCl (wm_X9_reaches cA h0 h0_g h0_p h0_path h0_isReached h0_kept h0_changed h0_causes h0_rows h0_sorts h0_sizes h0_moved h0_outs h0_losses h0_levelOf h0_levelOften h0_to h0_round h0_tail h0_leastOn h0_period h0_amplitude h0_basin h0_numbered h0_tape h0_told h0_traced s0__isKept s0__done s0__undoable s0__redoable s0__all s0__v s0__loss s0__isOver s0__hasCauses s0__outMany s0__overMany s0__isHalted s0__levelMany s0__rounds s0__stuck s0__onRounds s0__longest s0__loudest s0__reached s0__isAnyOver s0__taped s0__at s0__ran s0_g s0_p s0_path s0_isReached) H := hP
  have hD : va_D A (wm_X9_reaches cA h0 h0_g h0_p h0_path h0_isReached h0_kept h0_changed h0_causes h0_rows h0_sorts h0_sizes h0_moved h0_outs h0_losses h0_levelOf h0_levelOften h0_to h0_round h0_tail h0_leastOn h0_period h0_amplitude h0_basin h0_numbered h0_tape h0_told h0_traced s0__isKept s0__done s0__undoable s0__redoable s0__all s0__v s0__loss s0__isOver s0__hasCauses s0__outMany s0__overMany s0__isHalted s0__levelMany s0__rounds s0__stuck s0__onRounds s0__longest s0__loudest s0__reached s0__isAnyOver s0__taped s0__at s0__ran s0_g s0_p s0_path s0_isReached) := hD
  refine lv_if_ne (tgt := 14) hx hb dX9_scale_9 (by decide) (fun c => ?_) (fun c => ?_)
  · replace hok := g_neg hok c
    refine lv_iconst (v := 0) hx hb dX9_scale_14 (by decide) ?_
    refine lv_istore_n (lv' := [(2, .int (0:Int32)), (0, .ref h0), (1, .int x1)]) hx hb dX9_scale_15 rfl hl (by decide) rfl (fun ls hl => ?_)
    obtain ⟨o11, hq, hok⟩ := g_bnd1 hok
    refine L_16 FUEL (0:Int32) s0__all s0__v s0__loss s0__isOver s0__reached s0__isAnyOver s0_p s0_path s0_isReached o11 _ _ _ hP hD hS (lv_sub hl [1, 2, 0] rfl) hq (fun p0_0 p0_1 p0_2 p0_3 p0_4 p0_5 p0_6 p0_7 p0_8 p0_9 ho H locs ls hP hD hS hl => ?_) (fun p1_0 p1_1 p1_2 p1_3 p1_4 p1_5 p1_6 p1_7 p1_8 ho H locs ls hP hD hS hl => ?_)
    · subst ho
      replace hok := g_inl hok
      replace hok := g_c10 hok
      refine lv_iload_n hx hb dX9_scale_36 rfl (lv_at hl 0 rfl) ?_
      cases hok
      exact cr_i hx hb hr hlocks hQ dX9_scale_37 hP hS
    subst ho
    replace hok := g_inr hok
    replace hok := g_c9 hok
    refine lv_bipush (v := -2) hx hb dX9_scale_44 (by decide) ?_
    cases hok
    exact cr_i hx hb hr hlocks hQ dX9_scale_46 hP hS
  replace hok := g_pos hok c
  refine lv_iconst (v := -1) hx hb dX9_scale_12 (by decide) ?_
  cases hok
  exact cr_i hx hb hr hlocks hQ dX9_scale_13 hP hS
set_option maxHeartbeats 40000000 in
set_option maxRecDepth 100000 in
theorem c_X9_quietest (l : Launch) (G : va_G) (cA : Nat → ClassId) (ts : Nat → Nat) (h0 : Nat) (h0_g : Nat) (h0_p : Nat) (h0_to : Nat) (h0_round : Nat) (h0_tail : Nat) (h0_path : Nat) (h0_leastOn : Nat) (h0_period : Nat) (h0_amplitude : Nat) (h0_basin : Nat) (h0_numbered : Nat) (h0_kept : Nat) (h0_changed : Nat) (h0_causes : Nat) (h0_rows : Nat) (h0_sorts : Nat) (h0_sizes : Nat) (h0_moved : Nat) (h0_outs : Nat) (h0_losses : Nat) (h0_levelOf : Nat) (h0_levelOften : Nat) (h0_isReached : Nat) (h0_tape : Nat) (h0_told : Nat) (h0_traced : Nat) (x1 : Int32) (x2 : Int32) (s0__isKept : Int32) (s0__done : Int32) (s0__undoable : Int32) (s0__redoable : Int32) (s0__all : Int32) (s0__v : Int32) (s0__loss : Int32) (s0__isOver : Int32) (s0__hasCauses : Int32) (s0__outMany : Int32) (s0__overMany : Int32) (s0__isHalted : Int32) (s0__levelMany : Int32) (s0__rounds : Int32) (s0__stuck : Int32) (s0__onRounds : Int32) (s0__longest : Int32) (s0__loudest : Int32) (s0__reached : Int32) (s0__isAnyOver : Int32) (s0__taped : Int32) (s0__at : Int32) (s0__ran : Int32) (s0_g : Nat → Int32) (s0_p : Nat → Int32) (s0_to : Nat → Int32) (s0_round : Nat → Int32) (s0_tail : Nat → Int32) (s0_path : Nat → Int32) (s0_leastOn : Nat → Int32) (s0_period : Nat → Int32) (s0_amplitude : Nat → Int32) (s0_basin : Nat → Int32) (s0_numbered : Nat → Int32) (r : Int32) (o0__all : Int32) (o0__v : Int32) (o0__loss : Int32) (o0__isOver : Int32) (o0__rounds : Int32) (o0__stuck : Int32) (o0__onRounds : Int32) (o0__longest : Int32) (o0__loudest : Int32) (o0_g : Nat → Int32) (o0_p : Nat → Int32) (o0_to : Nat → Int32) (o0_round : Nat → Int32) (o0_tail : Nat → Int32) (o0_path : Nat → Int32) (o0_leastOn : Nat → Int32) (o0_period : Nat → Int32) (o0_amplitude : Nat → Int32) (o0_basin : Nat → Int32) (o0_numbered : Nat → Int32) (hok : fX9_quietest x1 x2 s0__all s0__v s0__loss s0__isOver s0__rounds s0__stuck s0__onRounds s0__longest s0__loudest s0_g s0_p s0_to s0_round s0_tail s0_path s0_leastOn s0_period s0_amplitude s0_basin s0_numbered = some (r, o0__all, o0__v, o0__loss, o0__isOver, o0__rounds, o0__stuck, o0__onRounds, o0__longest, o0__loudest, o0_g, o0_p, o0_to, o0_round, o0_tail, o0_path, o0_leastOn, o0_period, o0_amplitude, o0_basin, o0_numbered)) : Ct l G cA ts yX9_quietest wsX9_quietest 7 177 [.ref h0, .int x1, .int x2] (wm_X9_findsAll cA h0 h0_g h0_p h0_to h0_round h0_tail h0_path h0_leastOn h0_period h0_amplitude h0_basin h0_numbered h0_kept h0_changed h0_causes h0_rows h0_sorts h0_sizes h0_moved h0_outs h0_losses h0_levelOf h0_levelOften h0_isReached h0_tape h0_told h0_traced s0__isKept s0__done s0__undoable s0__redoable s0__all s0__v s0__loss s0__isOver s0__hasCauses s0__outMany s0__overMany s0__isHalted s0__levelMany s0__rounds s0__stuck s0__onRounds s0__longest s0__loudest s0__reached s0__isAnyOver s0__taped s0__at s0__ran s0_g s0_p s0_to s0_round s0_tail s0_path s0_leastOn s0_period s0_amplitude s0_basin s0_numbered) (wm_X9_findsAll cA h0 h0_g h0_p h0_to h0_round h0_tail h0_path h0_leastOn h0_period h0_amplitude h0_basin h0_numbered h0_kept h0_changed h0_causes h0_rows h0_sorts h0_sizes h0_moved h0_outs h0_losses h0_levelOf h0_levelOften h0_isReached h0_tape h0_told h0_traced s0__isKept s0__done s0__undoable s0__redoable o0__all o0__v o0__loss o0__isOver s0__hasCauses s0__outMany s0__overMany s0__isHalted s0__levelMany o0__rounds o0__stuck o0__onRounds o0__longest o0__loudest s0__reached s0__isAnyOver s0__taped s0__at s0__ran o0_g o0_p o0_to o0_round o0_tail o0_path o0_leastOn o0_period o0_amplitude o0_basin o0_numbered) (some (.int r)) := by
  refine Ct.intro (cc := cX9_quietest) (maxL := 7) (ret := some .int) (by decide +kernel) rfl (Nat.le_of_ble_eq_true rfl) ?_
  intro p e s m ar below meth c A Q hx hb hr hml hown hlocks hts hK hZ hA hQ hP hD hS ls hl
  have hown : s.vm.findClass RX9 = some m.cls := hown
  have hinX9 : ∀ w ∈ wsX90, w ∈ wsX9_quietest := fun _ h => List.mem_cons_of_mem _ (List.mem_append_right _ (h))
  have hl : lv_has ls 7 [(0, .ref h0), (1, .int x1), (2, .int x2)] := hl
  have hP : va_P G vwCl (wm_X9_findsAll cA h0 h0_g h0_p h0_to h0_round h0_tail h0_path h0_leastOn h0_period h0_amplitude h0_basin h0_numbered h0_kept h0_changed h0_causes h0_rows h0_sorts h0_sizes h0_moved h0_outs h0_losses h0_levelOf h0_levelOften h0_isReached h0_tape h0_told h0_traced s0__isKept s0__done s0__undoable s0__redoable s0__all s0__v s0__loss s0__isOver s0__hasCauses s0__outMany s0__overMany s0__isHalted s0__levelMany s0__rounds s0__stuck s0__onRounds s0__longest s0__loudest s0__reached s0__isAnyOver s0__taped s0__at s0__ran s0_g s0_p s0_to s0_round s0_tail s0_path s0_leastOn s0_period s0_amplitude s0_basin s0_numbered) s.heap := hP
  have hD : va_D A (wm_X9_findsAll cA h0 h0_g h0_p h0_to h0_round h0_tail h0_path h0_leastOn h0_period h0_amplitude h0_basin h0_numbered h0_kept h0_changed h0_causes h0_rows h0_sorts h0_sizes h0_moved h0_outs h0_losses h0_levelOf h0_levelOften h0_isReached h0_tape h0_told h0_traced s0__isKept s0__done s0__undoable s0__redoable s0__all s0__v s0__loss s0__isOver s0__hasCauses s0__outMany s0__overMany s0__isHalted s0__levelMany s0__rounds s0__stuck s0__onRounds s0__longest s0__loudest s0__reached s0__isAnyOver s0__taped s0__at s0__ran s0_g s0_p s0_to s0_round s0_tail s0_path s0_leastOn s0_period s0_amplitude s0_basin s0_numbered) := hD
  have L_36 : ∀ (n : Nat) (y3 : Int32) (y4 : Int32) (y5 : Int32) (y6 : Int32) (c0__all : Int32) (c0__v : Int32) (c0__loss : Int32) (c0__isOver : Int32) (c0__rounds : Int32) (c0__stuck : Int32) (c0__onRounds : Int32) (c0__longest : Int32) (c0__loudest : Int32) (c0_g : Nat → Int32) (c0_p : Nat → Int32) (c0_to : Nat → Int32) (c0_round : Nat → Int32) (c0_tail : Nat → Int32) (c0_path : Nat → Int32) (c0_leastOn : Nat → Int32) (c0_period : Nat → Int32) (c0_amplitude : Nat → Int32) (c0_basin : Nat → Int32) (c0_numbered : Nat → Int32) (p0_0 : Int32) (p0_1 : Int32) (p0_2 : Int32) (p0_3 : Int32) (p0_4 : Int32) (p0_5 : Int32) (p0_6 : Int32) (p0_7 : Int32) (p0_8 : Int32) (p0_9 : Int32) (p0_10 : Int32) (p0_11 : Nat → Int32) (p0_12 : Nat → Int32) (p0_13 : Nat → Int32) (p0_14 : Nat → Int32) (p0_15 : Nat → Int32) (p0_16 : Nat → Int32) (p0_17 : Nat → Int32) (p0_18 : Nat → Int32) (p0_19 : Nat → Int32) (p0_20 : Nat → Int32) (p0_21 : Nat → Int32) (H : Heap) (locs : List Loc) (ls : Array Slot), va_P G vwCl (wm_X9_findsAll cA h0 h0_g h0_p h0_to h0_round h0_tail h0_path h0_leastOn h0_period h0_amplitude h0_basin h0_numbered h0_kept h0_changed h0_causes h0_rows h0_sorts h0_sizes h0_moved h0_outs h0_losses h0_levelOf h0_levelOften h0_isReached h0_tape h0_told h0_traced s0__isKept s0__done s0__undoable s0__redoable c0__all c0__v c0__loss c0__isOver s0__hasCauses s0__outMany s0__overMany s0__isHalted s0__levelMany c0__rounds c0__stuck c0__onRounds c0__longest c0__loudest s0__reached s0__isAnyOver s0__taped s0__at s0__ran c0_g c0_p c0_to c0_round c0_tail c0_path c0_leastOn c0_period c0_amplitude c0_basin c0_numbered) H → va_D A (wm_X9_findsAll cA h0 h0_g h0_p h0_to h0_round h0_tail h0_path h0_leastOn h0_period h0_amplitude h0_basin h0_numbered h0_kept h0_changed h0_causes h0_rows h0_sorts h0_sizes h0_moved h0_outs h0_losses h0_levelOf h0_levelOften h0_isReached h0_tape h0_told h0_traced s0__isKept s0__done s0__undoable s0__redoable c0__all c0__v c0__loss c0__isOver s0__hasCauses s0__outMany s0__overMany s0__isHalted s0__levelMany c0__rounds c0__stuck c0__onRounds c0__longest c0__loudest s0__reached s0__isAnyOver s0__taped s0__at s0__ran c0_g c0_p c0_to c0_round c0_tail c0_path c0_leastOn c0_period c0_amplitude c0_basin c0_numbered) → va_S A s.heap H locs → lv_has ls 7 [(0, .ref h0), (1, .int x1), (2, .int x2), (3, .int y3), (4, .int y4), (5, .int y5), (6, .int y6)] → fX9_quietest_L36 x1 x2 n y3 y4 y5 y6 c0__all c0__v c0__loss c0__isOver c0__rounds c0__stuck c0__onRounds c0__longest c0__loudest c0_g c0_p c0_to c0_round c0_tail c0_path c0_leastOn c0_period c0_amplitude c0_basin c0_numbered = some (p0_0, p0_1, p0_2, p0_3, p0_4, p0_5, p0_6, p0_7, p0_8, p0_9, p0_10, p0_11, p0_12, p0_13, p0_14, p0_15, p0_16, p0_17, p0_18, p0_19, p0_20, p0_21) → (∀ (H : Heap) (locs : List Loc) (ls : Array Slot), va_P G vwCl (wm_X9_findsAll cA h0 h0_g h0_p h0_to h0_round h0_tail h0_path h0_leastOn h0_period h0_amplitude h0_basin h0_numbered h0_kept h0_changed h0_causes h0_rows h0_sorts h0_sizes h0_moved h0_outs h0_losses h0_levelOf h0_levelOften h0_isReached h0_tape h0_told h0_traced s0__isKept s0__done s0__undoable s0__redoable p0_2 p0_3 p0_4 p0_5 s0__hasCauses s0__outMany s0__overMany s0__isHalted s0__levelMany p0_6 p0_7 p0_8 p0_9 p0_10 s0__reached s0__isAnyOver s0__taped s0__at s0__ran p0_11 p0_12 p0_13 p0_14 p0_15 p0_16 p0_17 p0_18 p0_19 p0_20 p0_21) H → va_D A (wm_X9_findsAll cA h0 h0_g h0_p h0_to h0_round h0_tail h0_path h0_leastOn h0_period h0_amplitude h0_basin h0_numbered h0_kept h0_changed h0_causes h0_rows h0_sorts h0_sizes h0_moved h0_outs h0_losses h0_levelOf h0_levelOften h0_isReached h0_tape h0_told h0_traced s0__isKept s0__done s0__undoable s0__redoable p0_2 p0_3 p0_4 p0_5 s0__hasCauses s0__outMany s0__overMany s0__isHalted s0__levelMany p0_6 p0_7 p0_8 p0_9 p0_10 s0__reached s0__isAnyOver s0__taped s0__at s0__ran p0_11 p0_12 p0_13 p0_14 p0_15 p0_16 p0_17 p0_18 p0_19 p0_20 p0_21) → va_S A s.heap H locs → lv_has ls 7 [(0, .ref h0), (2, .int x2), (3, .int y3), (4, .int p0_0), (5, .int p0_1)] → W p l e (rmX 7 177) s m ar below meth c H locs 0 0 Q (F0 m 86 ls [])) → W p l e (rmX 7 177) s m ar below meth c H locs 0 0 Q (F0 m 36 ls []) := by
    intro n
    induction n with
    | zero =>
      intro y3 y4 y5 y6 c0__all c0__v c0__loss c0__isOver c0__rounds c0__stuck c0__onRounds c0__longest c0__loudest c0_g c0_p c0_to c0_round c0_tail c0_path c0_leastOn c0_period c0_amplitude c0_basin c0_numbered p0_0 p0_1 p0_2 p0_3 p0_4 p0_5 p0_6 p0_7 p0_8 p0_9 p0_10 p0_11 p0_12 p0_13 p0_14 p0_15 p0_16 p0_17 p0_18 p0_19 p0_20 p0_21 H locs ls hP hD hS hl hok
      rw [fX9_quietest_L36] at hok
      cases hok
    | succ n ih =>
      intro y3 y4 y5 y6 c0__all c0__v c0__loss c0__isOver c0__rounds c0__stuck c0__onRounds c0__longest c0__loudest c0_g c0_p c0_to c0_round c0_tail c0_path c0_leastOn c0_period c0_amplitude c0_basin c0_numbered p0_0 p0_1 p0_2 p0_3 p0_4 p0_5 p0_6 p0_7 p0_8 p0_9 p0_10 p0_11 p0_12 p0_13 p0_14 p0_15 p0_16 p0_17 p0_18 p0_19 p0_20 p0_21 H locs ls hP hD hS hl hok K
      rw [fX9_quietest_L36] at hok
      refine lv_iload hx hb dX9_quietest_36 (lv_at hl 6 rfl) ?_
      refine lv_iconst (v := 5) hx hb dX9_quietest_38 (by decide) ?_
      refine lv_icmp_ge (tgt := 86) hx hb dX9_quietest_39 (by decide) (fun c => ?_) (fun c => ?_)
      · replace hok := g_pos hok c
        cases hok
        exact K _ _ _ hP hD hS (lv_sub hl [0, 2, 3, 4, 5] rfl)
      replace hok := g_neg hok c
      refine lv_aload_n hx hb dX9_quietest_42 rfl (lv_at hl 0 rfl) ?_
      refine va_get (ci := 9) (v := .ref h0_g) (C := RX9) (T := TX9) (N := 49) hx hb hts hinX9 hown hK hP 0 rfl rfl 0 (by decide) (hts _ (List.mem_of_getElem? (i := 1) rfl)) (fun _ h9 => h9) rfl dX9_quietest_43 ?_
      refine lv_bipush (v := 7) hx hb dX9_quietest_46 (by decide) ?_
      refine lv_iload hx hb dX9_quietest_48 (lv_at hl 6 rfl) ?_
      refine x_iast (k := 7) hx hb hK hP hD hS 1 0 rfl rfl (show ¬ ((7:Int32) < 0 ∨ 13 ≤ (7:Int32).toNatClampNeg) by decide) (by decide) dX9_quietest_50 (fun H locs hP hD hS => ?_)
      have hP : va_P G vwCl (wm_X9_findsAll cA h0 h0_g h0_p h0_to h0_round h0_tail h0_path h0_leastOn h0_period h0_amplitude h0_basin h0_numbered h0_kept h0_changed h0_causes h0_rows h0_sorts h0_sizes h0_moved h0_outs h0_losses h0_levelOf h0_levelOften h0_isReached h0_tape h0_told h0_traced s0__isKept s0__done s0__undoable s0__redoable c0__all c0__v c0__loss c0__isOver s0__hasCauses s0__outMany s0__overMany s0__isHalted s0__levelMany c0__rounds c0__stuck c0__onRounds c0__longest c0__loudest s0__reached s0__isAnyOver s0__taped s0__at s0__ran (upd c0_g 7 y6) c0_p c0_to c0_round c0_tail c0_path c0_leastOn c0_period c0_amplitude c0_basin c0_numbered) H := hP
      have hD : va_D A (wm_X9_findsAll cA h0 h0_g h0_p h0_to h0_round h0_tail h0_path h0_leastOn h0_period h0_amplitude h0_basin h0_numbered h0_kept h0_changed h0_causes h0_rows h0_sorts h0_sizes h0_moved h0_outs h0_losses h0_levelOf h0_levelOften h0_isReached h0_tape h0_told h0_traced s0__isKept s0__done s0__undoable s0__redoable c0__all c0__v c0__loss c0__isOver s0__hasCauses s0__outMany s0__overMany s0__isHalted s0__levelMany c0__rounds c0__stuck c0__onRounds c0__longest c0__loudest s0__reached s0__isAnyOver s0__taped s0__at s0__ran (upd c0_g 7 y6) c0_p c0_to c0_round c0_tail c0_path c0_leastOn c0_period c0_amplitude c0_basin c0_numbered) := hD
      refine lv_aload_n hx hb dX9_quietest_51 rfl (lv_at hl 0 rfl) ?_
      refine lv_iload_n hx hb dX9_quietest_52 rfl (lv_at hl 1 rfl) ?_
      obtain ⟨o3, o4, o5, o6, o7, o8, o9, o10, o11, o12, o13, o14, o15, o16, o17, o18, o19, o20, o21, hq, hok⟩ := g_bnd19 hok
      refine cG (is := [0, 1, 2, 3, 4, 5, 6, 7, 8, 9, 10, 11]) (wc := (wm_X9_findsAll cA h0 h0_g h0_p h0_to h0_round h0_tail h0_path h0_leastOn h0_period h0_amplitude h0_basin h0_numbered h0_kept h0_changed h0_causes h0_rows h0_sorts h0_sizes h0_moved h0_outs h0_losses h0_levelOf h0_levelOften h0_isReached h0_tape h0_told h0_traced s0__isKept s0__done s0__undoable s0__redoable c0__all c0__v c0__loss c0__isOver s0__hasCauses s0__outMany s0__overMany s0__isHalted s0__levelMany c0__rounds c0__stuck c0__onRounds c0__longest c0__loudest s0__reached s0__isAnyOver s0__taped s0__at s0__ran (upd c0_g 7 y6) c0_p c0_to c0_round c0_tail c0_path c0_leastOn c0_period c0_amplitude c0_basin c0_numbered)) (w1 := (wm_X9_findsAll cA h0 h0_g h0_p h0_to h0_round h0_tail h0_path h0_leastOn h0_period h0_amplitude h0_basin h0_numbered h0_kept h0_changed h0_causes h0_rows h0_sorts h0_sizes h0_moved h0_outs h0_losses h0_levelOf h0_levelOften h0_isReached h0_tape h0_told h0_traced s0__isKept s0__done s0__undoable s0__redoable o3 o4 o5 o6 s0__hasCauses s0__outMany s0__overMany s0__isHalted s0__levelMany o7 o8 o9 o10 o11 s0__reached s0__isAnyOver s0__taped s0__at s0__ran (upd c0_g 7 y6) o12 o13 o14 o15 o16 o17 o18 o19 o20 o21)) (rv := none) (st1 := []) (va_runV (Ts := wsX9_quietest) (As := [.int x1]) (rest := []) ⟨hx, hb, hml, hown, hts⟩ (c_X9_findsAll l G cA ts h0 h0_g h0_p h0_to h0_round h0_tail h0_path h0_leastOn h0_period h0_amplitude h0_basin h0_numbered h0_kept h0_changed h0_causes h0_rows h0_sorts h0_sizes h0_moved h0_outs h0_losses h0_levelOf h0_levelOften h0_isReached h0_tape h0_told h0_traced x1 s0__isKept s0__done s0__undoable s0__redoable c0__all c0__v c0__loss c0__isOver s0__hasCauses s0__outMany s0__overMany s0__isHalted s0__levelMany c0__rounds c0__stuck c0__onRounds c0__longest c0__loudest s0__reached s0__isAnyOver s0__taped s0__at s0__ran (upd c0_g 7 y6) c0_p c0_to c0_round c0_tail c0_path c0_leastOn c0_period c0_amplitude c0_basin c0_numbered o3 o4 o5 o6 o7 o8 o9 o10 o11 o12 o13 o14 o15 o16 o17 o18 o19 o20 o21 hq H.size) (cwV 1 hts gX9_quietest_X9_findsAll rfl rfl rfl (by decide +kernel) ⟨Nat.le_of_ble_eq_true rfl, Nat.le_of_ble_eq_true rfl⟩) (pre_V (ci := 9) (q0 := 0) (is := [0, 1, 2, 3, 4, 5, 6, 7, 8, 9, 10, 11]) rfl rfl hP hD hS hA hK hZ (by decide +kernel) (by rfl)) rfl rfl hl.1 rfl (by exact lv_room (Nat.le_of_ble_eq_true rfl)) dX9_quietest_53 ⟨Nat.le_refl _, Nat.le_refl _⟩) hP hD hS hA (by decide +kernel) (by rfl) (by rfl) rfl (fun H locs hP hD hS => ?_)
      obtain ⟨hP, hD⟩ : va_P G vwCl (wm_X9_findsAll cA h0 h0_g h0_p h0_to h0_round h0_tail h0_path h0_leastOn h0_period h0_amplitude h0_basin h0_numbered h0_kept h0_changed h0_causes h0_rows h0_sorts h0_sizes h0_moved h0_outs h0_losses h0_levelOf h0_levelOften h0_isReached h0_tape h0_told h0_traced s0__isKept s0__done s0__undoable s0__redoable o3 o4 o5 o6 s0__hasCauses s0__outMany s0__overMany s0__isHalted s0__levelMany o7 o8 o9 o10 o11 s0__reached s0__isAnyOver s0__taped s0__at s0__ran (upd c0_g 7 y6) o12 o13 o14 o15 o16 o17 o18 o19 o20 o21) H ∧ va_D A (wm_X9_findsAll cA h0 h0_g h0_p h0_to h0_round h0_tail h0_path h0_leastOn h0_period h0_amplitude h0_basin h0_numbered h0_kept h0_changed h0_causes h0_rows h0_sorts h0_sizes h0_moved h0_outs h0_losses h0_levelOf h0_levelOften h0_isReached h0_tape h0_told h0_traced s0__isKept s0__done s0__undoable s0__redoable o3 o4 o5 o6 s0__hasCauses s0__outMany s0__overMany s0__isHalted s0__levelMany o7 o8 o9 o10 o11 s0__reached s0__isAnyOver s0__taped s0__at s0__ran (upd c0_g 7 y6) o12 o13 o14 o15 o16 o17 o18 o19 o20 o21) := PD_eq hP hD (rp_eq (js := []) 12 (by decide +kernel) rfl rfl (by rfl) (by rfl) (by decide +kernel))
      refine lv_iload hx hb dX9_quietest_56 (lv_at hl 4 rfl) ?_
      refine lv_if_lt (tgt := 70) hx hb dX9_quietest_58 (by decide) (fun c => ?_) (fun c => ?_)
      · replace hok := g_pos hok c
        refine lv_iload hx hb dX9_quietest_70 (lv_at hl 6 rfl) ?_
        refine lv_istore (lv' := [(4, .int y6), (0, .ref h0), (1, .int x1), (2, .int x2), (3, .int y3), (5, .int y5), (6, .int y6)]) hx hb dX9_quietest_72 hl (by decide) rfl (fun ls hl => ?_)
        refine lv_aload_n hx hb dX9_quietest_74 rfl (lv_at hl 1 rfl) ?_
        refine va_get (ci := 9) (v := .int o11) (C := RX9) (T := TX9) (N := 49) hx hb hts hinX9 hown hK hP 0 rfl rfl 39 (by decide) (hts _ (List.mem_of_getElem? (i := 2) rfl)) (fun _ h9 => h9) rfl dX9_quietest_75 ?_
        refine lv_istore (lv' := [(5, .int o11), (4, .int y6), (0, .ref h0), (1, .int x1), (2, .int x2), (3, .int y3), (6, .int y6)]) hx hb dX9_quietest_78 hl (by decide) rfl (fun ls hl => ?_)
        refine lv_iinc (v := (y6 + 1)) (lv' := [(6, .int (y6 + 1)), (5, .int o11), (4, .int y6), (0, .ref h0), (1, .int x1), (2, .int x2), (3, .int y3)]) hx hb dX9_quietest_80 hl (k := 6) rfl rfl (by decide) rfl (fun ls hl => ?_)
        refine lv_goto (tgt := 36) hx hb dX9_quietest_83 (by decide) ?_
        exact ih y3 y6 o11 (y6 + 1) o3 o4 o5 o6 o7 o8 o9 o10 o11 (upd c0_g 7 y6) o12 o13 o14 o15 o16 o17 o18 o19 o20 o21 p0_0 p0_1 p0_2 p0_3 p0_4 p0_5 p0_6 p0_7 p0_8 p0_9 p0_10 p0_11 p0_12 p0_13 p0_14 p0_15 p0_16 p0_17 p0_18 p0_19 p0_20 p0_21 _ _ _ hP hD hS (lv_sub hl [3, 4, 5, 6, 2, 1, 0] rfl) hok K
      replace hok := g_neg hok c
      refine lv_aload_n hx hb dX9_quietest_61 rfl (lv_at hl 0 rfl) ?_
      refine va_get (ci := 9) (v := .int o11) (C := RX9) (T := TX9) (N := 49) hx hb hts hinX9 hown hK hP 0 rfl rfl 39 (by decide) (hts _ (List.mem_of_getElem? (i := 2) rfl)) (fun _ h9 => h9) rfl dX9_quietest_62 ?_
      refine lv_iload hx hb dX9_quietest_65 (lv_at hl 5 rfl) ?_
      refine lv_icmp_ge (tgt := 80) hx hb dX9_quietest_67 (by decide) (fun c => ?_) (fun c => ?_)
      · replace hok := g_pos hok c
        refine lv_iinc (v := (y6 + 1)) (lv' := [(6, .int (y6 + 1)), (0, .ref h0), (1, .int x1), (2, .int x2), (3, .int y3), (4, .int y4), (5, .int y5)]) hx hb dX9_quietest_80 hl (k := 6) rfl rfl (by decide) rfl (fun ls hl => ?_)
        refine lv_goto (tgt := 36) hx hb dX9_quietest_83 (by decide) ?_
        exact ih y3 y4 y5 (y6 + 1) o3 o4 o5 o6 o7 o8 o9 o10 o11 (upd c0_g 7 y6) o12 o13 o14 o15 o16 o17 o18 o19 o20 o21 p0_0 p0_1 p0_2 p0_3 p0_4 p0_5 p0_6 p0_7 p0_8 p0_9 p0_10 p0_11 p0_12 p0_13 p0_14 p0_15 p0_16 p0_17 p0_18 p0_19 p0_20 p0_21 _ _ _ hP hD hS (lv_sub hl [1, 2, 3, 4, 5, 6, 0] rfl) hok K
      replace hok := g_neg hok c
      refine lv_iload hx hb dX9_quietest_70 (lv_at hl 6 rfl) ?_
      refine lv_istore (lv' := [(4, .int y6), (0, .ref h0), (1, .int x1), (2, .int x2), (3, .int y3), (5, .int y5), (6, .int y6)]) hx hb dX9_quietest_72 hl (by decide) rfl (fun ls hl => ?_)
      refine lv_aload_n hx hb dX9_quietest_74 rfl (lv_at hl 1 rfl) ?_
      refine va_get (ci := 9) (v := .int o11) (C := RX9) (T := TX9) (N := 49) hx hb hts hinX9 hown hK hP 0 rfl rfl 39 (by decide) (hts _ (List.mem_of_getElem? (i := 2) rfl)) (fun _ h9 => h9) rfl dX9_quietest_75 ?_
      refine lv_istore (lv' := [(5, .int o11), (4, .int y6), (0, .ref h0), (1, .int x1), (2, .int x2), (3, .int y3), (6, .int y6)]) hx hb dX9_quietest_78 hl (by decide) rfl (fun ls hl => ?_)
      refine lv_iinc (v := (y6 + 1)) (lv' := [(6, .int (y6 + 1)), (5, .int o11), (4, .int y6), (0, .ref h0), (1, .int x1), (2, .int x2), (3, .int y3)]) hx hb dX9_quietest_80 hl (k := 6) rfl rfl (by decide) rfl (fun ls hl => ?_)
      refine lv_goto (tgt := 36) hx hb dX9_quietest_83 (by decide) ?_
      exact ih y3 y6 o11 (y6 + 1) o3 o4 o5 o6 o7 o8 o9 o10 o11 (upd c0_g 7 y6) o12 o13 o14 o15 o16 o17 o18 o19 o20 o21 p0_0 p0_1 p0_2 p0_3 p0_4 p0_5 p0_6 p0_7 p0_8 p0_9 p0_10 p0_11 p0_12 p0_13 p0_14 p0_15 p0_16 p0_17 p0_18 p0_19 p0_20 p0_21 _ _ _ hP hD hS (lv_sub hl [3, 4, 5, 6, 2, 1, 0] rfl) hok K
  unfold fX9_quietest at hok
  refine lv_iload_n hx hb dX9_quietest_0 rfl (lv_at hl 1 rfl) ?_
  obtain ⟨r1, hq, hok⟩ := g_bnd1 hok
  refine cG (is := []) (wc := (wm_X0_find cA)) (w1 := (wm_X0_find cA)) (rv := (some (.int r1))) (st1 := [.int r1]) (va_runS (Ts := wsX9_quietest) (As := [.int x1]) (rest := []) ⟨hx, hb, hml, hown, hts⟩ (c_X9_isInput l G cA ts x1 r1 hq s.heap.size) (va_cwS 1 hts gX9_quietest_X9_isInput rfl rfl rfl (by decide +kernel) ⟨Nat.le_of_ble_eq_true rfl, Nat.le_of_ble_eq_true rfl⟩) (pre_S (is := []) hP hD hS hA hK hZ (by decide +kernel) (by rfl)) rfl rfl hl.1 rfl (by exact lv_room (Nat.le_of_ble_eq_true rfl)) dX9_quietest_1 ⟨Nat.le_refl _, Nat.le_refl _⟩) hP hD hS hA (by decide +kernel) (by rfl) (by rfl) rfl (fun H locs hP hD hS => ?_)
  have hP : va_P G vwCl (wm_X9_findsAll cA h0 h0_g h0_p h0_to h0_round h0_tail h0_path h0_leastOn h0_period h0_amplitude h0_basin h0_numbered h0_kept h0_changed h0_causes h0_rows h0_sorts h0_sizes h0_moved h0_outs h0_losses h0_levelOf h0_levelOften h0_isReached h0_tape h0_told h0_traced s0__isKept s0__done s0__undoable s0__redoable s0__all s0__v s0__loss s0__isOver s0__hasCauses s0__outMany s0__overMany s0__isHalted s0__levelMany s0__rounds s0__stuck s0__onRounds s0__longest s0__loudest s0__reached s0__isAnyOver s0__taped s0__at s0__ran s0_g s0_p s0_to s0_round s0_tail s0_path s0_leastOn s0_period s0_amplitude s0_basin s0_numbered) H := hP
  have hD : va_D A (wm_X9_findsAll cA h0 h0_g h0_p h0_to h0_round h0_tail h0_path h0_leastOn h0_period h0_amplitude h0_basin h0_numbered h0_kept h0_changed h0_causes h0_rows h0_sorts h0_sizes h0_moved h0_outs h0_losses h0_levelOf h0_levelOften h0_isReached h0_tape h0_told h0_traced s0__isKept s0__done s0__undoable s0__redoable s0__all s0__v s0__loss s0__isOver s0__hasCauses s0__outMany s0__overMany s0__isHalted s0__levelMany s0__rounds s0__stuck s0__onRounds s0__longest s0__loudest s0__reached s0__isAnyOver s0__taped s0__at s0__ran s0_g s0_p s0_to s0_round s0_tail s0_path s0_leastOn s0_period s0_amplitude s0_basin s0_numbered) := hD
  refine lv_if_eq (tgt := 17) hx hb dX9_quietest_4 (by decide) (fun c => ?_) (fun c => ?_)
  · replace hok := g_pos hok c
    refine lv_iconst (v := -1) hx hb dX9_quietest_17 (by decide) ?_
    obtain ⟨e, hok⟩ := g_pr hok
    try subst e
    obtain ⟨e, hok⟩ := g_pr hok
    try subst e
    obtain ⟨e, hok⟩ := g_pr hok
    try subst e
    obtain ⟨e, hok⟩ := g_pr hok
    try subst e
    obtain ⟨e, hok⟩ := g_pr hok
    try subst e
    obtain ⟨e, hok⟩ := g_pr hok
    try subst e
    obtain ⟨e, hok⟩ := g_pr hok
    try subst e
    obtain ⟨e, hok⟩ := g_pr hok
    try subst e
    obtain ⟨e, hok⟩ := g_pr hok
    try subst e
    obtain ⟨e, hok⟩ := g_pr hok
    try subst e
    obtain ⟨e, hok⟩ := g_pr hok
    try subst e
    obtain ⟨e, hok⟩ := g_pr hok
    try subst e
    obtain ⟨e, hok⟩ := g_pr hok
    try subst e
    obtain ⟨e, hok⟩ := g_pr hok
    try subst e
    obtain ⟨e, hok⟩ := g_pr hok
    try subst e
    obtain ⟨e, hok⟩ := g_pr hok
    try subst e
    obtain ⟨e, hok⟩ := g_pr hok
    try subst e
    obtain ⟨e, hok⟩ := g_pr hok
    try subst e
    obtain ⟨e, hok⟩ := g_pr hok
    try subst e
    obtain ⟨e, hok⟩ := g_pr hok
    try subst e
    cases hok
    exact cr_i hx hb hr hlocks hQ dX9_quietest_18 hP hS
  replace hok := g_neg hok c
  refine lv_iload_n hx hb dX9_quietest_7 rfl (lv_at hl 2 rfl) ?_
  refine lv_i2l (v := (x2.toInt64)) hx hb dX9_quietest_8 rfl ?_
  refine lv_lconst (v := 0) hx hb dX9_quietest_9 (by decide) ?_
  refine lv_lconst (v := 1) hx hb dX9_quietest_10 (by decide) ?_
  obtain ⟨r2, hq, hok⟩ := g_bnd1 hok
  refine cG (is := []) (wc := (wm_X0_find cA)) (w1 := (wm_X0_find cA)) (rv := (some (.int r2))) (st1 := [.int r2]) (va_runS (Ts := wsX9_quietest) (As := [.long (x2.toInt64), .long (0:Int64), .long (1:Int64)]) (rest := []) ⟨hx, hb, hml, hown, hts⟩ (c_X9_in l G cA ts (x2.toInt64) (0:Int64) (1:Int64) r2 hq H.size) (va_cwS 3 hts gX9_quietest_X9_in rfl rfl rfl (by decide +kernel) ⟨Nat.le_of_ble_eq_true rfl, Nat.le_of_ble_eq_true rfl⟩) (pre_S (is := []) hP hD hS hA hK hZ (by decide +kernel) (by rfl)) rfl rfl hl.1 rfl (by exact lv_room (Nat.le_of_ble_eq_true rfl)) dX9_quietest_11 ⟨Nat.le_refl _, Nat.le_refl _⟩) hP hD hS hA (by decide +kernel) (by rfl) (by rfl) rfl (fun H locs hP hD hS => ?_)
  have hP : va_P G vwCl (wm_X9_findsAll cA h0 h0_g h0_p h0_to h0_round h0_tail h0_path h0_leastOn h0_period h0_amplitude h0_basin h0_numbered h0_kept h0_changed h0_causes h0_rows h0_sorts h0_sizes h0_moved h0_outs h0_losses h0_levelOf h0_levelOften h0_isReached h0_tape h0_told h0_traced s0__isKept s0__done s0__undoable s0__redoable s0__all s0__v s0__loss s0__isOver s0__hasCauses s0__outMany s0__overMany s0__isHalted s0__levelMany s0__rounds s0__stuck s0__onRounds s0__longest s0__loudest s0__reached s0__isAnyOver s0__taped s0__at s0__ran s0_g s0_p s0_to s0_round s0_tail s0_path s0_leastOn s0_period s0_amplitude s0_basin s0_numbered) H := hP
  have hD : va_D A (wm_X9_findsAll cA h0 h0_g h0_p h0_to h0_round h0_tail h0_path h0_leastOn h0_period h0_amplitude h0_basin h0_numbered h0_kept h0_changed h0_causes h0_rows h0_sorts h0_sizes h0_moved h0_outs h0_losses h0_levelOf h0_levelOften h0_isReached h0_tape h0_told h0_traced s0__isKept s0__done s0__undoable s0__redoable s0__all s0__v s0__loss s0__isOver s0__hasCauses s0__outMany s0__overMany s0__isHalted s0__levelMany s0__rounds s0__stuck s0__onRounds s0__longest s0__loudest s0__reached s0__isAnyOver s0__taped s0__at s0__ran s0_g s0_p s0_to s0_round s0_tail s0_path s0_leastOn s0_period s0_amplitude s0_basin s0_numbered) := hD
  refine lv_if_ne (tgt := 19) hx hb dX9_quietest_14 (by decide) (fun c => ?_) (fun c => ?_)
  · replace hok := g_neg hok c
    refine lv_aload_n hx hb dX9_quietest_19 rfl (lv_at hl 0 rfl) ?_
    refine va_get (ci := 9) (v := .ref h0_g) (C := RX9) (T := TX9) (N := 49) hx hb hts hinX9 hown hK hP 0 rfl rfl 0 (by decide) (hts _ (List.mem_of_getElem? (i := 1) rfl)) (fun _ h9 => h9) rfl dX9_quietest_20 ?_
    refine lv_bipush (v := 7) hx hb dX9_quietest_23 (by decide) ?_
    refine x_iald (k := 7) hx hb hK hP 1 0 rfl rfl (show ¬ ((7:Int32) < 0 ∨ 13 ≤ (7:Int32).toNatClampNeg) by decide) (by decide) dX9_quietest_25 ?_
    refine lv_istore_n (lv' := [(3, .int (s0_g 7)), (0, .ref h0), (1, .int x1), (2, .int x2)]) hx hb dX9_quietest_26 rfl hl (by decide) rfl (fun ls hl => ?_)
    refine lv_iconst (v := -1) hx hb dX9_quietest_27 (by decide) ?_
    refine lv_istore (lv' := [(4, .int (-1:Int32)), (3, .int (s0_g 7)), (0, .ref h0), (1, .int x1), (2, .int x2)]) hx hb dX9_quietest_28 hl (by decide) rfl (fun ls hl => ?_)
    refine lv_iconst (v := 0) hx hb dX9_quietest_30 (by decide) ?_
    refine lv_istore (lv' := [(5, .int (0:Int32)), (4, .int (-1:Int32)), (3, .int (s0_g 7)), (0, .ref h0), (1, .int x1), (2, .int x2)]) hx hb dX9_quietest_31 hl (by decide) rfl (fun ls hl => ?_)
    refine lv_iconst (v := 0) hx hb dX9_quietest_33 (by decide) ?_
    refine lv_istore (lv' := [(6, .int (0:Int32)), (5, .int (0:Int32)), (4, .int (-1:Int32)), (3, .int (s0_g 7)), (0, .ref h0), (1, .int x1), (2, .int x2)]) hx hb dX9_quietest_34 hl (by decide) rfl (fun ls hl => ?_)
    obtain ⟨o22, o23, o24, o25, o26, o27, o28, o29, o30, o31, o32, o33, o34, o35, o36, o37, o38, o39, o40, o41, o42, o43, hq, hok⟩ := g_bnd22 hok
    refine L_36 FUEL (s0_g 7) (-1:Int32) (0:Int32) (0:Int32) s0__all s0__v s0__loss s0__isOver s0__rounds s0__stuck s0__onRounds s0__longest s0__loudest s0_g s0_p s0_to s0_round s0_tail s0_path s0_leastOn s0_period s0_amplitude s0_basin s0_numbered o22 o23 o24 o25 o26 o27 o28 o29 o30 o31 o32 o33 o34 o35 o36 o37 o38 o39 o40 o41 o42 o43 _ _ _ hP hD hS (lv_sub hl [4, 5, 6, 3, 2, 1, 0] rfl) hq (fun H locs ls hP hD hS hl => ?_)
    refine lv_aload_n hx hb dX9_quietest_86 rfl (lv_at hl 0 rfl) ?_
    refine va_get (ci := 9) (v := .ref h0_g) (C := RX9) (T := TX9) (N := 49) hx hb hts hinX9 hown hK hP 0 rfl rfl 0 (by decide) (hts _ (List.mem_of_getElem? (i := 1) rfl)) (fun _ h9 => h9) rfl dX9_quietest_87 ?_
    refine lv_bipush (v := 7) hx hb dX9_quietest_90 (by decide) ?_
    refine lv_iload_n hx hb dX9_quietest_92 rfl (lv_at hl 2 rfl) ?_
    refine x_iast (k := 7) hx hb hK hP hD hS 1 0 rfl rfl (show ¬ ((7:Int32) < 0 ∨ 13 ≤ (7:Int32).toNatClampNeg) by decide) (by decide) dX9_quietest_93 (fun H locs hP hD hS => ?_)
    have hP : va_P G vwCl (wm_X9_findsAll cA h0 h0_g h0_p h0_to h0_round h0_tail h0_path h0_leastOn h0_period h0_amplitude h0_basin h0_numbered h0_kept h0_changed h0_causes h0_rows h0_sorts h0_sizes h0_moved h0_outs h0_losses h0_levelOf h0_levelOften h0_isReached h0_tape h0_told h0_traced s0__isKept s0__done s0__undoable s0__redoable o24 o25 o26 o27 s0__hasCauses s0__outMany s0__overMany s0__isHalted s0__levelMany o28 o29 o30 o31 o32 s0__reached s0__isAnyOver s0__taped s0__at s0__ran (upd o33 7 (s0_g 7)) o34 o35 o36 o37 o38 o39 o40 o41 o42 o43) H := hP
    have hD : va_D A (wm_X9_findsAll cA h0 h0_g h0_p h0_to h0_round h0_tail h0_path h0_leastOn h0_period h0_amplitude h0_basin h0_numbered h0_kept h0_changed h0_causes h0_rows h0_sorts h0_sizes h0_moved h0_outs h0_losses h0_levelOf h0_levelOften h0_isReached h0_tape h0_told h0_traced s0__isKept s0__done s0__undoable s0__redoable o24 o25 o26 o27 s0__hasCauses s0__outMany s0__overMany s0__isHalted s0__levelMany o28 o29 o30 o31 o32 s0__reached s0__isAnyOver s0__taped s0__at s0__ran (upd o33 7 (s0_g 7)) o34 o35 o36 o37 o38 o39 o40 o41 o42 o43) := hD
    refine lv_iload_n hx hb dX9_quietest_94 rfl (lv_at hl 1 rfl) ?_
    refine lv_if_ne (tgt := 103) hx hb dX9_quietest_95 (by decide) (fun c => ?_) (fun c => ?_)
    · replace hok := g_neg hok c
      refine lv_iload hx hb dX9_quietest_103 (lv_at hl 4 rfl) ?_
      obtain ⟨e, hok⟩ := g_pr hok
      try subst e
      obtain ⟨e, hok⟩ := g_pr hok
      try subst e
      obtain ⟨e, hok⟩ := g_pr hok
      try subst e
      obtain ⟨e, hok⟩ := g_pr hok
      try subst e
      obtain ⟨e, hok⟩ := g_pr hok
      try subst e
      obtain ⟨e, hok⟩ := g_pr hok
      try subst e
      obtain ⟨e, hok⟩ := g_pr hok
      try subst e
      obtain ⟨e, hok⟩ := g_pr hok
      try subst e
      obtain ⟨e, hok⟩ := g_pr hok
      try subst e
      obtain ⟨e, hok⟩ := g_pr hok
      try subst e
      obtain ⟨e, hok⟩ := g_pr hok
      try subst e
      obtain ⟨e, hok⟩ := g_pr hok
      try subst e
      obtain ⟨e, hok⟩ := g_pr hok
      try subst e
      obtain ⟨e, hok⟩ := g_pr hok
      try subst e
      obtain ⟨e, hok⟩ := g_pr hok
      try subst e
      obtain ⟨e, hok⟩ := g_pr hok
      try subst e
      obtain ⟨e, hok⟩ := g_pr hok
      try subst e
      obtain ⟨e, hok⟩ := g_pr hok
      try subst e
      obtain ⟨e, hok⟩ := g_pr hok
      try subst e
      obtain ⟨e, hok⟩ := g_pr hok
      try subst e
      cases hok
      exact cr_i hx hb hr hlocks hQ dX9_quietest_105 hP hS
    replace hok := g_pos hok c
    refine lv_iload hx hb dX9_quietest_98 (lv_at hl 3 rfl) ?_
    refine lv_goto (tgt := 105) hx hb dX9_quietest_100 (by decide) ?_
    obtain ⟨e, hok⟩ := g_pr hok
    try subst e
    obtain ⟨e, hok⟩ := g_pr hok
    try subst e
    obtain ⟨e, hok⟩ := g_pr hok
    try subst e
    obtain ⟨e, hok⟩ := g_pr hok
    try subst e
    obtain ⟨e, hok⟩ := g_pr hok
    try subst e
    obtain ⟨e, hok⟩ := g_pr hok
    try subst e
    obtain ⟨e, hok⟩ := g_pr hok
    try subst e
    obtain ⟨e, hok⟩ := g_pr hok
    try subst e
    obtain ⟨e, hok⟩ := g_pr hok
    try subst e
    obtain ⟨e, hok⟩ := g_pr hok
    try subst e
    obtain ⟨e, hok⟩ := g_pr hok
    try subst e
    obtain ⟨e, hok⟩ := g_pr hok
    try subst e
    obtain ⟨e, hok⟩ := g_pr hok
    try subst e
    obtain ⟨e, hok⟩ := g_pr hok
    try subst e
    obtain ⟨e, hok⟩ := g_pr hok
    try subst e
    obtain ⟨e, hok⟩ := g_pr hok
    try subst e
    obtain ⟨e, hok⟩ := g_pr hok
    try subst e
    obtain ⟨e, hok⟩ := g_pr hok
    try subst e
    obtain ⟨e, hok⟩ := g_pr hok
    try subst e
    obtain ⟨e, hok⟩ := g_pr hok
    try subst e
    cases hok
    exact cr_i hx hb hr hlocks hQ dX9_quietest_105 hP hS
  replace hok := g_pos hok c
  refine lv_iconst (v := -1) hx hb dX9_quietest_17 (by decide) ?_
  obtain ⟨e, hok⟩ := g_pr hok
  try subst e
  obtain ⟨e, hok⟩ := g_pr hok
  try subst e
  obtain ⟨e, hok⟩ := g_pr hok
  try subst e
  obtain ⟨e, hok⟩ := g_pr hok
  try subst e
  obtain ⟨e, hok⟩ := g_pr hok
  try subst e
  obtain ⟨e, hok⟩ := g_pr hok
  try subst e
  obtain ⟨e, hok⟩ := g_pr hok
  try subst e
  obtain ⟨e, hok⟩ := g_pr hok
  try subst e
  obtain ⟨e, hok⟩ := g_pr hok
  try subst e
  obtain ⟨e, hok⟩ := g_pr hok
  try subst e
  obtain ⟨e, hok⟩ := g_pr hok
  try subst e
  obtain ⟨e, hok⟩ := g_pr hok
  try subst e
  obtain ⟨e, hok⟩ := g_pr hok
  try subst e
  obtain ⟨e, hok⟩ := g_pr hok
  try subst e
  obtain ⟨e, hok⟩ := g_pr hok
  try subst e
  obtain ⟨e, hok⟩ := g_pr hok
  try subst e
  obtain ⟨e, hok⟩ := g_pr hok
  try subst e
  obtain ⟨e, hok⟩ := g_pr hok
  try subst e
  obtain ⟨e, hok⟩ := g_pr hok
  try subst e
  obtain ⟨e, hok⟩ := g_pr hok
  try subst e
  cases hok
  exact cr_i hx hb hr hlocks hQ dX9_quietest_18 hP hS
set_option maxHeartbeats 40000000 in
set_option maxRecDepth 100000 in
theorem c_X9_tamed (l : Launch) (G : va_G) (cA : Nat → ClassId) (ts : Nat → Nat) (h0 : Nat) (h0_g : Nat) (h0_p : Nat) (h0_to : Nat) (h0_round : Nat) (h0_tail : Nat) (h0_path : Nat) (h0_leastOn : Nat) (h0_period : Nat) (h0_amplitude : Nat) (h0_basin : Nat) (h0_numbered : Nat) (h0_kept : Nat) (h0_changed : Nat) (h0_causes : Nat) (h0_rows : Nat) (h0_sorts : Nat) (h0_sizes : Nat) (h0_moved : Nat) (h0_outs : Nat) (h0_losses : Nat) (h0_levelOf : Nat) (h0_levelOften : Nat) (h0_isReached : Nat) (h0_tape : Nat) (h0_told : Nat) (h0_traced : Nat) (x1 : Int32) (x2 : Int32) (s0__isKept : Int32) (s0__done : Int32) (s0__undoable : Int32) (s0__redoable : Int32) (s0__all : Int32) (s0__v : Int32) (s0__loss : Int32) (s0__isOver : Int32) (s0__hasCauses : Int32) (s0__outMany : Int32) (s0__overMany : Int32) (s0__isHalted : Int32) (s0__levelMany : Int32) (s0__rounds : Int32) (s0__stuck : Int32) (s0__onRounds : Int32) (s0__longest : Int32) (s0__loudest : Int32) (s0__reached : Int32) (s0__isAnyOver : Int32) (s0__taped : Int32) (s0__at : Int32) (s0__ran : Int32) (s0_g : Nat → Int32) (s0_p : Nat → Int32) (s0_to : Nat → Int32) (s0_round : Nat → Int32) (s0_tail : Nat → Int32) (s0_path : Nat → Int32) (s0_leastOn : Nat → Int32) (s0_period : Nat → Int32) (s0_amplitude : Nat → Int32) (s0_basin : Nat → Int32) (s0_numbered : Nat → Int32) (r : Int32) (o0__all : Int32) (o0__v : Int32) (o0__loss : Int32) (o0__isOver : Int32) (o0__rounds : Int32) (o0__stuck : Int32) (o0__onRounds : Int32) (o0__longest : Int32) (o0__loudest : Int32) (o0_g : Nat → Int32) (o0_p : Nat → Int32) (o0_to : Nat → Int32) (o0_round : Nat → Int32) (o0_tail : Nat → Int32) (o0_path : Nat → Int32) (o0_leastOn : Nat → Int32) (o0_period : Nat → Int32) (o0_amplitude : Nat → Int32) (o0_basin : Nat → Int32) (o0_numbered : Nat → Int32) (hok : fX9_tamed x1 x2 s0__all s0__v s0__loss s0__isOver s0__rounds s0__stuck s0__onRounds s0__longest s0__loudest s0_g s0_p s0_to s0_round s0_tail s0_path s0_leastOn s0_period s0_amplitude s0_basin s0_numbered = some (r, o0__all, o0__v, o0__loss, o0__isOver, o0__rounds, o0__stuck, o0__onRounds, o0__longest, o0__loudest, o0_g, o0_p, o0_to, o0_round, o0_tail, o0_path, o0_leastOn, o0_period, o0_amplitude, o0_basin, o0_numbered)) : Ct l G cA ts yX9_tamed wsX9_tamed 7 177 [.ref h0, .int x1, .int x2] (wm_X9_findsAll cA h0 h0_g h0_p h0_to h0_round h0_tail h0_path h0_leastOn h0_period h0_amplitude h0_basin h0_numbered h0_kept h0_changed h0_causes h0_rows h0_sorts h0_sizes h0_moved h0_outs h0_losses h0_levelOf h0_levelOften h0_isReached h0_tape h0_told h0_traced s0__isKept s0__done s0__undoable s0__redoable s0__all s0__v s0__loss s0__isOver s0__hasCauses s0__outMany s0__overMany s0__isHalted s0__levelMany s0__rounds s0__stuck s0__onRounds s0__longest s0__loudest s0__reached s0__isAnyOver s0__taped s0__at s0__ran s0_g s0_p s0_to s0_round s0_tail s0_path s0_leastOn s0_period s0_amplitude s0_basin s0_numbered) (wm_X9_findsAll cA h0 h0_g h0_p h0_to h0_round h0_tail h0_path h0_leastOn h0_period h0_amplitude h0_basin h0_numbered h0_kept h0_changed h0_causes h0_rows h0_sorts h0_sizes h0_moved h0_outs h0_losses h0_levelOf h0_levelOften h0_isReached h0_tape h0_told h0_traced s0__isKept s0__done s0__undoable s0__redoable o0__all o0__v o0__loss o0__isOver s0__hasCauses s0__outMany s0__overMany s0__isHalted s0__levelMany o0__rounds o0__stuck o0__onRounds o0__longest o0__loudest s0__reached s0__isAnyOver s0__taped s0__at s0__ran o0_g o0_p o0_to o0_round o0_tail o0_path o0_leastOn o0_period o0_amplitude o0_basin o0_numbered) (some (.int r)) := by
  refine Ct.intro (cc := cX9_tamed) (maxL := 6) (ret := some .int) (by decide +kernel) rfl (Nat.le_of_ble_eq_true rfl) ?_
  intro p e s m ar below meth c A Q hx hb hr hml hown hlocks hts hK hZ hA hQ hP hD hS ls hl
  have hown : s.vm.findClass RX9 = some m.cls := hown
  have hinX9 : ∀ w ∈ wsX90, w ∈ wsX9_tamed := fun _ h => List.mem_cons_of_mem _ (List.mem_append_right _ (h))
  have hl : lv_has ls 6 [(0, .ref h0), (1, .int x1), (2, .int x2)] := hl
  have hP : va_P G vwCl (wm_X9_findsAll cA h0 h0_g h0_p h0_to h0_round h0_tail h0_path h0_leastOn h0_period h0_amplitude h0_basin h0_numbered h0_kept h0_changed h0_causes h0_rows h0_sorts h0_sizes h0_moved h0_outs h0_losses h0_levelOf h0_levelOften h0_isReached h0_tape h0_told h0_traced s0__isKept s0__done s0__undoable s0__redoable s0__all s0__v s0__loss s0__isOver s0__hasCauses s0__outMany s0__overMany s0__isHalted s0__levelMany s0__rounds s0__stuck s0__onRounds s0__longest s0__loudest s0__reached s0__isAnyOver s0__taped s0__at s0__ran s0_g s0_p s0_to s0_round s0_tail s0_path s0_leastOn s0_period s0_amplitude s0_basin s0_numbered) s.heap := hP
  have hD : va_D A (wm_X9_findsAll cA h0 h0_g h0_p h0_to h0_round h0_tail h0_path h0_leastOn h0_period h0_amplitude h0_basin h0_numbered h0_kept h0_changed h0_causes h0_rows h0_sorts h0_sizes h0_moved h0_outs h0_losses h0_levelOf h0_levelOften h0_isReached h0_tape h0_told h0_traced s0__isKept s0__done s0__undoable s0__redoable s0__all s0__v s0__loss s0__isOver s0__hasCauses s0__outMany s0__overMany s0__isHalted s0__levelMany s0__rounds s0__stuck s0__onRounds s0__longest s0__loudest s0__reached s0__isAnyOver s0__taped s0__at s0__ran s0_g s0_p s0_to s0_round s0_tail s0_path s0_leastOn s0_period s0_amplitude s0_basin s0_numbered) := hD
  have L_39 : ∀ (n : Nat) (y3 : Int32) (y4 : Int32) (y5 : Int32) (c0__all : Int32) (c0__v : Int32) (c0__loss : Int32) (c0__isOver : Int32) (c0__rounds : Int32) (c0__stuck : Int32) (c0__onRounds : Int32) (c0__longest : Int32) (c0__loudest : Int32) (c0_g : Nat → Int32) (c0_p : Nat → Int32) (c0_to : Nat → Int32) (c0_round : Nat → Int32) (c0_tail : Nat → Int32) (c0_path : Nat → Int32) (c0_leastOn : Nat → Int32) (c0_period : Nat → Int32) (c0_amplitude : Nat → Int32) (c0_basin : Nat → Int32) (c0_numbered : Nat → Int32) (p0_0 : Int32) (p0_1 : Int32) (p0_2 : Int32) (p0_3 : Int32) (p0_4 : Int32) (p0_5 : Int32) (p0_6 : Int32) (p0_7 : Int32) (p0_8 : Int32) (p0_9 : Int32) (p0_10 : Nat → Int32) (p0_11 : Nat → Int32) (p0_12 : Nat → Int32) (p0_13 : Nat → Int32) (p0_14 : Nat → Int32) (p0_15 : Nat → Int32) (p0_16 : Nat → Int32) (p0_17 : Nat → Int32) (p0_18 : Nat → Int32) (p0_19 : Nat → Int32) (p0_20 : Nat → Int32) (H : Heap) (locs : List Loc) (ls : Array Slot), va_P G vwCl (wm_X9_findsAll cA h0 h0_g h0_p h0_to h0_round h0_tail h0_path h0_leastOn h0_period h0_amplitude h0_basin h0_numbered h0_kept h0_changed h0_causes h0_rows h0_sorts h0_sizes h0_moved h0_outs h0_losses h0_levelOf h0_levelOften h0_isReached h0_tape h0_told h0_traced s0__isKept s0__done s0__undoable s0__redoable c0__all c0__v c0__loss c0__isOver s0__hasCauses s0__outMany s0__overMany s0__isHalted s0__levelMany c0__rounds c0__stuck c0__onRounds c0__longest c0__loudest s0__reached s0__isAnyOver s0__taped s0__at s0__ran c0_g c0_p c0_to c0_round c0_tail c0_path c0_leastOn c0_period c0_amplitude c0_basin c0_numbered) H → va_D A (wm_X9_findsAll cA h0 h0_g h0_p h0_to h0_round h0_tail h0_path h0_leastOn h0_period h0_amplitude h0_basin h0_numbered h0_kept h0_changed h0_causes h0_rows h0_sorts h0_sizes h0_moved h0_outs h0_losses h0_levelOf h0_levelOften h0_isReached h0_tape h0_told h0_traced s0__isKept s0__done s0__undoable s0__redoable c0__all c0__v c0__loss c0__isOver s0__hasCauses s0__outMany s0__overMany s0__isHalted s0__levelMany c0__rounds c0__stuck c0__onRounds c0__longest c0__loudest s0__reached s0__isAnyOver s0__taped s0__at s0__ran c0_g c0_p c0_to c0_round c0_tail c0_path c0_leastOn c0_period c0_amplitude c0_basin c0_numbered) → va_S A s.heap H locs → lv_has ls 6 [(0, .ref h0), (1, .int x1), (2, .int x2), (3, .int y3), (4, .int y4), (5, .int y5)] → fX9_tamed_L39 x1 x2 n y3 y4 y5 c0__all c0__v c0__loss c0__isOver c0__rounds c0__stuck c0__onRounds c0__longest c0__loudest c0_g c0_p c0_to c0_round c0_tail c0_path c0_leastOn c0_period c0_amplitude c0_basin c0_numbered = some (p0_0, p0_1, p0_2, p0_3, p0_4, p0_5, p0_6, p0_7, p0_8, p0_9, p0_10, p0_11, p0_12, p0_13, p0_14, p0_15, p0_16, p0_17, p0_18, p0_19, p0_20) → (∀ (H : Heap) (locs : List Loc) (ls : Array Slot), va_P G vwCl (wm_X9_findsAll cA h0 h0_g h0_p h0_to h0_round h0_tail h0_path h0_leastOn h0_period h0_amplitude h0_basin h0_numbered h0_kept h0_changed h0_causes h0_rows h0_sorts h0_sizes h0_moved h0_outs h0_losses h0_levelOf h0_levelOften h0_isReached h0_tape h0_told h0_traced s0__isKept s0__done s0__undoable s0__redoable p0_1 p0_2 p0_3 p0_4 s0__hasCauses s0__outMany s0__overMany s0__isHalted s0__levelMany p0_5 p0_6 p0_7 p0_8 p0_9 s0__reached s0__isAnyOver s0__taped s0__at s0__ran p0_10 p0_11 p0_12 p0_13 p0_14 p0_15 p0_16 p0_17 p0_18 p0_19 p0_20) H → va_D A (wm_X9_findsAll cA h0 h0_g h0_p h0_to h0_round h0_tail h0_path h0_leastOn h0_period h0_amplitude h0_basin h0_numbered h0_kept h0_changed h0_causes h0_rows h0_sorts h0_sizes h0_moved h0_outs h0_losses h0_levelOf h0_levelOften h0_isReached h0_tape h0_told h0_traced s0__isKept s0__done s0__undoable s0__redoable p0_1 p0_2 p0_3 p0_4 s0__hasCauses s0__outMany s0__overMany s0__isHalted s0__levelMany p0_5 p0_6 p0_7 p0_8 p0_9 s0__reached s0__isAnyOver s0__taped s0__at s0__ran p0_10 p0_11 p0_12 p0_13 p0_14 p0_15 p0_16 p0_17 p0_18 p0_19 p0_20) → va_S A s.heap H locs → lv_has ls 6 [(0, .ref h0), (3, .int y3), (4, .int p0_0)] → W p l e (rmX 7 177) s m ar below meth c H locs 0 0 Q (F0 m 98 ls [])) → W p l e (rmX 7 177) s m ar below meth c H locs 0 0 Q (F0 m 39 ls []) := by
    intro n
    induction n with
    | zero =>
      intro y3 y4 y5 c0__all c0__v c0__loss c0__isOver c0__rounds c0__stuck c0__onRounds c0__longest c0__loudest c0_g c0_p c0_to c0_round c0_tail c0_path c0_leastOn c0_period c0_amplitude c0_basin c0_numbered p0_0 p0_1 p0_2 p0_3 p0_4 p0_5 p0_6 p0_7 p0_8 p0_9 p0_10 p0_11 p0_12 p0_13 p0_14 p0_15 p0_16 p0_17 p0_18 p0_19 p0_20 H locs ls hP hD hS hl hok
      rw [fX9_tamed_L39] at hok
      cases hok
    | succ n ih =>
      intro y3 y4 y5 c0__all c0__v c0__loss c0__isOver c0__rounds c0__stuck c0__onRounds c0__longest c0__loudest c0_g c0_p c0_to c0_round c0_tail c0_path c0_leastOn c0_period c0_amplitude c0_basin c0_numbered p0_0 p0_1 p0_2 p0_3 p0_4 p0_5 p0_6 p0_7 p0_8 p0_9 p0_10 p0_11 p0_12 p0_13 p0_14 p0_15 p0_16 p0_17 p0_18 p0_19 p0_20 H locs ls hP hD hS hl hok K
      rw [fX9_tamed_L39] at hok
      refine lv_iload hx hb dX9_tamed_39 (lv_at hl 5 rfl) ?_
      refine lv_bipush (v := -99) hx hb dX9_tamed_41 (by decide) ?_
      refine lv_icmp_lt (tgt := 98) hx hb dX9_tamed_43 (by decide) (fun c => ?_) (fun c => ?_)
      · replace hok := g_pos hok c
        cases hok
        exact K _ _ _ hP hD hS (lv_sub hl [0, 3, 4] rfl)
      replace hok := g_neg hok c
      refine lv_iload hx hb dX9_tamed_46 (lv_at hl 4 rfl) ?_
      refine lv_sipush (v := -1002) hx hb dX9_tamed_48 (by decide) ?_
      refine lv_icmp_ne (tgt := 98) hx hb dX9_tamed_51 (by decide) (fun c => ?_) (fun c => ?_)
      · replace hok := g_neg hok c
        cases hok
        exact K _ _ _ hP hD hS (lv_sub hl [0, 3, 4] rfl)
      replace hok := g_pos hok c
      refine lv_aload_n hx hb dX9_tamed_54 rfl (lv_at hl 0 rfl) ?_
      refine va_get (ci := 9) (v := .ref h0_g) (C := RX9) (T := TX9) (N := 49) hx hb hts hinX9 hown hK hP 0 rfl rfl 0 (by decide) (hts _ (List.mem_of_getElem? (i := 2) rfl)) (fun _ h9 => h9) rfl dX9_tamed_55 ?_
      refine lv_iconst (v := 2) hx hb dX9_tamed_58 (by decide) ?_
      refine lv_iload hx hb dX9_tamed_59 (lv_at hl 5 rfl) ?_
      refine x_iast (k := 2) hx hb hK hP hD hS 1 0 rfl rfl (show ¬ ((2:Int32) < 0 ∨ 13 ≤ (2:Int32).toNatClampNeg) by decide) (by decide) dX9_tamed_61 (fun H locs hP hD hS => ?_)
      have hP : va_P G vwCl (wm_X9_findsAll cA h0 h0_g h0_p h0_to h0_round h0_tail h0_path h0_leastOn h0_period h0_amplitude h0_basin h0_numbered h0_kept h0_changed h0_causes h0_rows h0_sorts h0_sizes h0_moved h0_outs h0_losses h0_levelOf h0_levelOften h0_isReached h0_tape h0_told h0_traced s0__isKept s0__done s0__undoable s0__redoable c0__all c0__v c0__loss c0__isOver s0__hasCauses s0__outMany s0__overMany s0__isHalted s0__levelMany c0__rounds c0__stuck c0__onRounds c0__longest c0__loudest s0__reached s0__isAnyOver s0__taped s0__at s0__ran (upd c0_g 2 y5) c0_p c0_to c0_round c0_tail c0_path c0_leastOn c0_period c0_amplitude c0_basin c0_numbered) H := hP
      have hD : va_D A (wm_X9_findsAll cA h0 h0_g h0_p h0_to h0_round h0_tail h0_path h0_leastOn h0_period h0_amplitude h0_basin h0_numbered h0_kept h0_changed h0_causes h0_rows h0_sorts h0_sizes h0_moved h0_outs h0_losses h0_levelOf h0_levelOften h0_isReached h0_tape h0_told h0_traced s0__isKept s0__done s0__undoable s0__redoable c0__all c0__v c0__loss c0__isOver s0__hasCauses s0__outMany s0__overMany s0__isHalted s0__levelMany c0__rounds c0__stuck c0__onRounds c0__longest c0__loudest s0__reached s0__isAnyOver s0__taped s0__at s0__ran (upd c0_g 2 y5) c0_p c0_to c0_round c0_tail c0_path c0_leastOn c0_period c0_amplitude c0_basin c0_numbered) := hD
      refine lv_aload_n hx hb dX9_tamed_62 rfl (lv_at hl 0 rfl) ?_
      refine lv_iload_n hx hb dX9_tamed_63 rfl (lv_at hl 1 rfl) ?_
      obtain ⟨o3, o4, o5, o6, o7, o8, o9, o10, o11, o12, o13, o14, o15, o16, o17, o18, o19, o20, o21, hq, hok⟩ := g_bnd19 hok
      refine cG (is := [0, 1, 2, 3, 4, 5, 6, 7, 8, 9, 10, 11]) (wc := (wm_X9_findsAll cA h0 h0_g h0_p h0_to h0_round h0_tail h0_path h0_leastOn h0_period h0_amplitude h0_basin h0_numbered h0_kept h0_changed h0_causes h0_rows h0_sorts h0_sizes h0_moved h0_outs h0_losses h0_levelOf h0_levelOften h0_isReached h0_tape h0_told h0_traced s0__isKept s0__done s0__undoable s0__redoable c0__all c0__v c0__loss c0__isOver s0__hasCauses s0__outMany s0__overMany s0__isHalted s0__levelMany c0__rounds c0__stuck c0__onRounds c0__longest c0__loudest s0__reached s0__isAnyOver s0__taped s0__at s0__ran (upd c0_g 2 y5) c0_p c0_to c0_round c0_tail c0_path c0_leastOn c0_period c0_amplitude c0_basin c0_numbered)) (w1 := (wm_X9_findsAll cA h0 h0_g h0_p h0_to h0_round h0_tail h0_path h0_leastOn h0_period h0_amplitude h0_basin h0_numbered h0_kept h0_changed h0_causes h0_rows h0_sorts h0_sizes h0_moved h0_outs h0_losses h0_levelOf h0_levelOften h0_isReached h0_tape h0_told h0_traced s0__isKept s0__done s0__undoable s0__redoable o3 o4 o5 o6 s0__hasCauses s0__outMany s0__overMany s0__isHalted s0__levelMany o7 o8 o9 o10 o11 s0__reached s0__isAnyOver s0__taped s0__at s0__ran (upd c0_g 2 y5) o12 o13 o14 o15 o16 o17 o18 o19 o20 o21)) (rv := none) (st1 := []) (va_runV (Ts := wsX9_tamed) (As := [.int x1]) (rest := []) ⟨hx, hb, hml, hown, hts⟩ (c_X9_findsAll l G cA ts h0 h0_g h0_p h0_to h0_round h0_tail h0_path h0_leastOn h0_period h0_amplitude h0_basin h0_numbered h0_kept h0_changed h0_causes h0_rows h0_sorts h0_sizes h0_moved h0_outs h0_losses h0_levelOf h0_levelOften h0_isReached h0_tape h0_told h0_traced x1 s0__isKept s0__done s0__undoable s0__redoable c0__all c0__v c0__loss c0__isOver s0__hasCauses s0__outMany s0__overMany s0__isHalted s0__levelMany c0__rounds c0__stuck c0__onRounds c0__longest c0__loudest s0__reached s0__isAnyOver s0__taped s0__at s0__ran (upd c0_g 2 y5) c0_p c0_to c0_round c0_tail c0_path c0_leastOn c0_period c0_amplitude c0_basin c0_numbered o3 o4 o5 o6 o7 o8 o9 o10 o11 o12 o13 o14 o15 o16 o17 o18 o19 o20 o21 hq H.size) (cwV 1 hts gX9_tamed_X9_findsAll rfl rfl rfl (by decide +kernel) ⟨Nat.le_of_ble_eq_true rfl, Nat.le_of_ble_eq_true rfl⟩) (pre_V (ci := 9) (q0 := 0) (is := [0, 1, 2, 3, 4, 5, 6, 7, 8, 9, 10, 11]) rfl rfl hP hD hS hA hK hZ (by decide +kernel) (by rfl)) rfl rfl hl.1 rfl (by exact lv_room (Nat.le_of_ble_eq_true rfl)) dX9_tamed_64 ⟨Nat.le_refl _, Nat.le_refl _⟩) hP hD hS hA (by decide +kernel) (by rfl) (by rfl) rfl (fun H locs hP hD hS => ?_)
      obtain ⟨hP, hD⟩ : va_P G vwCl (wm_X9_findsAll cA h0 h0_g h0_p h0_to h0_round h0_tail h0_path h0_leastOn h0_period h0_amplitude h0_basin h0_numbered h0_kept h0_changed h0_causes h0_rows h0_sorts h0_sizes h0_moved h0_outs h0_losses h0_levelOf h0_levelOften h0_isReached h0_tape h0_told h0_traced s0__isKept s0__done s0__undoable s0__redoable o3 o4 o5 o6 s0__hasCauses s0__outMany s0__overMany s0__isHalted s0__levelMany o7 o8 o9 o10 o11 s0__reached s0__isAnyOver s0__taped s0__at s0__ran (upd c0_g 2 y5) o12 o13 o14 o15 o16 o17 o18 o19 o20 o21) H ∧ va_D A (wm_X9_findsAll cA h0 h0_g h0_p h0_to h0_round h0_tail h0_path h0_leastOn h0_period h0_amplitude h0_basin h0_numbered h0_kept h0_changed h0_causes h0_rows h0_sorts h0_sizes h0_moved h0_outs h0_losses h0_levelOf h0_levelOften h0_isReached h0_tape h0_told h0_traced s0__isKept s0__done s0__undoable s0__redoable o3 o4 o5 o6 s0__hasCauses s0__outMany s0__overMany s0__isHalted s0__levelMany o7 o8 o9 o10 o11 s0__reached s0__isAnyOver s0__taped s0__at s0__ran (upd c0_g 2 y5) o12 o13 o14 o15 o16 o17 o18 o19 o20 o21) := PD_eq hP hD (rp_eq (js := []) 12 (by decide +kernel) rfl rfl (by rfl) (by rfl) (by decide +kernel))
      refine lv_aload_n hx hb dX9_tamed_67 rfl (lv_at hl 0 rfl) ?_
      refine va_get (ci := 9) (v := .int o8) (C := RX9) (T := TX9) (N := 49) hx hb hts hinX9 hown hK hP 0 rfl rfl 36 (by decide) (hts _ (List.mem_of_getElem? (i := 3) rfl)) (fun _ h9 => h9) rfl dX9_tamed_68 ?_
      refine lv_if_ne (tgt := 87) hx hb dX9_tamed_71 (by decide) (fun c => ?_) (fun c => ?_)
      · replace hok := g_neg hok c
        refine lv_sipush (v := -1002) hx hb dX9_tamed_87 (by decide) ?_
        refine lv_istore (lv' := [(4, .int (-1002:Int32)), (0, .ref h0), (1, .int x1), (2, .int x2), (3, .int y3), (5, .int y5)]) hx hb dX9_tamed_90 hl (by decide) rfl (fun ls hl => ?_)
        refine lv_iinc (v := (y5 + (-1))) (lv' := [(5, .int (y5 + (-1))), (4, .int (-1002:Int32)), (0, .ref h0), (1, .int x1), (2, .int x2), (3, .int y3)]) hx hb dX9_tamed_92 hl (k := 5) rfl rfl (by decide) rfl (fun ls hl => ?_)
        refine lv_goto (tgt := 39) hx hb dX9_tamed_95 (by decide) ?_
        exact ih y3 (-1002:Int32) (y5 + (-1)) o3 o4 o5 o6 o7 o8 o9 o10 o11 (upd c0_g 2 y5) o12 o13 o14 o15 o16 o17 o18 o19 o20 o21 p0_0 p0_1 p0_2 p0_3 p0_4 p0_5 p0_6 p0_7 p0_8 p0_9 p0_10 p0_11 p0_12 p0_13 p0_14 p0_15 p0_16 p0_17 p0_18 p0_19 p0_20 _ _ _ hP hD hS (lv_sub hl [2, 3, 4, 5, 1, 0] rfl) hok K
      replace hok := g_pos hok c
      refine lv_aload_n hx hb dX9_tamed_74 rfl (lv_at hl 0 rfl) ?_
      refine va_get (ci := 9) (v := .int o11) (C := RX9) (T := TX9) (N := 49) hx hb hts hinX9 hown hK hP 0 rfl rfl 39 (by decide) (hts _ (List.mem_of_getElem? (i := 4) rfl)) (fun _ h9 => h9) rfl dX9_tamed_75 ?_
      refine lv_iload_n hx hb dX9_tamed_78 rfl (lv_at hl 2 rfl) ?_
      refine lv_icmp_gt (tgt := 87) hx hb dX9_tamed_79 (by decide) (fun c => ?_) (fun c => ?_)
      · replace hok := g_pos hok c
        refine lv_sipush (v := -1002) hx hb dX9_tamed_87 (by decide) ?_
        refine lv_istore (lv' := [(4, .int (-1002:Int32)), (0, .ref h0), (1, .int x1), (2, .int x2), (3, .int y3), (5, .int y5)]) hx hb dX9_tamed_90 hl (by decide) rfl (fun ls hl => ?_)
        refine lv_iinc (v := (y5 + (-1))) (lv' := [(5, .int (y5 + (-1))), (4, .int (-1002:Int32)), (0, .ref h0), (1, .int x1), (2, .int x2), (3, .int y3)]) hx hb dX9_tamed_92 hl (k := 5) rfl rfl (by decide) rfl (fun ls hl => ?_)
        refine lv_goto (tgt := 39) hx hb dX9_tamed_95 (by decide) ?_
        exact ih y3 (-1002:Int32) (y5 + (-1)) o3 o4 o5 o6 o7 o8 o9 o10 o11 (upd c0_g 2 y5) o12 o13 o14 o15 o16 o17 o18 o19 o20 o21 p0_0 p0_1 p0_2 p0_3 p0_4 p0_5 p0_6 p0_7 p0_8 p0_9 p0_10 p0_11 p0_12 p0_13 p0_14 p0_15 p0_16 p0_17 p0_18 p0_19 p0_20 _ _ _ hP hD hS (lv_sub hl [2, 3, 4, 5, 1, 0] rfl) hok K
      replace hok := g_neg hok c
      refine lv_iload hx hb dX9_tamed_82 (lv_at hl 5 rfl) ?_
      refine lv_goto (tgt := 90) hx hb dX9_tamed_84 (by decide) ?_
      refine lv_istore (lv' := [(4, .int y5), (0, .ref h0), (1, .int x1), (2, .int x2), (3, .int y3), (5, .int y5)]) hx hb dX9_tamed_90 hl (by decide) rfl (fun ls hl => ?_)
      refine lv_iinc (v := (y5 + (-1))) (lv' := [(5, .int (y5 + (-1))), (4, .int y5), (0, .ref h0), (1, .int x1), (2, .int x2), (3, .int y3)]) hx hb dX9_tamed_92 hl (k := 5) rfl rfl (by decide) rfl (fun ls hl => ?_)
      refine lv_goto (tgt := 39) hx hb dX9_tamed_95 (by decide) ?_
      exact ih y3 y5 (y5 + (-1)) o3 o4 o5 o6 o7 o8 o9 o10 o11 (upd c0_g 2 y5) o12 o13 o14 o15 o16 o17 o18 o19 o20 o21 p0_0 p0_1 p0_2 p0_3 p0_4 p0_5 p0_6 p0_7 p0_8 p0_9 p0_10 p0_11 p0_12 p0_13 p0_14 p0_15 p0_16 p0_17 p0_18 p0_19 p0_20 _ _ _ hP hD hS (lv_sub hl [2, 3, 4, 5, 1, 0] rfl) hok K
  unfold fX9_tamed at hok
  refine lv_iload_n hx hb dX9_tamed_0 rfl (lv_at hl 1 rfl) ?_
  obtain ⟨r1, hq, hok⟩ := g_bnd1 hok
  refine cG (is := []) (wc := (wm_X0_find cA)) (w1 := (wm_X0_find cA)) (rv := (some (.int r1))) (st1 := [.int r1]) (va_runS (Ts := wsX9_tamed) (As := [.int x1]) (rest := []) ⟨hx, hb, hml, hown, hts⟩ (c_X9_isInput l G cA ts x1 r1 hq s.heap.size) (va_cwS 1 hts gX9_tamed_X9_isInput rfl rfl rfl (by decide +kernel) ⟨Nat.le_of_ble_eq_true rfl, Nat.le_of_ble_eq_true rfl⟩) (pre_S (is := []) hP hD hS hA hK hZ (by decide +kernel) (by rfl)) rfl rfl hl.1 rfl (by exact lv_room (Nat.le_of_ble_eq_true rfl)) dX9_tamed_1 ⟨Nat.le_refl _, Nat.le_refl _⟩) hP hD hS hA (by decide +kernel) (by rfl) (by rfl) rfl (fun H locs hP hD hS => ?_)
  have hP : va_P G vwCl (wm_X9_findsAll cA h0 h0_g h0_p h0_to h0_round h0_tail h0_path h0_leastOn h0_period h0_amplitude h0_basin h0_numbered h0_kept h0_changed h0_causes h0_rows h0_sorts h0_sizes h0_moved h0_outs h0_losses h0_levelOf h0_levelOften h0_isReached h0_tape h0_told h0_traced s0__isKept s0__done s0__undoable s0__redoable s0__all s0__v s0__loss s0__isOver s0__hasCauses s0__outMany s0__overMany s0__isHalted s0__levelMany s0__rounds s0__stuck s0__onRounds s0__longest s0__loudest s0__reached s0__isAnyOver s0__taped s0__at s0__ran s0_g s0_p s0_to s0_round s0_tail s0_path s0_leastOn s0_period s0_amplitude s0_basin s0_numbered) H := hP
  have hD : va_D A (wm_X9_findsAll cA h0 h0_g h0_p h0_to h0_round h0_tail h0_path h0_leastOn h0_period h0_amplitude h0_basin h0_numbered h0_kept h0_changed h0_causes h0_rows h0_sorts h0_sizes h0_moved h0_outs h0_losses h0_levelOf h0_levelOften h0_isReached h0_tape h0_told h0_traced s0__isKept s0__done s0__undoable s0__redoable s0__all s0__v s0__loss s0__isOver s0__hasCauses s0__outMany s0__overMany s0__isHalted s0__levelMany s0__rounds s0__stuck s0__onRounds s0__longest s0__loudest s0__reached s0__isAnyOver s0__taped s0__at s0__ran s0_g s0_p s0_to s0_round s0_tail s0_path s0_leastOn s0_period s0_amplitude s0_basin s0_numbered) := hD
  refine lv_if_eq (tgt := 19) hx hb dX9_tamed_4 (by decide) (fun c => ?_) (fun c => ?_)
  · replace hok := g_pos hok c
    refine lv_sipush (v := -1001) hx hb dX9_tamed_19 (by decide) ?_
    obtain ⟨e, hok⟩ := g_pr hok
    try subst e
    obtain ⟨e, hok⟩ := g_pr hok
    try subst e
    obtain ⟨e, hok⟩ := g_pr hok
    try subst e
    obtain ⟨e, hok⟩ := g_pr hok
    try subst e
    obtain ⟨e, hok⟩ := g_pr hok
    try subst e
    obtain ⟨e, hok⟩ := g_pr hok
    try subst e
    obtain ⟨e, hok⟩ := g_pr hok
    try subst e
    obtain ⟨e, hok⟩ := g_pr hok
    try subst e
    obtain ⟨e, hok⟩ := g_pr hok
    try subst e
    obtain ⟨e, hok⟩ := g_pr hok
    try subst e
    obtain ⟨e, hok⟩ := g_pr hok
    try subst e
    obtain ⟨e, hok⟩ := g_pr hok
    try subst e
    obtain ⟨e, hok⟩ := g_pr hok
    try subst e
    obtain ⟨e, hok⟩ := g_pr hok
    try subst e
    obtain ⟨e, hok⟩ := g_pr hok
    try subst e
    obtain ⟨e, hok⟩ := g_pr hok
    try subst e
    obtain ⟨e, hok⟩ := g_pr hok
    try subst e
    obtain ⟨e, hok⟩ := g_pr hok
    try subst e
    obtain ⟨e, hok⟩ := g_pr hok
    try subst e
    obtain ⟨e, hok⟩ := g_pr hok
    try subst e
    cases hok
    exact cr_i hx hb hr hlocks hQ dX9_tamed_22 hP hS
  replace hok := g_neg hok c
  refine lv_iload_n hx hb dX9_tamed_7 rfl (lv_at hl 2 rfl) ?_
  refine lv_i2l (v := (x2.toInt64)) hx hb dX9_tamed_8 rfl ?_
  refine lv_lconst (v := 0) hx hb dX9_tamed_9 (by decide) ?_
  refine lv_ldc2 (v := 99) hx hb hown (hts _ (List.mem_of_getElem? (i := 1) rfl)) dX9_tamed_10 ?_
  obtain ⟨r2, hq, hok⟩ := g_bnd1 hok
  refine cG (is := []) (wc := (wm_X0_find cA)) (w1 := (wm_X0_find cA)) (rv := (some (.int r2))) (st1 := [.int r2]) (va_runS (Ts := wsX9_tamed) (As := [.long (x2.toInt64), .long (0:Int64), .long (99:Int64)]) (rest := []) ⟨hx, hb, hml, hown, hts⟩ (c_X9_in l G cA ts (x2.toInt64) (0:Int64) (99:Int64) r2 hq H.size) (va_cwS 3 hts gX9_tamed_X9_in rfl rfl rfl (by decide +kernel) ⟨Nat.le_of_ble_eq_true rfl, Nat.le_of_ble_eq_true rfl⟩) (pre_S (is := []) hP hD hS hA hK hZ (by decide +kernel) (by rfl)) rfl rfl hl.1 rfl (by exact lv_room (Nat.le_of_ble_eq_true rfl)) dX9_tamed_13 ⟨Nat.le_refl _, Nat.le_refl _⟩) hP hD hS hA (by decide +kernel) (by rfl) (by rfl) rfl (fun H locs hP hD hS => ?_)
  have hP : va_P G vwCl (wm_X9_findsAll cA h0 h0_g h0_p h0_to h0_round h0_tail h0_path h0_leastOn h0_period h0_amplitude h0_basin h0_numbered h0_kept h0_changed h0_causes h0_rows h0_sorts h0_sizes h0_moved h0_outs h0_losses h0_levelOf h0_levelOften h0_isReached h0_tape h0_told h0_traced s0__isKept s0__done s0__undoable s0__redoable s0__all s0__v s0__loss s0__isOver s0__hasCauses s0__outMany s0__overMany s0__isHalted s0__levelMany s0__rounds s0__stuck s0__onRounds s0__longest s0__loudest s0__reached s0__isAnyOver s0__taped s0__at s0__ran s0_g s0_p s0_to s0_round s0_tail s0_path s0_leastOn s0_period s0_amplitude s0_basin s0_numbered) H := hP
  have hD : va_D A (wm_X9_findsAll cA h0 h0_g h0_p h0_to h0_round h0_tail h0_path h0_leastOn h0_period h0_amplitude h0_basin h0_numbered h0_kept h0_changed h0_causes h0_rows h0_sorts h0_sizes h0_moved h0_outs h0_losses h0_levelOf h0_levelOften h0_isReached h0_tape h0_told h0_traced s0__isKept s0__done s0__undoable s0__redoable s0__all s0__v s0__loss s0__isOver s0__hasCauses s0__outMany s0__overMany s0__isHalted s0__levelMany s0__rounds s0__stuck s0__onRounds s0__longest s0__loudest s0__reached s0__isAnyOver s0__taped s0__at s0__ran s0_g s0_p s0_to s0_round s0_tail s0_path s0_leastOn s0_period s0_amplitude s0_basin s0_numbered) := hD
  refine lv_if_ne (tgt := 23) hx hb dX9_tamed_16 (by decide) (fun c => ?_) (fun c => ?_)
  · replace hok := g_neg hok c
    refine lv_aload_n hx hb dX9_tamed_23 rfl (lv_at hl 0 rfl) ?_
    refine va_get (ci := 9) (v := .ref h0_g) (C := RX9) (T := TX9) (N := 49) hx hb hts hinX9 hown hK hP 0 rfl rfl 0 (by decide) (hts _ (List.mem_of_getElem? (i := 2) rfl)) (fun _ h9 => h9) rfl dX9_tamed_24 ?_
    refine lv_iconst (v := 2) hx hb dX9_tamed_27 (by decide) ?_
    refine x_iald (k := 2) hx hb hK hP 1 0 rfl rfl (show ¬ ((2:Int32) < 0 ∨ 13 ≤ (2:Int32).toNatClampNeg) by decide) (by decide) dX9_tamed_28 ?_
    refine lv_istore_n (lv' := [(3, .int (s0_g 2)), (0, .ref h0), (1, .int x1), (2, .int x2)]) hx hb dX9_tamed_29 rfl hl (by decide) rfl (fun ls hl => ?_)
    refine lv_sipush (v := -1002) hx hb dX9_tamed_30 (by decide) ?_
    refine lv_istore (lv' := [(4, .int (-1002:Int32)), (3, .int (s0_g 2)), (0, .ref h0), (1, .int x1), (2, .int x2)]) hx hb dX9_tamed_33 hl (by decide) rfl (fun ls hl => ?_)
    refine lv_bipush (v := 99) hx hb dX9_tamed_35 (by decide) ?_
    refine lv_istore (lv' := [(5, .int (99:Int32)), (4, .int (-1002:Int32)), (3, .int (s0_g 2)), (0, .ref h0), (1, .int x1), (2, .int x2)]) hx hb dX9_tamed_37 hl (by decide) rfl (fun ls hl => ?_)
    obtain ⟨o22, o23, o24, o25, o26, o27, o28, o29, o30, o31, o32, o33, o34, o35, o36, o37, o38, o39, o40, o41, o42, hq, hok⟩ := g_bnd21 hok
    refine L_39 FUEL (s0_g 2) (-1002:Int32) (99:Int32) s0__all s0__v s0__loss s0__isOver s0__rounds s0__stuck s0__onRounds s0__longest s0__loudest s0_g s0_p s0_to s0_round s0_tail s0_path s0_leastOn s0_period s0_amplitude s0_basin s0_numbered o22 o23 o24 o25 o26 o27 o28 o29 o30 o31 o32 o33 o34 o35 o36 o37 o38 o39 o40 o41 o42 _ _ _ hP hD hS (lv_sub hl [3, 4, 5, 2, 1, 0] rfl) hq (fun H locs ls hP hD hS hl => ?_)
    refine lv_aload_n hx hb dX9_tamed_98 rfl (lv_at hl 0 rfl) ?_
    refine va_get (ci := 9) (v := .ref h0_g) (C := RX9) (T := TX9) (N := 49) hx hb hts hinX9 hown hK hP 0 rfl rfl 0 (by decide) (hts _ (List.mem_of_getElem? (i := 2) rfl)) (fun _ h9 => h9) rfl dX9_tamed_99 ?_
    refine lv_iconst (v := 2) hx hb dX9_tamed_102 (by decide) ?_
    refine lv_iload_n hx hb dX9_tamed_103 rfl (lv_at hl 1 rfl) ?_
    refine x_iast (k := 2) hx hb hK hP hD hS 1 0 rfl rfl (show ¬ ((2:Int32) < 0 ∨ 13 ≤ (2:Int32).toNatClampNeg) by decide) (by decide) dX9_tamed_104 (fun H locs hP hD hS => ?_)
    have hP : va_P G vwCl (wm_X9_findsAll cA h0 h0_g h0_p h0_to h0_round h0_tail h0_path h0_leastOn h0_period h0_amplitude h0_basin h0_numbered h0_kept h0_changed h0_causes h0_rows h0_sorts h0_sizes h0_moved h0_outs h0_losses h0_levelOf h0_levelOften h0_isReached h0_tape h0_told h0_traced s0__isKept s0__done s0__undoable s0__redoable o23 o24 o25 o26 s0__hasCauses s0__outMany s0__overMany s0__isHalted s0__levelMany o27 o28 o29 o30 o31 s0__reached s0__isAnyOver s0__taped s0__at s0__ran (upd o32 2 (s0_g 2)) o33 o34 o35 o36 o37 o38 o39 o40 o41 o42) H := hP
    have hD : va_D A (wm_X9_findsAll cA h0 h0_g h0_p h0_to h0_round h0_tail h0_path h0_leastOn h0_period h0_amplitude h0_basin h0_numbered h0_kept h0_changed h0_causes h0_rows h0_sorts h0_sizes h0_moved h0_outs h0_losses h0_levelOf h0_levelOften h0_isReached h0_tape h0_told h0_traced s0__isKept s0__done s0__undoable s0__redoable o23 o24 o25 o26 s0__hasCauses s0__outMany s0__overMany s0__isHalted s0__levelMany o27 o28 o29 o30 o31 s0__reached s0__isAnyOver s0__taped s0__at s0__ran (upd o32 2 (s0_g 2)) o33 o34 o35 o36 o37 o38 o39 o40 o41 o42) := hD
    refine lv_iload hx hb dX9_tamed_105 (lv_at hl 2 rfl) ?_
    obtain ⟨e, hok⟩ := g_pr hok
    try subst e
    obtain ⟨e, hok⟩ := g_pr hok
    try subst e
    obtain ⟨e, hok⟩ := g_pr hok
    try subst e
    obtain ⟨e, hok⟩ := g_pr hok
    try subst e
    obtain ⟨e, hok⟩ := g_pr hok
    try subst e
    obtain ⟨e, hok⟩ := g_pr hok
    try subst e
    obtain ⟨e, hok⟩ := g_pr hok
    try subst e
    obtain ⟨e, hok⟩ := g_pr hok
    try subst e
    obtain ⟨e, hok⟩ := g_pr hok
    try subst e
    obtain ⟨e, hok⟩ := g_pr hok
    try subst e
    obtain ⟨e, hok⟩ := g_pr hok
    try subst e
    obtain ⟨e, hok⟩ := g_pr hok
    try subst e
    obtain ⟨e, hok⟩ := g_pr hok
    try subst e
    obtain ⟨e, hok⟩ := g_pr hok
    try subst e
    obtain ⟨e, hok⟩ := g_pr hok
    try subst e
    obtain ⟨e, hok⟩ := g_pr hok
    try subst e
    obtain ⟨e, hok⟩ := g_pr hok
    try subst e
    obtain ⟨e, hok⟩ := g_pr hok
    try subst e
    obtain ⟨e, hok⟩ := g_pr hok
    try subst e
    obtain ⟨e, hok⟩ := g_pr hok
    try subst e
    cases hok
    exact cr_i hx hb hr hlocks hQ dX9_tamed_107 hP hS
  replace hok := g_pos hok c
  refine lv_sipush (v := -1001) hx hb dX9_tamed_19 (by decide) ?_
  obtain ⟨e, hok⟩ := g_pr hok
  try subst e
  obtain ⟨e, hok⟩ := g_pr hok
  try subst e
  obtain ⟨e, hok⟩ := g_pr hok
  try subst e
  obtain ⟨e, hok⟩ := g_pr hok
  try subst e
  obtain ⟨e, hok⟩ := g_pr hok
  try subst e
  obtain ⟨e, hok⟩ := g_pr hok
  try subst e
  obtain ⟨e, hok⟩ := g_pr hok
  try subst e
  obtain ⟨e, hok⟩ := g_pr hok
  try subst e
  obtain ⟨e, hok⟩ := g_pr hok
  try subst e
  obtain ⟨e, hok⟩ := g_pr hok
  try subst e
  obtain ⟨e, hok⟩ := g_pr hok
  try subst e
  obtain ⟨e, hok⟩ := g_pr hok
  try subst e
  obtain ⟨e, hok⟩ := g_pr hok
  try subst e
  obtain ⟨e, hok⟩ := g_pr hok
  try subst e
  obtain ⟨e, hok⟩ := g_pr hok
  try subst e
  obtain ⟨e, hok⟩ := g_pr hok
  try subst e
  obtain ⟨e, hok⟩ := g_pr hok
  try subst e
  obtain ⟨e, hok⟩ := g_pr hok
  try subst e
  obtain ⟨e, hok⟩ := g_pr hok
  try subst e
  obtain ⟨e, hok⟩ := g_pr hok
  try subst e
  cases hok
  exact cr_i hx hb hr hlocks hQ dX9_tamed_22 hP hS
