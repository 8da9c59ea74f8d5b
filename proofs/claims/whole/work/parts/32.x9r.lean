set_option maxHeartbeats 40000000 in
set_option maxRecDepth 100000 in
theorem c_X9_isAct (l : Launch) (G : va_G) (cA : Nat → ClassId) (ts : Nat → Nat) (h0 : Nat) (h0_tape : Nat) (h0_told : Nat) (h0_g : Nat) (h0_kept : Nat) (h0_changed : Nat) (h0_p : Nat) (h0_causes : Nat) (h0_rows : Nat) (h0_sorts : Nat) (h0_sizes : Nat) (h0_moved : Nat) (h0_outs : Nat) (h0_losses : Nat) (h0_levelOf : Nat) (h0_levelOften : Nat) (h0_to : Nat) (h0_round : Nat) (h0_tail : Nat) (h0_path : Nat) (h0_leastOn : Nat) (h0_period : Nat) (h0_amplitude : Nat) (h0_basin : Nat) (h0_numbered : Nat) (h0_isReached : Nat) (h0_traced : Nat) (s0__isKept : Int32) (s0__done : Int32) (s0__undoable : Int32) (s0__redoable : Int32) (s0__all : Int32) (s0__v : Int32) (s0__loss : Int32) (s0__isOver : Int32) (s0__hasCauses : Int32) (s0__outMany : Int32) (s0__overMany : Int32) (s0__isHalted : Int32) (s0__levelMany : Int32) (s0__rounds : Int32) (s0__stuck : Int32) (s0__onRounds : Int32) (s0__longest : Int32) (s0__loudest : Int32) (s0__reached : Int32) (s0__isAnyOver : Int32) (s0__taped : Int32) (s0__at : Int32) (s0__ran : Int32) (s0_tape : Nat → Int32) (s0_told : Nat → Int32) (r : Int32) (o0__at : Int32) (o0_told : Nat → Int32) (hok : fX9_isAct s0__taped s0__at s0_tape s0_told = some (r, o0__at, o0_told)) : Ct l G cA ts yX9_isAct wsX9_isAct 4 107 [.ref h0] (wm_X9_isTold cA h0 h0_tape h0_told h0_g h0_kept h0_changed h0_p h0_causes h0_rows h0_sorts h0_sizes h0_moved h0_outs h0_losses h0_levelOf h0_levelOften h0_to h0_round h0_tail h0_path h0_leastOn h0_period h0_amplitude h0_basin h0_numbered h0_isReached h0_traced s0__isKept s0__done s0__undoable s0__redoable s0__all s0__v s0__loss s0__isOver s0__hasCauses s0__outMany s0__overMany s0__isHalted s0__levelMany s0__rounds s0__stuck s0__onRounds s0__longest s0__loudest s0__reached s0__isAnyOver s0__taped s0__at s0__ran s0_tape s0_told) (wm_X9_isTold cA h0 h0_tape h0_told h0_g h0_kept h0_changed h0_p h0_causes h0_rows h0_sorts h0_sizes h0_moved h0_outs h0_losses h0_levelOf h0_levelOften h0_to h0_round h0_tail h0_path h0_leastOn h0_period h0_amplitude h0_basin h0_numbered h0_isReached h0_traced s0__isKept s0__done s0__undoable s0__redoable s0__all s0__v s0__loss s0__isOver s0__hasCauses s0__outMany s0__overMany s0__isHalted s0__levelMany s0__rounds s0__stuck s0__onRounds s0__longest s0__loudest s0__reached s0__isAnyOver s0__taped o0__at s0__ran s0_tape o0_told) (some (.int r)) := by
  refine Ct.intro (cc := cX9_isAct) (maxL := 2) (ret := some .boolean) (by decide +kernel) rfl (Nat.le_of_ble_eq_true rfl) ?_
  intro p e s m ar below meth c A Q hx hb hr hml hown hlocks hts hK hZ hA hQ hP hD hS ls hl
  have hown : s.vm.findClass RX9 = some m.cls := hown
  have hinX9 : ∀ w ∈ wsX90, w ∈ wsX9_isAct := fun _ h => List.mem_cons_of_mem _ (List.mem_append_right _ (h))
  have hl : lv_has ls 2 [(0, .ref h0)] := hl
  have hP : va_P G vwCl (wm_X9_isTold cA h0 h0_tape h0_told h0_g h0_kept h0_changed h0_p h0_causes h0_rows h0_sorts h0_sizes h0_moved h0_outs h0_losses h0_levelOf h0_levelOften h0_to h0_round h0_tail h0_path h0_leastOn h0_period h0_amplitude h0_basin h0_numbered h0_isReached h0_traced s0__isKept s0__done s0__undoable s0__redoable s0__all s0__v s0__loss s0__isOver s0__hasCauses s0__outMany s0__overMany s0__isHalted s0__levelMany s0__rounds s0__stuck s0__onRounds s0__longest s0__loudest s0__reached s0__isAnyOver s0__taped s0__at s0__ran s0_tape s0_told) s.heap := hP
  have hD : va_D A (wm_X9_isTold cA h0 h0_tape h0_told h0_g h0_kept h0_changed h0_p h0_causes h0_rows h0_sorts h0_sizes h0_moved h0_outs h0_losses h0_levelOf h0_levelOften h0_to h0_round h0_tail h0_path h0_leastOn h0_period h0_amplitude h0_basin h0_numbered h0_isReached h0_traced s0__isKept s0__done s0__undoable s0__redoable s0__all s0__v s0__loss s0__isOver s0__hasCauses s0__outMany s0__overMany s0__isHalted s0__levelMany s0__rounds s0__stuck s0__onRounds s0__longest s0__loudest s0__reached s0__isAnyOver s0__taped s0__at s0__ran s0_tape s0_told) := hD
  unfold fX9_isAct at hok
  refine lv_aload_n hx hb dX9_isAct_0 rfl (lv_at hl 0 rfl) ?_
  obtain ⟨r1, hq, hok⟩ := g_bnd1 hok
  refine cG (is := [0, 1]) (wc := (wm_X9_feed cA h0 h0_tape h0_g h0_kept h0_changed h0_p h0_causes h0_rows h0_sorts h0_sizes h0_moved h0_outs h0_losses h0_levelOf h0_levelOften h0_to h0_round h0_tail h0_path h0_leastOn h0_period h0_amplitude h0_basin h0_numbered h0_isReached h0_told h0_traced s0__isKept s0__done s0__undoable s0__redoable s0__all s0__v s0__loss s0__isOver s0__hasCauses s0__outMany s0__overMany s0__isHalted s0__levelMany s0__rounds s0__stuck s0__onRounds s0__longest s0__loudest s0__reached s0__isAnyOver s0__taped s0__at s0__ran s0_tape)) (w1 := (wm_X9_feed cA h0 h0_tape h0_g h0_kept h0_changed h0_p h0_causes h0_rows h0_sorts h0_sizes h0_moved h0_outs h0_losses h0_levelOf h0_levelOften h0_to h0_round h0_tail h0_path h0_leastOn h0_period h0_amplitude h0_basin h0_numbered h0_isReached h0_told h0_traced s0__isKept s0__done s0__undoable s0__redoable s0__all s0__v s0__loss s0__isOver s0__hasCauses s0__outMany s0__overMany s0__isHalted s0__levelMany s0__rounds s0__stuck s0__onRounds s0__longest s0__loudest s0__reached s0__isAnyOver s0__taped s0__at s0__ran s0_tape)) (rv := (some (.int r1))) (st1 := [.int r1]) (va_runV (Ts := wsX9_isAct) (As := []) (rest := []) ⟨hx, hb, hml, hown, hts⟩ (c_X9_here l G cA ts h0 h0_tape h0_g h0_kept h0_changed h0_p h0_causes h0_rows h0_sorts h0_sizes h0_moved h0_outs h0_losses h0_levelOf h0_levelOften h0_to h0_round h0_tail h0_path h0_leastOn h0_period h0_amplitude h0_basin h0_numbered h0_isReached h0_told h0_traced s0__isKept s0__done s0__undoable s0__redoable s0__all s0__v s0__loss s0__isOver s0__hasCauses s0__outMany s0__overMany s0__isHalted s0__levelMany s0__rounds s0__stuck s0__onRounds s0__longest s0__loudest s0__reached s0__isAnyOver s0__taped s0__at s0__ran s0_tape r1 hq s.heap.size) (cwV 0 hts gX9_isAct_X9_here rfl rfl rfl (by decide +kernel) ⟨Nat.le_of_ble_eq_true rfl, Nat.le_of_ble_eq_true rfl⟩) (pre_V (ci := 9) (q0 := 0) (is := [0, 1]) rfl rfl hP hD hS hA hK hZ (by decide +kernel) (by rfl)) rfl rfl hl.1 rfl (by exact lv_room (Nat.le_of_ble_eq_true rfl)) dX9_isAct_1 ⟨Nat.le_refl _, Nat.le_refl _⟩) hP hD hS hA (by decide +kernel) (by rfl) (by rfl) rfl (fun H locs hP hD hS => ?_)
  have hP : va_P G vwCl (wm_X9_isTold cA h0 h0_tape h0_told h0_g h0_kept h0_changed h0_p h0_causes h0_rows h0_sorts h0_sizes h0_moved h0_outs h0_losses h0_levelOf h0_levelOften h0_to h0_round h0_tail h0_path h0_leastOn h0_period h0_amplitude h0_basin h0_numbered h0_isReached h0_traced s0__isKept s0__done s0__undoable s0__redoable s0__all s0__v s0__loss s0__isOver s0__hasCauses s0__outMany s0__overMany s0__isHalted s0__levelMany s0__rounds s0__stuck s0__onRounds s0__longest s0__loudest s0__reached s0__isAnyOver s0__taped s0__at s0__ran s0_tape s0_told) H := hP
  have hD : va_D A (wm_X9_isTold cA h0 h0_tape h0_told h0_g h0_kept h0_changed h0_p h0_causes h0_rows h0_sorts h0_sizes h0_moved h0_outs h0_losses h0_levelOf h0_levelOften h0_to h0_round h0_tail h0_path h0_leastOn h0_period h0_amplitude h0_basin h0_numbered h0_isReached h0_traced s0__isKept s0__done s0__undoable s0__redoable s0__all s0__v s0__loss s0__isOver s0__hasCauses s0__outMany s0__overMany s0__isHalted s0__levelMany s0__rounds s0__stuck s0__onRounds s0__longest s0__loudest s0__reached s0__isAnyOver s0__taped s0__at s0__ran s0_tape s0_told) := hD
  obtain ⟨r2, hq, hok⟩ := g_bnd1 hok
  refine cG (is := []) (wc := (wm_X0_find cA)) (w1 := (wm_X0_find cA)) (rv := (some (.int r2))) (st1 := [.int r2]) (va_runS (Ts := wsX9_isAct) (As := [.int r1]) (rest := []) ⟨hx, hb, hml, hown, hts⟩ (c_X9_numbersOf l G cA ts r1 r2 hq H.size) (va_cwS 1 hts gX9_isAct_X9_numbersOf rfl rfl rfl (by decide +kernel) ⟨Nat.le_of_ble_eq_true rfl, Nat.le_of_ble_eq_true rfl⟩) (pre_S (is := []) hP hD hS hA hK hZ (by decide +kernel) (by rfl)) rfl rfl hl.1 rfl (by exact lv_room (Nat.le_of_ble_eq_true rfl)) dX9_isAct_4 ⟨Nat.le_refl _, Nat.le_refl _⟩) hP hD hS hA (by decide +kernel) (by rfl) (by rfl) rfl (fun H locs hP hD hS => ?_)
  have hP : va_P G vwCl (wm_X9_isTold cA h0 h0_tape h0_told h0_g h0_kept h0_changed h0_p h0_causes h0_rows h0_sorts h0_sizes h0_moved h0_outs h0_losses h0_levelOf h0_levelOften h0_to h0_round h0_tail h0_path h0_leastOn h0_period h0_amplitude h0_basin h0_numbered h0_isReached h0_traced s0__isKept s0__done s0__undoable s0__redoable s0__all s0__v s0__loss s0__isOver s0__hasCauses s0__outMany s0__overMany s0__isHalted s0__levelMany s0__rounds s0__stuck s0__onRounds s0__longest s0__loudest s0__reached s0__isAnyOver s0__taped s0__at s0__ran s0_tape s0_told) H := hP
  have hD : va_D A (wm_X9_isTold cA h0 h0_tape h0_told h0_g h0_kept h0_changed h0_p h0_causes h0_rows h0_sorts h0_sizes h0_moved h0_outs h0_losses h0_levelOf h0_levelOften h0_to h0_round h0_tail h0_path h0_leastOn h0_period h0_amplitude h0_basin h0_numbered h0_isReached h0_traced s0__isKept s0__done s0__undoable s0__redoable s0__all s0__v s0__loss s0__isOver s0__hasCauses s0__outMany s0__overMany s0__isHalted s0__levelMany s0__rounds s0__stuck s0__onRounds s0__longest s0__loudest s0__reached s0__isAnyOver s0__taped s0__at s0__ran s0_tape s0_told) := hD
  refine lv_istore_n (lv' := [(1, .int r2), (0, .ref h0)]) hx hb dX9_isAct_7 rfl hl (by decide) rfl (fun ls hl => ?_)
  refine lv_iload_n hx hb dX9_isAct_8 rfl (lv_at hl 0 rfl) ?_
  refine lv_if_ne (tgt := 14) hx hb dX9_isAct_9 (by decide) (fun c => ?_) (fun c => ?_)
  · replace hok := g_neg hok c
    refine lv_aload_n hx hb dX9_isAct_14 rfl (lv_at hl 1 rfl) ?_
    refine lv_dup hx hb dX9_isAct_15 rfl ?_
    refine va_get (ci := 9) (v := .int s0__at) (C := RX9) (T := TX9) (N := 49) hx hb hts hinX9 hown hK hP 0 rfl rfl 45 (by decide) (hts _ (List.mem_of_getElem? (i := 1) rfl)) (fun _ h9 => h9) rfl dX9_isAct_16 ?_
    refine lv_iconst (v := 1) hx hb dX9_isAct_19 (by decide) ?_
    refine lv_iadd hx hb dX9_isAct_20 ?_
    refine va_put (D := G) (ci := 9) (v := .int (s0__at + (1:Int32))) (ty := .int) (C := RX9) (T := TX9) (N := 49) hx hb hts hinX9 tyX9 tyX9_ok nmX9 hown hK hP hD hS 0 rfl rfl 45 (by decide) (hts _ (List.mem_of_getElem? (i := 1) rfl)) (fun _ h9 => h9) rfl (by decide +kernel) rfl rfl (Nat.le_of_ble_eq_true rfl) dX9_isAct_21 (fun H locs hP hD hS => ?_)
    have hP : va_P G vwCl (wm_X9_isTold cA h0 h0_tape h0_told h0_g h0_kept h0_changed h0_p h0_causes h0_rows h0_sorts h0_sizes h0_moved h0_outs h0_losses h0_levelOf h0_levelOften h0_to h0_round h0_tail h0_path h0_leastOn h0_period h0_amplitude h0_basin h0_numbered h0_isReached h0_traced s0__isKept s0__done s0__undoable s0__redoable s0__all s0__v s0__loss s0__isOver s0__hasCauses s0__outMany s0__overMany s0__isHalted s0__levelMany s0__rounds s0__stuck s0__onRounds s0__longest s0__loudest s0__reached s0__isAnyOver s0__taped (s0__at + (1:Int32)) s0__ran s0_tape s0_told) H := hP
    have hD : va_D A (wm_X9_isTold cA h0 h0_tape h0_told h0_g h0_kept h0_changed h0_p h0_causes h0_rows h0_sorts h0_sizes h0_moved h0_outs h0_losses h0_levelOf h0_levelOften h0_to h0_round h0_tail h0_path h0_leastOn h0_period h0_amplitude h0_basin h0_numbered h0_isReached h0_traced s0__isKept s0__done s0__undoable s0__redoable s0__all s0__v s0__loss s0__isOver s0__hasCauses s0__outMany s0__overMany s0__isHalted s0__levelMany s0__rounds s0__stuck s0__onRounds s0__longest s0__loudest s0__reached s0__isAnyOver s0__taped (s0__at + (1:Int32)) s0__ran s0_tape s0_told) := hD
    refine lv_aload_n hx hb dX9_isAct_24 rfl (lv_at hl 1 rfl) ?_
    refine lv_iconst (v := 0) hx hb dX9_isAct_25 (by decide) ?_
    obtain ⟨r3, o4, o5, hq, hok⟩ := g_bnd3 hok
    refine cG (is := [0, 1, 2]) (wc := (wm_X9_isTold cA h0 h0_tape h0_told h0_g h0_kept h0_changed h0_p h0_causes h0_rows h0_sorts h0_sizes h0_moved h0_outs h0_losses h0_levelOf h0_levelOften h0_to h0_round h0_tail h0_path h0_leastOn h0_period h0_amplitude h0_basin h0_numbered h0_isReached h0_traced s0__isKept s0__done s0__undoable s0__redoable s0__all s0__v s0__loss s0__isOver s0__hasCauses s0__outMany s0__overMany s0__isHalted s0__levelMany s0__rounds s0__stuck s0__onRounds s0__longest s0__loudest s0__reached s0__isAnyOver s0__taped (s0__at + (1:Int32)) s0__ran s0_tape s0_told)) (w1 := (wm_X9_isTold cA h0 h0_tape h0_told h0_g h0_kept h0_changed h0_p h0_causes h0_rows h0_sorts h0_sizes h0_moved h0_outs h0_losses h0_levelOf h0_levelOften h0_to h0_round h0_tail h0_path h0_leastOn h0_period h0_amplitude h0_basin h0_numbered h0_isReached h0_traced s0__isKept s0__done s0__undoable s0__redoable s0__all s0__v s0__loss s0__isOver s0__hasCauses s0__outMany s0__overMany s0__isHalted s0__levelMany s0__rounds s0__stuck s0__onRounds s0__longest s0__loudest s0__reached s0__isAnyOver s0__taped o4 s0__ran s0_tape o5)) (rv := (some (.int r3))) (st1 := [.int r3]) (va_runV (Ts := wsX9_isAct) (As := [.int (0:Int32)]) (rest := []) ⟨hx, hb, hml, hown, hts⟩ (c_X9_isTold l G cA ts h0 h0_tape h0_told h0_g h0_kept h0_changed h0_p h0_causes h0_rows h0_sorts h0_sizes h0_moved h0_outs h0_losses h0_levelOf h0_levelOften h0_to h0_round h0_tail h0_path h0_leastOn h0_period h0_amplitude h0_basin h0_numbered h0_isReached h0_traced (0:Int32) s0__isKept s0__done s0__undoable s0__redoable s0__all s0__v s0__loss s0__isOver s0__hasCauses s0__outMany s0__overMany s0__isHalted s0__levelMany s0__rounds s0__stuck s0__onRounds s0__longest s0__loudest s0__reached s0__isAnyOver s0__taped (s0__at + (1:Int32)) s0__ran s0_tape s0_told r3 o4 o5 hq H.size) (cwV 1 hts gX9_isAct_X9_isTold rfl rfl rfl (by decide +kernel) ⟨Nat.le_of_ble_eq_true rfl, Nat.le_of_ble_eq_true rfl⟩) (pre_V (ci := 9) (q0 := 0) (is := [0, 1, 2]) rfl rfl hP hD hS hA hK hZ (by decide +kernel) (by rfl)) rfl rfl hl.1 rfl (by exact lv_room (Nat.le_of_ble_eq_true rfl)) dX9_isAct_26 ⟨Nat.le_refl _, Nat.le_refl _⟩) hP hD hS hA (by decide +kernel) (by rfl) (by rfl) rfl (fun H locs hP hD hS => ?_)
    have hP : va_P G vwCl (wm_X9_isTold cA h0 h0_tape h0_told h0_g h0_kept h0_changed h0_p h0_causes h0_rows h0_sorts h0_sizes h0_moved h0_outs h0_losses h0_levelOf h0_levelOften h0_to h0_round h0_tail h0_path h0_leastOn h0_period h0_amplitude h0_basin h0_numbered h0_isReached h0_traced s0__isKept s0__done s0__undoable s0__redoable s0__all s0__v s0__loss s0__isOver s0__hasCauses s0__outMany s0__overMany s0__isHalted s0__levelMany s0__rounds s0__stuck s0__onRounds s0__longest s0__loudest s0__reached s0__isAnyOver s0__taped o4 s0__ran s0_tape o5) H := hP
    have hD : va_D A (wm_X9_isTold cA h0 h0_tape h0_told h0_g h0_kept h0_changed h0_p h0_causes h0_rows h0_sorts h0_sizes h0_moved h0_outs h0_losses h0_levelOf h0_levelOften h0_to h0_round h0_tail h0_path h0_leastOn h0_period h0_amplitude h0_basin h0_numbered h0_isReached h0_traced s0__isKept s0__done s0__undoable s0__redoable s0__all s0__v s0__loss s0__isOver s0__hasCauses s0__outMany s0__overMany s0__isHalted s0__levelMany s0__rounds s0__stuck s0__onRounds s0__longest s0__loudest s0__reached s0__isAnyOver s0__taped o4 s0__ran s0_tape o5) := hD
    refine lv_if_eq (tgt := 58) hx hb dX9_isAct_29 (by decide) (fun c => ?_) (fun c => ?_)
    · replace hok := g_pos hok c
      refine lv_iconst (v := 0) hx hb dX9_isAct_58 (by decide) ?_
      cases hok
      exact cr_z (ty := .boolean) (by decide +kernel) hx hb hr hlocks hQ dX9_isAct_59 hP hS
    replace hok := g_neg hok c
    refine lv_iload_n hx hb dX9_isAct_32 rfl (lv_at hl 0 rfl) ?_
    refine lv_iconst (v := 1) hx hb dX9_isAct_33 (by decide) ?_
    refine lv_icmp_eq (tgt := 54) hx hb dX9_isAct_34 (by decide) (fun c => ?_) (fun c => ?_)
    · replace hok := g_pos hok c
      refine lv_iconst (v := 1) hx hb dX9_isAct_54 (by decide) ?_
      refine lv_goto (tgt := 59) hx hb dX9_isAct_55 (by decide) ?_
      cases hok
      exact cr_z (ty := .boolean) (by decide +kernel) hx hb hr hlocks hQ dX9_isAct_59 hP hS
    replace hok := g_neg hok c
    refine lv_aload_n hx hb dX9_isAct_37 rfl (lv_at hl 1 rfl) ?_
    refine lv_bipush (v := 44) hx hb dX9_isAct_38 (by decide) ?_
    obtain ⟨r6, o7, hq, hok⟩ := g_bnd2 hok
    refine cG (is := [0, 1]) (wc := (wm_X9_feed cA h0 h0_tape h0_g h0_kept h0_changed h0_p h0_causes h0_rows h0_sorts h0_sizes h0_moved h0_outs h0_losses h0_levelOf h0_levelOften h0_to h0_round h0_tail h0_path h0_leastOn h0_period h0_amplitude h0_basin h0_numbered h0_isReached h0_told h0_traced s0__isKept s0__done s0__undoable s0__redoable s0__all s0__v s0__loss s0__isOver s0__hasCauses s0__outMany s0__overMany s0__isHalted s0__levelMany s0__rounds s0__stuck s0__onRounds s0__longest s0__loudest s0__reached s0__isAnyOver s0__taped o4 s0__ran s0_tape)) (w1 := (wm_X9_feed cA h0 h0_tape h0_g h0_kept h0_changed h0_p h0_causes h0_rows h0_sorts h0_sizes h0_moved h0_outs h0_losses h0_levelOf h0_levelOften h0_to h0_round h0_tail h0_path h0_leastOn h0_period h0_amplitude h0_basin h0_numbered h0_isReached h0_told h0_traced s0__isKept s0__done s0__undoable s0__redoable s0__all s0__v s0__loss s0__isOver s0__hasCauses s0__outMany s0__overMany s0__isHalted s0__levelMany s0__rounds s0__stuck s0__onRounds s0__longest s0__loudest s0__reached s0__isAnyOver s0__taped o7 s0__ran s0_tape)) (rv := (some (.int r6))) (st1 := [.int r6]) (va_runV (Ts := wsX9_isAct) (As := [.int (44:Int32)]) (rest := []) ⟨hx, hb, hml, hown, hts⟩ (c_X9_isSign l G cA ts h0 h0_tape h0_g h0_kept h0_changed h0_p h0_causes h0_rows h0_sorts h0_sizes h0_moved h0_outs h0_losses h0_levelOf h0_levelOften h0_to h0_round h0_tail h0_path h0_leastOn h0_period h0_amplitude h0_basin h0_numbered h0_isReached h0_told h0_traced (44:Int32) s0__isKept s0__done s0__undoable s0__redoable s0__all s0__v s0__loss s0__isOver s0__hasCauses s0__outMany s0__overMany s0__isHalted s0__levelMany s0__rounds s0__stuck s0__onRounds s0__longest s0__loudest s0__reached s0__isAnyOver s0__taped o4 s0__ran s0_tape r6 o7 hq H.size) (cwV 1 hts gX9_isAct_X9_isSign rfl rfl rfl (by decide +kernel) ⟨Nat.le_of_ble_eq_true rfl, Nat.le_of_ble_eq_true rfl⟩) (pre_V (ci := 9) (q0 := 0) (is := [0, 1]) rfl rfl hP hD hS hA hK hZ (by decide +kernel) (by rfl)) rfl rfl hl.1 rfl (by exact lv_room (Nat.le_of_ble_eq_true rfl)) dX9_isAct_40 ⟨Nat.le_refl _, Nat.le_refl _⟩) hP hD hS hA (by decide +kernel) (by rfl) (by rfl) rfl (fun H locs hP hD hS => ?_)
    have hP : va_P G vwCl (wm_X9_isTold cA h0 h0_tape h0_told h0_g h0_kept h0_changed h0_p h0_causes h0_rows h0_sorts h0_sizes h0_moved h0_outs h0_losses h0_levelOf h0_levelOften h0_to h0_round h0_tail h0_path h0_leastOn h0_period h0_amplitude h0_basin h0_numbered h0_isReached h0_traced s0__isKept s0__done s0__undoable s0__redoable s0__all s0__v s0__loss s0__isOver s0__hasCauses s0__outMany s0__overMany s0__isHalted s0__levelMany s0__rounds s0__stuck s0__onRounds s0__longest s0__loudest s0__reached s0__isAnyOver s0__taped o7 s0__ran s0_tape o5) H := hP
    have hD : va_D A (wm_X9_isTold cA h0 h0_tape h0_told h0_g h0_kept h0_changed h0_p h0_causes h0_rows h0_sorts h0_sizes h0_moved h0_outs h0_losses h0_levelOf h0_levelOften h0_to h0_round h0_tail h0_path h0_leastOn h0_period h0_amplitude h0_basin h0_numbered h0_isReached h0_traced s0__isKept s0__done s0__undoable s0__redoable s0__all s0__v s0__loss s0__isOver s0__hasCauses s0__outMany s0__overMany s0__isHalted s0__levelMany s0__rounds s0__stuck s0__onRounds s0__longest s0__loudest s0__reached s0__isAnyOver s0__taped o7 s0__ran s0_tape o5) := hD
    refine lv_if_eq (tgt := 58) hx hb dX9_isAct_43 (by decide) (fun c => ?_) (fun c => ?_)
    · replace hok := g_pos hok c
      refine lv_iconst (v := 0) hx hb dX9_isAct_58 (by decide) ?_
      cases hok
      exact cr_z (ty := .boolean) (by decide +kernel) hx hb hr hlocks hQ dX9_isAct_59 hP hS
    replace hok := g_neg hok c
    refine lv_aload_n hx hb dX9_isAct_46 rfl (lv_at hl 1 rfl) ?_
    refine lv_iconst (v := 1) hx hb dX9_isAct_47 (by decide) ?_
    obtain ⟨r8, o9, o10, hq, hok⟩ := g_bnd3 hok
    refine cG (is := [0, 1, 2]) (wc := (wm_X9_isTold cA h0 h0_tape h0_told h0_g h0_kept h0_changed h0_p h0_causes h0_rows h0_sorts h0_sizes h0_moved h0_outs h0_losses h0_levelOf h0_levelOften h0_to h0_round h0_tail h0_path h0_leastOn h0_period h0_amplitude h0_basin h0_numbered h0_isReached h0_traced s0__isKept s0__done s0__undoable s0__redoable s0__all s0__v s0__loss s0__isOver s0__hasCauses s0__outMany s0__overMany s0__isHalted s0__levelMany s0__rounds s0__stuck s0__onRounds s0__longest s0__loudest s0__reached s0__isAnyOver s0__taped o7 s0__ran s0_tape o5)) (w1 := (wm_X9_isTold cA h0 h0_tape h0_told h0_g h0_kept h0_changed h0_p h0_causes h0_rows h0_sorts h0_sizes h0_moved h0_outs h0_losses h0_levelOf h0_levelOften h0_to h0_round h0_tail h0_path h0_leastOn h0_period h0_amplitude h0_basin h0_numbered h0_isReached h0_traced s0__isKept s0__done s0__undoable s0__redoable s0__all s0__v s0__loss s0__isOver s0__hasCauses s0__outMany s0__overMany s0__isHalted s0__levelMany s0__rounds s0__stuck s0__onRounds s0__longest s0__loudest s0__reached s0__isAnyOver s0__taped o9 s0__ran s0_tape o10)) (rv := (some (.int r8))) (st1 := [.int r8]) (va_runV (Ts := wsX9_isAct) (As := [.int (1:Int32)]) (rest := []) ⟨hx, hb, hml, hown, hts⟩ (c_X9_isTold l G cA ts h0 h0_tape h0_told h0_g h0_kept h0_changed h0_p h0_causes h0_rows h0_sorts h0_sizes h0_moved h0_outs h0_losses h0_levelOf h0_levelOften h0_to h0_round h0_tail h0_path h0_leastOn h0_period h0_amplitude h0_basin h0_numbered h0_isReached h0_traced (1:Int32) s0__isKept s0__done s0__undoable s0__redoable s0__all s0__v s0__loss s0__isOver s0__hasCauses s0__outMany s0__overMany s0__isHalted s0__levelMany s0__rounds s0__stuck s0__onRounds s0__longest s0__loudest s0__reached s0__isAnyOver s0__taped o7 s0__ran s0_tape o5 r8 o9 o10 hq H.size) (cwV 1 hts gX9_isAct_X9_isTold rfl rfl rfl (by decide +kernel) ⟨Nat.le_of_ble_eq_true rfl, Nat.le_of_ble_eq_true rfl⟩) (pre_V (ci := 9) (q0 := 0) (is := [0, 1, 2]) rfl rfl hP hD hS hA hK hZ (by decide +kernel) (by rfl)) rfl rfl hl.1 rfl (by exact lv_room (Nat.le_of_ble_eq_true rfl)) dX9_isAct_48 ⟨Nat.le_refl _, Nat.le_refl _⟩) hP hD hS hA (by decide +kernel) (by rfl) (by rfl) rfl (fun H locs hP hD hS => ?_)
    have hP : va_P G vwCl (wm_X9_isTold cA h0 h0_tape h0_told h0_g h0_kept h0_changed h0_p h0_causes h0_rows h0_sorts h0_sizes h0_moved h0_outs h0_losses h0_levelOf h0_levelOften h0_to h0_round h0_tail h0_path h0_leastOn h0_period h0_amplitude h0_basin h0_numbered h0_isReached h0_traced s0__isKept s0__done s0__undoable s0__redoable s0__all s0__v s0__loss s0__isOver s0__hasCauses s0__outMany s0__overMany s0__isHalted s0__levelMany s0__rounds s0__stuck s0__onRounds s0__longest s0__loudest s0__reached s0__isAnyOver s0__taped o9 s0__ran s0_tape o10) H := hP
    have hD : va_D A (wm_X9_isTold cA h0 h0_tape h0_told h0_g h0_kept h0_changed h0_p h0_causes h0_rows h0_sorts h0_sizes h0_moved h0_outs h0_losses h0_levelOf h0_levelOften h0_to h0_round h0_tail h0_path h0_leastOn h0_period h0_amplitude h0_basin h0_numbered h0_isReached h0_traced s0__isKept s0__done s0__undoable s0__redoable s0__all s0__v s0__loss s0__isOver s0__hasCauses s0__outMany s0__overMany s0__isHalted s0__levelMany s0__rounds s0__stuck s0__onRounds s0__longest s0__loudest s0__reached s0__isAnyOver s0__taped o9 s0__ran s0_tape o10) := hD
    refine lv_if_eq (tgt := 58) hx hb dX9_isAct_51 (by decide) (fun c => ?_) (fun c => ?_)
    · replace hok := g_pos hok c
      refine lv_iconst (v := 0) hx hb dX9_isAct_58 (by decide) ?_
      cases hok
      exact cr_z (ty := .boolean) (by decide +kernel) hx hb hr hlocks hQ dX9_isAct_59 hP hS
    replace hok := g_neg hok c
    refine lv_iconst (v := 1) hx hb dX9_isAct_54 (by decide) ?_
    refine lv_goto (tgt := 59) hx hb dX9_isAct_55 (by decide) ?_
    cases hok
    exact cr_z (ty := .boolean) (by decide +kernel) hx hb hr hlocks hQ dX9_isAct_59 hP hS
  replace hok := g_pos hok c
  refine lv_iconst (v := 0) hx hb dX9_isAct_12 (by decide) ?_
  cases hok
  exact cr_z (ty := .boolean) (by decide +kernel) hx hb hr hlocks hQ dX9_isAct_13 hP hS
set_option maxHeartbeats 40000000 in
set_option maxRecDepth 100000 in
theorem c_X9_isText (l : Launch) (G : va_G) (cA : Nat → ClassId) (ts : Nat → Nat) (h0 : Nat) (h0_tape : Nat) (h0_told : Nat) (h0_g : Nat) (h0_kept : Nat) (h0_changed : Nat) (h0_p : Nat) (h0_causes : Nat) (h0_rows : Nat) (h0_sorts : Nat) (h0_sizes : Nat) (h0_moved : Nat) (h0_outs : Nat) (h0_losses : Nat) (h0_levelOf : Nat) (h0_levelOften : Nat) (h0_to : Nat) (h0_round : Nat) (h0_tail : Nat) (h0_path : Nat) (h0_leastOn : Nat) (h0_period : Nat) (h0_amplitude : Nat) (h0_basin : Nat) (h0_numbered : Nat) (h0_isReached : Nat) (h0_traced : Nat) (s0__isKept : Int32) (s0__done : Int32) (s0__undoable : Int32) (s0__redoable : Int32) (s0__all : Int32) (s0__v : Int32) (s0__loss : Int32) (s0__isOver : Int32) (s0__hasCauses : Int32) (s0__outMany : Int32) (s0__overMany : Int32) (s0__isHalted : Int32) (s0__levelMany : Int32) (s0__rounds : Int32) (s0__stuck : Int32) (s0__onRounds : Int32) (s0__longest : Int32) (s0__loudest : Int32) (s0__reached : Int32) (s0__isAnyOver : Int32) (s0__taped : Int32) (s0__at : Int32) (s0__ran : Int32) (s0_tape : Nat → Int32) (s0_told : Nat → Int32) (r : Int32) (o0__at : Int32) (o0_told : Nat → Int32) (hok : fX9_isText s0__taped s0__at s0_tape s0_told = some (r, o0__at, o0_told)) : Ct l G cA ts yX9_isText wsX9_isText 5 128 [.ref h0] (wm_X9_isTold cA h0 h0_tape h0_told h0_g h0_kept h0_changed h0_p h0_causes h0_rows h0_sorts h0_sizes h0_moved h0_outs h0_losses h0_levelOf h0_levelOften h0_to h0_round h0_tail h0_path h0_leastOn h0_period h0_amplitude h0_basin h0_numbered h0_isReached h0_traced s0__isKept s0__done s0__undoable s0__redoable s0__all s0__v s0__loss s0__isOver s0__hasCauses s0__outMany s0__overMany s0__isHalted s0__levelMany s0__rounds s0__stuck s0__onRounds s0__longest s0__loudest s0__reached s0__isAnyOver s0__taped s0__at s0__ran s0_tape s0_told) (wm_X9_isTold cA h0 h0_tape h0_told h0_g h0_kept h0_changed h0_p h0_causes h0_rows h0_sorts h0_sizes h0_moved h0_outs h0_losses h0_levelOf h0_levelOften h0_to h0_round h0_tail h0_path h0_leastOn h0_period h0_amplitude h0_basin h0_numbered h0_isReached h0_traced s0__isKept s0__done s0__undoable s0__redoable s0__all s0__v s0__loss s0__isOver s0__hasCauses s0__outMany s0__overMany s0__isHalted s0__levelMany s0__rounds s0__stuck s0__onRounds s0__longest s0__loudest s0__reached s0__isAnyOver s0__taped o0__at s0__ran s0_tape o0_told) (some (.int r)) := by
  refine Ct.intro (cc := cX9_isText) (maxL := 2) (ret := some .boolean) (by decide +kernel) rfl (Nat.le_of_ble_eq_true rfl) ?_
  intro p e s m ar below meth c A Q hx hb hr hml hown hlocks hts hK hZ hA hQ hP hD hS ls hl
  have hown : s.vm.findClass RX9 = some m.cls := hown
  have hinX9 : ∀ w ∈ wsX90, w ∈ wsX9_isText := fun _ h => List.mem_cons_of_mem _ (List.mem_append_right _ (h))
  have hl : lv_has ls 2 [(0, .ref h0)] := hl
  have hP : va_P G vwCl (wm_X9_isTold cA h0 h0_tape h0_told h0_g h0_kept h0_changed h0_p h0_causes h0_rows h0_sorts h0_sizes h0_moved h0_outs h0_losses h0_levelOf h0_levelOften h0_to h0_round h0_tail h0_path h0_leastOn h0_period h0_amplitude h0_basin h0_numbered h0_isReached h0_traced s0__isKept s0__done s0__undoable s0__redoable s0__all s0__v s0__loss s0__isOver s0__hasCauses s0__outMany s0__overMany s0__isHalted s0__levelMany s0__rounds s0__stuck s0__onRounds s0__longest s0__loudest s0__reached s0__isAnyOver s0__taped s0__at s0__ran s0_tape s0_told) s.heap := hP
  have hD : va_D A (wm_X9_isTold cA h0 h0_tape h0_told h0_g h0_kept h0_changed h0_p h0_causes h0_rows h0_sorts h0_sizes h0_moved h0_outs h0_losses h0_levelOf h0_levelOften h0_to h0_round h0_tail h0_path h0_leastOn h0_period h0_amplitude h0_basin h0_numbered h0_isReached h0_traced s0__isKept s0__done s0__undoable s0__redoable s0__all s0__v s0__loss s0__isOver s0__hasCauses s0__outMany s0__overMany s0__isHalted s0__levelMany s0__rounds s0__stuck s0__onRounds s0__longest s0__loudest s0__reached s0__isAnyOver s0__taped s0__at s0__ran s0_tape s0_told) := hD
  have L_10 : ∀ (n : Nat) (y1 : Int32) (c0__at : Int32) (c0_told : Nat → Int32) (p0_0 : Int32) (p0_1 : Int32) (p0_2 : Nat → Int32) (H : Heap) (locs : List Loc) (ls : Array Slot), va_P G vwCl (wm_X9_isTold cA h0 h0_tape h0_told h0_g h0_kept h0_changed h0_p h0_causes h0_rows h0_sorts h0_sizes h0_moved h0_outs h0_losses h0_levelOf h0_levelOften h0_to h0_round h0_tail h0_path h0_leastOn h0_period h0_amplitude h0_basin h0_numbered h0_isReached h0_traced s0__isKept s0__done s0__undoable s0__redoable s0__all s0__v s0__loss s0__isOver s0__hasCauses s0__outMany s0__overMany s0__isHalted s0__levelMany s0__rounds s0__stuck s0__onRounds s0__longest s0__loudest s0__reached s0__isAnyOver s0__taped c0__at s0__ran s0_tape c0_told) H → va_D A (wm_X9_isTold cA h0 h0_tape h0_told h0_g h0_kept h0_changed h0_p h0_causes h0_rows h0_sorts h0_sizes h0_moved h0_outs h0_losses h0_levelOf h0_levelOften h0_to h0_round h0_tail h0_path h0_leastOn h0_period h0_amplitude h0_basin h0_numbered h0_isReached h0_traced s0__isKept s0__done s0__undoable s0__redoable s0__all s0__v s0__loss s0__isOver s0__hasCauses s0__outMany s0__overMany s0__isHalted s0__levelMany s0__rounds s0__stuck s0__onRounds s0__longest s0__loudest s0__reached s0__isAnyOver s0__taped c0__at s0__ran s0_tape c0_told) → va_S A s.heap H locs → lv_has ls 2 [(0, .ref h0), (1, .int y1)] → fX9_isText_L10 s0__taped s0_tape n y1 c0__at c0_told = some (p0_0, p0_1, p0_2) → (∀ (H : Heap) (locs : List Loc) (ls : Array Slot), va_P G vwCl (wm_X9_isTold cA h0 h0_tape h0_told h0_g h0_kept h0_changed h0_p h0_causes h0_rows h0_sorts h0_sizes h0_moved h0_outs h0_losses h0_levelOf h0_levelOften h0_to h0_round h0_tail h0_path h0_leastOn h0_period h0_amplitude h0_basin h0_numbered h0_isReached h0_traced s0__isKept s0__done s0__undoable s0__redoable s0__all s0__v s0__loss s0__isOver s0__hasCauses s0__outMany s0__overMany s0__isHalted s0__levelMany s0__rounds s0__stuck s0__onRounds s0__longest s0__loudest s0__reached s0__isAnyOver s0__taped p0_1 s0__ran s0_tape p0_2) H → va_D A (wm_X9_isTold cA h0 h0_tape h0_told h0_g h0_kept h0_changed h0_p h0_causes h0_rows h0_sorts h0_sizes h0_moved h0_outs h0_losses h0_levelOf h0_levelOften h0_to h0_round h0_tail h0_path h0_leastOn h0_period h0_amplitude h0_basin h0_numbered h0_isReached h0_traced s0__isKept s0__done s0__undoable s0__redoable s0__all s0__v s0__loss s0__isOver s0__hasCauses s0__outMany s0__overMany s0__isHalted s0__levelMany s0__rounds s0__stuck s0__onRounds s0__longest s0__loudest s0__reached s0__isAnyOver s0__taped p0_1 s0__ran s0_tape p0_2) → va_S A s.heap H locs → lv_has ls 2 [(1, .int p0_0)] → W p l e (rmX 5 128) s m ar below meth c H locs 0 0 Q (F0 m 50 ls [])) → W p l e (rmX 5 128) s m ar below meth c H locs 0 0 Q (F0 m 10 ls []) := by
    intro n
    induction n with
    | zero =>
      intro y1 c0__at c0_told p0_0 p0_1 p0_2 H locs ls hP hD hS hl hok
      rw [fX9_isText_L10] at hok
      cases hok
    | succ n ih =>
      intro y1 c0__at c0_told p0_0 p0_1 p0_2 H locs ls hP hD hS hl hok K
      rw [fX9_isText_L10] at hok
      refine lv_iload_n hx hb dX9_isText_10 rfl (lv_at hl 1 rfl) ?_
      refine lv_if_eq (tgt := 50) hx hb dX9_isText_11 (by decide) (fun c => ?_) (fun c => ?_)
      · replace hok := g_pos hok c
        cases hok
        exact K _ _ _ hP hD hS (lv_sub hl [1] rfl)
      replace hok := g_neg hok c
      refine lv_aload_n hx hb dX9_isText_14 rfl (lv_at hl 0 rfl) ?_
      refine va_get (ci := 9) (v := .int c0__at) (C := RX9) (T := TX9) (N := 49) hx hb hts hinX9 hown hK hP 0 rfl rfl 45 (by decide) (hts _ (List.mem_of_getElem? (i := 1) rfl)) (fun _ h9 => h9) rfl dX9_isText_15 ?_
      refine lv_aload_n hx hb dX9_isText_18 rfl (lv_at hl 0 rfl) ?_
      refine va_get (ci := 9) (v := .int s0__taped) (C := RX9) (T := TX9) (N := 49) hx hb hts hinX9 hown hK hP 0 rfl rfl 44 (by decide) (hts _ (List.mem_of_getElem? (i := 2) rfl)) (fun _ h9 => h9) rfl dX9_isText_19 ?_
      refine lv_icmp_ge (tgt := 50) hx hb dX9_isText_22 (by decide) (fun c => ?_) (fun c => ?_)
      · replace hok := g_pos hok c
        cases hok
        exact K _ _ _ hP hD hS (lv_sub hl [1] rfl)
      replace hok := g_neg hok c
      refine lv_aload_n hx hb dX9_isText_25 rfl (lv_at hl 0 rfl) ?_
      refine lv_bipush (v := 59) hx hb dX9_isText_26 (by decide) ?_
      obtain ⟨r4, o5, hq, hok⟩ := g_bnd2 hok
      refine cG (is := [0, 1]) (wc := (wm_X9_feed cA h0 h0_tape h0_g h0_kept h0_changed h0_p h0_causes h0_rows h0_sorts h0_sizes h0_moved h0_outs h0_losses h0_levelOf h0_levelOften h0_to h0_round h0_tail h0_path h0_leastOn h0_period h0_amplitude h0_basin h0_numbered h0_isReached h0_told h0_traced s0__isKept s0__done s0__undoable s0__redoable s0__all s0__v s0__loss s0__isOver s0__hasCauses s0__outMany s0__overMany s0__isHalted s0__levelMany s0__rounds s0__stuck s0__onRounds s0__longest s0__loudest s0__reached s0__isAnyOver s0__taped c0__at s0__ran s0_tape)) (w1 := (wm_X9_feed cA h0 h0_tape h0_g h0_kept h0_changed h0_p h0_causes h0_rows h0_sorts h0_sizes h0_moved h0_outs h0_losses h0_levelOf h0_levelOften h0_to h0_round h0_tail h0_path h0_leastOn h0_period h0_amplitude h0_basin h0_numbered h0_isReached h0_told h0_traced s0__isKept s0__done s0__undoable s0__redoable s0__all s0__v s0__loss s0__isOver s0__hasCauses s0__outMany s0__overMany s0__isHalted s0__levelMany s0__rounds s0__stuck s0__onRounds s0__longest s0__loudest s0__reached s0__isAnyOver s0__taped o5 s0__ran s0_tape)) (rv := (some (.int r4))) (st1 := [.int r4]) (va_runV (Ts := wsX9_isText) (As := [.int (59:Int32)]) (rest := []) ⟨hx, hb, hml, hown, hts⟩ (c_X9_isSign l G cA ts h0 h0_tape h0_g h0_kept h0_changed h0_p h0_causes h0_rows h0_sorts h0_sizes h0_moved h0_outs h0_losses h0_levelOf h0_levelOften h0_to h0_round h0_tail h0_path h0_leastOn h0_period h0_amplitude h0_basin h0_numbered h0_isReached h0_told h0_traced (59:Int32) s0__isKept s0__done s0__undoable s0__redoable s0__all s0__v s0__loss s0__isOver s0__hasCauses s0__outMany s0__overMany s0__isHalted s0__levelMany s0__rounds s0__stuck s0__onRounds s0__longest s0__loudest s0__reached s0__isAnyOver s0__taped c0__at s0__ran s0_tape r4 o5 hq H.size) (cwV 1 hts gX9_isText_X9_isSign rfl rfl rfl (by decide +kernel) ⟨Nat.le_of_ble_eq_true rfl, Nat.le_of_ble_eq_true rfl⟩) (pre_V (ci := 9) (q0 := 0) (is := [0, 1]) rfl rfl hP hD hS hA hK hZ (by decide +kernel) (by rfl)) rfl rfl hl.1 rfl (by exact lv_room (Nat.le_of_ble_eq_true rfl)) dX9_isText_28 ⟨Nat.le_refl _, Nat.le_refl _⟩) hP hD hS hA (by decide +kernel) (by rfl) (by rfl) rfl (fun H locs hP hD hS => ?_)
      have hP : va_P G vwCl (wm_X9_isTold cA h0 h0_tape h0_told h0_g h0_kept h0_changed h0_p h0_causes h0_rows h0_sorts h0_sizes h0_moved h0_outs h0_losses h0_levelOf h0_levelOften h0_to h0_round h0_tail h0_path h0_leastOn h0_period h0_amplitude h0_basin h0_numbered h0_isReached h0_traced s0__isKept s0__done s0__undoable s0__redoable s0__all s0__v s0__loss s0__isOver s0__hasCauses s0__outMany s0__overMany s0__isHalted s0__levelMany s0__rounds s0__stuck s0__onRounds s0__longest s0__loudest s0__reached s0__isAnyOver s0__taped o5 s0__ran s0_tape c0_told) H := hP
      have hD : va_D A (wm_X9_isTold cA h0 h0_tape h0_told h0_g h0_kept h0_changed h0_p h0_causes h0_rows h0_sorts h0_sizes h0_moved h0_outs h0_losses h0_levelOf h0_levelOften h0_to h0_round h0_tail h0_path h0_leastOn h0_period h0_amplitude h0_basin h0_numbered h0_isReached h0_traced s0__isKept s0__done s0__undoable s0__redoable s0__all s0__v s0__loss s0__isOver s0__hasCauses s0__outMany s0__overMany s0__isHalted s0__levelMany s0__rounds s0__stuck s0__onRounds s0__longest s0__loudest s0__reached s0__isAnyOver s0__taped o5 s0__ran s0_tape c0_told) := hD
      refine lv_if_eq (tgt := 45) hx hb dX9_isText_31 (by decide) (fun c => ?_) (fun c => ?_)
      · replace hok := g_pos hok c
        refine lv_iconst (v := 0) hx hb dX9_isText_45 (by decide) ?_
        refine lv_istore_n (lv' := [(1, .int (0:Int32)), (0, .ref h0)]) hx hb dX9_isText_46 rfl hl (by decide) rfl (fun ls hl => ?_)
        refine lv_goto (tgt := 10) hx hb dX9_isText_47 (by decide) ?_
        exact ih (0:Int32) o5 c0_told p0_0 p0_1 p0_2 _ _ _ hP hD hS (lv_sub hl [1, 0] rfl) hok K
      replace hok := g_neg hok c
      refine lv_aload_n hx hb dX9_isText_34 rfl (lv_at hl 0 rfl) ?_
      obtain ⟨r6, o7, o8, hq, hok⟩ := g_bnd3 hok
      refine cG (is := [0, 1, 2]) (wc := (wm_X9_isTold cA h0 h0_tape h0_told h0_g h0_kept h0_changed h0_p h0_causes h0_rows h0_sorts h0_sizes h0_moved h0_outs h0_losses h0_levelOf h0_levelOften h0_to h0_round h0_tail h0_path h0_leastOn h0_period h0_amplitude h0_basin h0_numbered h0_isReached h0_traced s0__isKept s0__done s0__undoable s0__redoable s0__all s0__v s0__loss s0__isOver s0__hasCauses s0__outMany s0__overMany s0__isHalted s0__levelMany s0__rounds s0__stuck s0__onRounds s0__longest s0__loudest s0__reached s0__isAnyOver s0__taped o5 s0__ran s0_tape c0_told)) (w1 := (wm_X9_isTold cA h0 h0_tape h0_told h0_g h0_kept h0_changed h0_p h0_causes h0_rows h0_sorts h0_sizes h0_moved h0_outs h0_losses h0_levelOf h0_levelOften h0_to h0_round h0_tail h0_path h0_leastOn h0_period h0_amplitude h0_basin h0_numbered h0_isReached h0_traced s0__isKept s0__done s0__undoable s0__redoable s0__all s0__v s0__loss s0__isOver s0__hasCauses s0__outMany s0__overMany s0__isHalted s0__levelMany s0__rounds s0__stuck s0__onRounds s0__longest s0__loudest s0__reached s0__isAnyOver s0__taped o7 s0__ran s0_tape o8)) (rv := (some (.int r6))) (st1 := [.int r6]) (va_runV (Ts := wsX9_isText) (As := []) (rest := []) ⟨hx, hb, hml, hown, hts⟩ (c_X9_isAct l G cA ts h0 h0_tape h0_told h0_g h0_kept h0_changed h0_p h0_causes h0_rows h0_sorts h0_sizes h0_moved h0_outs h0_losses h0_levelOf h0_levelOften h0_to h0_round h0_tail h0_path h0_leastOn h0_period h0_amplitude h0_basin h0_numbered h0_isReached h0_traced s0__isKept s0__done s0__undoable s0__redoable s0__all s0__v s0__loss s0__isOver s0__hasCauses s0__outMany s0__overMany s0__isHalted s0__levelMany s0__rounds s0__stuck s0__onRounds s0__longest s0__loudest s0__reached s0__isAnyOver s0__taped o5 s0__ran s0_tape c0_told r6 o7 o8 hq H.size) (cwV 0 hts gX9_isText_X9_isAct rfl rfl rfl (by decide +kernel) ⟨Nat.le_of_ble_eq_true rfl, Nat.le_of_ble_eq_true rfl⟩) (pre_V (ci := 9) (q0 := 0) (is := [0, 1, 2]) rfl rfl hP hD hS hA hK hZ (by decide +kernel) (by rfl)) rfl rfl hl.1 rfl (by exact lv_room (Nat.le_of_ble_eq_true rfl)) dX9_isText_35 ⟨Nat.le_refl _, Nat.le_refl _⟩) hP hD hS hA (by decide +kernel) (by rfl) (by rfl) rfl (fun H locs hP hD hS => ?_)
      have hP : va_P G vwCl (wm_X9_isTold cA h0 h0_tape h0_told h0_g h0_kept h0_changed h0_p h0_causes h0_rows h0_sorts h0_sizes h0_moved h0_outs h0_losses h0_levelOf h0_levelOften h0_to h0_round h0_tail h0_path h0_leastOn h0_period h0_amplitude h0_basin h0_numbered h0_isReached h0_traced s0__isKept s0__done s0__undoable s0__redoable s0__all s0__v s0__loss s0__isOver s0__hasCauses s0__outMany s0__overMany s0__isHalted s0__levelMany s0__rounds s0__stuck s0__onRounds s0__longest s0__loudest s0__reached s0__isAnyOver s0__taped o7 s0__ran s0_tape o8) H := hP
      have hD : va_D A (wm_X9_isTold cA h0 h0_tape h0_told h0_g h0_kept h0_changed h0_p h0_causes h0_rows h0_sorts h0_sizes h0_moved h0_outs h0_losses h0_levelOf h0_levelOften h0_to h0_round h0_tail h0_path h0_leastOn h0_period h0_amplitude h0_basin h0_numbered h0_isReached h0_traced s0__isKept s0__done s0__undoable s0__redoable s0__all s0__v s0__loss s0__isOver s0__hasCauses s0__outMany s0__overMany s0__isHalted s0__levelMany s0__rounds s0__stuck s0__onRounds s0__longest s0__loudest s0__reached s0__isAnyOver s0__taped o7 s0__ran s0_tape o8) := hD
      refine lv_if_eq (tgt := 45) hx hb dX9_isText_38 (by decide) (fun c => ?_) (fun c => ?_)
      · replace hok := g_pos hok c
        refine lv_iconst (v := 0) hx hb dX9_isText_45 (by decide) ?_
        refine lv_istore_n (lv' := [(1, .int (0:Int32)), (0, .ref h0)]) hx hb dX9_isText_46 rfl hl (by decide) rfl (fun ls hl => ?_)
        refine lv_goto (tgt := 10) hx hb dX9_isText_47 (by decide) ?_
        exact ih (0:Int32) o7 o8 p0_0 p0_1 p0_2 _ _ _ hP hD hS (lv_sub hl [1, 0] rfl) hok K
      replace hok := g_neg hok c
      refine lv_iconst (v := 1) hx hb dX9_isText_41 (by decide) ?_
      refine lv_goto (tgt := 46) hx hb dX9_isText_42 (by decide) ?_
      refine lv_istore_n (lv' := [(1, .int (1:Int32)), (0, .ref h0)]) hx hb dX9_isText_46 rfl hl (by decide) rfl (fun ls hl => ?_)
      refine lv_goto (tgt := 10) hx hb dX9_isText_47 (by decide) ?_
      exact ih (1:Int32) o7 o8 p0_0 p0_1 p0_2 _ _ _ hP hD hS (lv_sub hl [1, 0] rfl) hok K
  unfold fX9_isText at hok
  refine lv_aload_n hx hb dX9_isText_0 rfl (lv_at hl 0 rfl) ?_
  refine lv_iconst (v := 0) hx hb dX9_isText_1 (by decide) ?_
  refine va_put (D := G) (ci := 9) (v := .int (0:Int32)) (ty := .int) (C := RX9) (T := TX9) (N := 49) hx hb hts hinX9 tyX9 tyX9_ok nmX9 hown hK hP hD hS 0 rfl rfl 45 (by decide) (hts _ (List.mem_of_getElem? (i := 1) rfl)) (fun _ h9 => h9) rfl (by decide +kernel) rfl rfl (Nat.le_of_ble_eq_true rfl) dX9_isText_2 (fun H locs hP hD hS => ?_)
  have hP : va_P G vwCl (wm_X9_isTold cA h0 h0_tape h0_told h0_g h0_kept h0_changed h0_p h0_causes h0_rows h0_sorts h0_sizes h0_moved h0_outs h0_losses h0_levelOf h0_levelOften h0_to h0_round h0_tail h0_path h0_leastOn h0_period h0_amplitude h0_basin h0_numbered h0_isReached h0_traced s0__isKept s0__done s0__undoable s0__redoable s0__all s0__v s0__loss s0__isOver s0__hasCauses s0__outMany s0__overMany s0__isHalted s0__levelMany s0__rounds s0__stuck s0__onRounds s0__longest s0__loudest s0__reached s0__isAnyOver s0__taped (0:Int32) s0__ran s0_tape s0_told) H := hP
  have hD : va_D A (wm_X9_isTold cA h0 h0_tape h0_told h0_g h0_kept h0_changed h0_p h0_causes h0_rows h0_sorts h0_sizes h0_moved h0_outs h0_losses h0_levelOf h0_levelOften h0_to h0_round h0_tail h0_path h0_leastOn h0_period h0_amplitude h0_basin h0_numbered h0_isReached h0_traced s0__isKept s0__done s0__undoable s0__redoable s0__all s0__v s0__loss s0__isOver s0__hasCauses s0__outMany s0__overMany s0__isHalted s0__levelMany s0__rounds s0__stuck s0__onRounds s0__longest s0__loudest s0__reached s0__isAnyOver s0__taped (0:Int32) s0__ran s0_tape s0_told) := hD
  refine lv_aload_n hx hb dX9_isText_5 rfl (lv_at hl 0 rfl) ?_
  obtain ⟨r1, o2, o3, hq, hok⟩ := g_bnd3 hok
  refine cG (is := [0, 1, 2]) (wc := (wm_X9_isTold cA h0 h0_tape h0_told h0_g h0_kept h0_changed h0_p h0_causes h0_rows h0_sorts h0_sizes h0_moved h0_outs h0_losses h0_levelOf h0_levelOften h0_to h0_round h0_tail h0_path h0_leastOn h0_period h0_amplitude h0_basin h0_numbered h0_isReached h0_traced s0__isKept s0__done s0__undoable s0__redoable s0__all s0__v s0__loss s0__isOver s0__hasCauses s0__outMany s0__overMany s0__isHalted s0__levelMany s0__rounds s0__stuck s0__onRounds s0__longest s0__loudest s0__reached s0__isAnyOver s0__taped (0:Int32) s0__ran s0_tape s0_told)) (w1 := (wm_X9_isTold cA h0 h0_tape h0_told h0_g h0_kept h0_changed h0_p h0_causes h0_rows h0_sorts h0_sizes h0_moved h0_outs h0_losses h0_levelOf h0_levelOften h0_to h0_round h0_tail h0_path h0_leastOn h0_period h0_amplitude h0_basin h0_numbered h0_isReached h0_traced s0__isKept s0__done s0__undoable s0__redoable s0__all s0__v s0__loss s0__isOver s0__hasCauses s0__outMany s0__overMany s0__isHalted s0__levelMany s0__rounds s0__stuck s0__onRounds s0__longest s0__loudest s0__reached s0__isAnyOver s0__taped o2 s0__ran s0_tape o3)) (rv := (some (.int r1))) (st1 := [.int r1]) (va_runV (Ts := wsX9_isText) (As := []) (rest := []) ⟨hx, hb, hml, hown, hts⟩ (c_X9_isAct l G cA ts h0 h0_tape h0_told h0_g h0_kept h0_changed h0_p h0_causes h0_rows h0_sorts h0_sizes h0_moved h0_outs h0_losses h0_levelOf h0_levelOften h0_to h0_round h0_tail h0_path h0_leastOn h0_period h0_amplitude h0_basin h0_numbered h0_isReached h0_traced s0__isKept s0__done s0__undoable s0__redoable s0__all s0__v s0__loss s0__isOver s0__hasCauses s0__outMany s0__overMany s0__isHalted s0__levelMany s0__rounds s0__stuck s0__onRounds s0__longest s0__loudest s0__reached s0__isAnyOver s0__taped (0:Int32) s0__ran s0_tape s0_told r1 o2 o3 hq H.size) (cwV 0 hts gX9_isText_X9_isAct rfl rfl rfl (by decide +kernel) ⟨Nat.le_of_ble_eq_true rfl, Nat.le_of_ble_eq_true rfl⟩) (pre_V (ci := 9) (q0 := 0) (is := [0, 1, 2]) rfl rfl hP hD hS hA hK hZ (by decide +kernel) (by rfl)) rfl rfl hl.1 rfl (by exact lv_room (Nat.le_of_ble_eq_true rfl)) dX9_isText_6 ⟨Nat.le_refl _, Nat.le_refl _⟩) hP hD hS hA (by decide +kernel) (by rfl) (by rfl) rfl (fun H locs hP hD hS => ?_)
  have hP : va_P G vwCl (wm_X9_isTold cA h0 h0_tape h0_told h0_g h0_kept h0_changed h0_p h0_causes h0_rows h0_sorts h0_sizes h0_moved h0_outs h0_losses h0_levelOf h0_levelOften h0_to h0_round h0_tail h0_path h0_leastOn h0_period h0_amplitude h0_basin h0_numbered h0_isReached h0_traced s0__isKept s0__done s0__undoable s0__redoable s0__all s0__v s0__loss s0__isOver s0__hasCauses s0__outMany s0__overMany s0__isHalted s0__levelMany s0__rounds s0__stuck s0__onRounds s0__longest s0__loudest s0__reached s0__isAnyOver s0__taped o2 s0__ran s0_tape o3) H := hP
  have hD : va_D A (wm_X9_isTold cA h0 h0_tape h0_told h0_g h0_kept h0_changed h0_p h0_causes h0_rows h0_sorts h0_sizes h0_moved h0_outs h0_losses h0_levelOf h0_levelOften h0_to h0_round h0_tail h0_path h0_leastOn h0_period h0_amplitude h0_basin h0_numbered h0_isReached h0_traced s0__isKept s0__done s0__undoable s0__redoable s0__all s0__v s0__loss s0__isOver s0__hasCauses s0__outMany s0__overMany s0__isHalted s0__levelMany s0__rounds s0__stuck s0__onRounds s0__longest s0__loudest s0__reached s0__isAnyOver s0__taped o2 s0__ran s0_tape o3) := hD
  refine lv_istore_n (lv' := [(1, .int r1), (0, .ref h0)]) hx hb dX9_isText_9 rfl hl (by decide) rfl (fun ls hl => ?_)
  obtain ⟨o9, o10, o11, hq, hok⟩ := g_bnd3 hok
  refine L_10 FUEL r1 o2 o3 o9 o10 o11 _ _ _ hP hD hS (lv_sub hl [1, 0] rfl) hq (fun H locs ls hP hD hS hl => ?_)
  refine lv_iload_n hx hb dX9_isText_50 rfl (lv_at hl 0 rfl) ?_
  obtain ⟨hin, hok⟩ := g_no hok
  cases hok
  exact cr_z (ty := .boolean) (nar_z hin) hx hb hr hlocks hQ dX9_isText_51 hP hS
set_option maxHeartbeats 40000000 in
set_option maxRecDepth 100000 in
theorem c_X9_does (l : Launch) (G : va_G) (cA : Nat → ClassId) (ts : Nat → Nat) (h0 : Nat) (h0_g : Nat) (h0_changed : Nat) (h0_changed_e : Nat → Nat) (h0_p : Nat) (h0_causes : Nat) (h0_told : Nat) (h0_kept : Nat) (h0_rows : Nat) (h0_sorts : Nat) (h0_sizes : Nat) (h0_moved : Nat) (h0_outs : Nat) (h0_losses : Nat) (h0_levelOf : Nat) (h0_levelOften : Nat) (h0_to : Nat) (h0_round : Nat) (h0_tail : Nat) (h0_path : Nat) (h0_leastOn : Nat) (h0_period : Nat) (h0_amplitude : Nat) (h0_basin : Nat) (h0_numbered : Nat) (h0_isReached : Nat) (h0_tape : Nat) (h0_traced : Nat) (x1 : Int32) (s0__isKept : Int32) (s0__done : Int32) (s0__undoable : Int32) (s0__redoable : Int32) (s0__all : Int32) (s0__v : Int32) (s0__loss : Int32) (s0__isOver : Int32) (s0__hasCauses : Int32) (s0__outMany : Int32) (s0__overMany : Int32) (s0__isHalted : Int32) (s0__levelMany : Int32) (s0__rounds : Int32) (s0__stuck : Int32) (s0__onRounds : Int32) (s0__longest : Int32) (s0__loudest : Int32) (s0__reached : Int32) (s0__isAnyOver : Int32) (s0__taped : Int32) (s0__at : Int32) (s0__ran : Int32) (s0_g : Nat → Int32) (s0_changed_e : Nat → Nat → Int32) (s0_p : Nat → Int32) (s0_causes : Nat → Int32) (s0_told : Nat → Int32) (r : Int32) (o0__done : Int32) (o0__undoable : Int32) (o0__redoable : Int32) (o0__all : Int32) (o0__v : Int32) (o0__loss : Int32) (o0__isOver : Int32) (o0__hasCauses : Int32) (o0_g : Nat → Int32) (o0_changed_e : Nat → Nat → Int32) (o0_p : Nat → Int32) (o0_causes : Nat → Int32) (hok : fX9_does x1 s0__done s0__undoable s0__redoable s0__all s0__v s0__loss s0__isOver s0__hasCauses s0_g s0_changed_e s0_p s0_causes s0_told = some (r, o0__done, o0__undoable, o0__redoable, o0__all, o0__v, o0__loss, o0__isOver, o0__hasCauses, o0_g, o0_changed_e, o0_p, o0_causes)) : Ct l G cA ts yX9_does wsX9_does 5 133 [.ref h0, .int x1] (wm_X9_does cA h0 h0_g h0_changed h0_changed_e h0_p h0_causes h0_told h0_kept h0_rows h0_sorts h0_sizes h0_moved h0_outs h0_losses h0_levelOf h0_levelOften h0_to h0_round h0_tail h0_path h0_leastOn h0_period h0_amplitude h0_basin h0_numbered h0_isReached h0_tape h0_traced s0__isKept s0__done s0__undoable s0__redoable s0__all s0__v s0__loss s0__isOver s0__hasCauses s0__outMany s0__overMany s0__isHalted s0__levelMany s0__rounds s0__stuck s0__onRounds s0__longest s0__loudest s0__reached s0__isAnyOver s0__taped s0__at s0__ran s0_g s0_changed_e s0_p s0_causes s0_told) (wm_X9_does cA h0 h0_g h0_changed h0_changed_e h0_p h0_causes h0_told h0_kept h0_rows h0_sorts h0_sizes h0_moved h0_outs h0_losses h0_levelOf h0_levelOften h0_to h0_round h0_tail h0_path h0_leastOn h0_period h0_amplitude h0_basin h0_numbered h0_isReached h0_tape h0_traced s0__isKept o0__done o0__undoable o0__redoable o0__all o0__v o0__loss o0__isOver o0__hasCauses s0__outMany s0__overMany s0__isHalted s0__levelMany s0__rounds s0__stuck s0__onRounds s0__longest s0__loudest s0__reached s0__isAnyOver s0__taped s0__at s0__ran o0_g o0_changed_e o0_p o0_causes s0_told) (some (.int r)) := by
  refine Ct.intro (cc := cX9_does) (maxL := 2) (ret := some .int) (by decide +kernel) rfl (Nat.le_of_ble_eq_true rfl) ?_
  intro p e s m ar below meth c A Q hx hb hr hml hown hlocks hts hK hZ hA hQ hP hD hS ls hl
  have hown : s.vm.findClass RX9 = some m.cls := hown
  have hinX9 : ∀ w ∈ wsX90, w ∈ wsX9_does := fun _ h => List.mem_cons_of_mem _ (List.mem_append_right _ (h))
  have hl : lv_has ls 2 [(0, .ref h0), (1, .int x1)] := hl
  have hP : va_P G vwCl (wm_X9_does cA h0 h0_g h0_changed h0_changed_e h0_p h0_causes h0_told h0_kept h0_rows h0_sorts h0_sizes h0_moved h0_outs h0_losses h0_levelOf h0_levelOften h0_to h0_round h0_tail h0_path h0_leastOn h0_period h0_amplitude h0_basin h0_numbered h0_isReached h0_tape h0_traced s0__isKept s0__done s0__undoable s0__redoable s0__all s0__v s0__loss s0__isOver s0__hasCauses s0__outMany s0__overMany s0__isHalted s0__levelMany s0__rounds s0__stuck s0__onRounds s0__longest s0__loudest s0__reached s0__isAnyOver s0__taped s0__at s0__ran s0_g s0_changed_e s0_p s0_causes s0_told) s.heap := hP
  have hD : va_D A (wm_X9_does cA h0 h0_g h0_changed h0_changed_e h0_p h0_causes h0_told h0_kept h0_rows h0_sorts h0_sizes h0_moved h0_outs h0_losses h0_levelOf h0_levelOften h0_to h0_round h0_tail h0_path h0_leastOn h0_period h0_amplitude h0_basin h0_numbered h0_isReached h0_tape h0_traced s0__isKept s0__done s0__undoable s0__redoable s0__all s0__v s0__loss s0__isOver s0__hasCauses s0__outMany s0__overMany s0__isHalted s0__levelMany s0__rounds s0__stuck s0__onRounds s0__longest s0__loudest s0__reached s0__isAnyOver s0__taped s0__at s0__ran s0_g s0_changed_e s0_p s0_causes s0_told) := hD
  unfold fX9_does at hok
  refine lv_iload_n hx hb dX9_does_0 rfl (lv_at hl 1 rfl) ?_
  by_cases c0 : x1 = 98
  · replace hok := g_pos hok c0
    have e9 : (x1).toInt = 98 := by rw [c0]; rfl
    refine lv_tableIn (tgt := 125) (off := 124) hx hb dX9_does_1 (by rw [e9]; decide) (by rw [e9]; decide) (by rw [e9]; rfl) (by decide) ?_
    refine lv_aload_n hx hb dX9_does_125 rfl (lv_at hl 0 rfl) ?_
    refine lv_iconst (v := 1) hx hb dX9_does_126 (by decide) ?_
    refine lv_iconst (v := 0) hx hb dX9_does_127 (by decide) ?_
    refine lv_aload_n hx hb dX9_does_128 rfl (lv_at hl 0 rfl) ?_
    refine va_get (ci := 9) (v := .ref h0_told) (C := RX9) (T := TX9) (N := 49) hx hb hts hinX9 hown hK hP 0 rfl rfl 46 (by decide) (hts _ (List.mem_of_getElem? (i := 1) rfl)) (fun _ h9 => h9) rfl dX9_does_129 ?_
    refine lv_iconst (v := 0) hx hb dX9_does_132 (by decide) ?_
    refine x_iald (k := 0) hx hb hK hP 17 0 rfl rfl (show ¬ ((0:Int32) < 0 ∨ 2 ≤ (0:Int32).toNatClampNeg) by decide) (by decide) dX9_does_133 ?_
    obtain ⟨r1, o2, o3, o4, o5, hq, hok⟩ := g_bnd5 hok
    refine cG (is := [0, 1, 2, 3, 4, 5, 6, 7, 8, 9, 10, 11, 12, 13, 14]) (wc := (wm_X9_set cA h0 h0_g h0_changed h0_changed_e h0_kept h0_p h0_causes h0_rows h0_sorts h0_sizes h0_moved h0_outs h0_losses h0_levelOf h0_levelOften h0_to h0_round h0_tail h0_path h0_leastOn h0_period h0_amplitude h0_basin h0_numbered h0_isReached h0_tape h0_told h0_traced s0__isKept s0__done s0__undoable s0__redoable s0__all s0__v s0__loss s0__isOver s0__hasCauses s0__outMany s0__overMany s0__isHalted s0__levelMany s0__rounds s0__stuck s0__onRounds s0__longest s0__loudest s0__reached s0__isAnyOver s0__taped s0__at s0__ran s0_g s0_changed_e)) (w1 := (wm_X9_set cA h0 h0_g h0_changed h0_changed_e h0_kept h0_p h0_causes h0_rows h0_sorts h0_sizes h0_moved h0_outs h0_losses h0_levelOf h0_levelOften h0_to h0_round h0_tail h0_path h0_leastOn h0_period h0_amplitude h0_basin h0_numbered h0_isReached h0_tape h0_told h0_traced s0__isKept s0__done o2 o3 s0__all s0__v s0__loss s0__isOver s0__hasCauses s0__outMany s0__overMany s0__isHalted s0__levelMany s0__rounds s0__stuck s0__onRounds s0__longest s0__loudest s0__reached s0__isAnyOver s0__taped s0__at s0__ran o4 o5)) (rv := (some (.int r1))) (st1 := [.int r1]) (va_runV (Ts := wsX9_does) (As := [.int (1:Int32), .int (0:Int32), .int (s0_told 0)]) (rest := []) ⟨hx, hb, hml, hown, hts⟩ (c_X9_set l G cA ts h0 h0_g h0_changed h0_changed_e h0_kept h0_p h0_causes h0_rows h0_sorts h0_sizes h0_moved h0_outs h0_losses h0_levelOf h0_levelOften h0_to h0_round h0_tail h0_path h0_leastOn h0_period h0_amplitude h0_basin h0_numbered h0_isReached h0_tape h0_told h0_traced (1:Int32) (0:Int32) (s0_told 0) s0__isKept s0__done s0__undoable s0__redoable s0__all s0__v s0__loss s0__isOver s0__hasCauses s0__outMany s0__overMany s0__isHalted s0__levelMany s0__rounds s0__stuck s0__onRounds s0__longest s0__loudest s0__reached s0__isAnyOver s0__taped s0__at s0__ran s0_g s0_changed_e r1 o2 o3 o4 o5 hq s.heap.size) (cwV 3 hts gX9_does_X9_set rfl rfl rfl (by decide +kernel) ⟨Nat.le_of_ble_eq_true rfl, Nat.le_of_ble_eq_true rfl⟩) (pre_V (ci := 9) (q0 := 0) (is := [0, 1, 2, 3, 4, 5, 6, 7, 8, 9, 10, 11, 12, 13, 14]) rfl rfl hP hD hS hA hK hZ (by decide +kernel) (by rfl)) rfl rfl hl.1 rfl (by exact lv_room (Nat.le_of_ble_eq_true rfl)) dX9_does_134 ⟨Nat.le_refl _, Nat.le_refl _⟩) hP hD hS hA (by decide +kernel) (by rfl) (by rfl) rfl (fun H locs hP hD hS => ?_)
    obtain ⟨hP, hD⟩ : va_P G vwCl (wm_X9_does cA h0 h0_g h0_changed h0_changed_e h0_p h0_causes h0_told h0_kept h0_rows h0_sorts h0_sizes h0_moved h0_outs h0_losses h0_levelOf h0_levelOften h0_to h0_round h0_tail h0_path h0_leastOn h0_period h0_amplitude h0_basin h0_numbered h0_isReached h0_tape h0_traced s0__isKept s0__done o2 o3 s0__all s0__v s0__loss s0__isOver s0__hasCauses s0__outMany s0__overMany s0__isHalted s0__levelMany s0__rounds s0__stuck s0__onRounds s0__longest s0__loudest s0__reached s0__isAnyOver s0__taped s0__at s0__ran o4 o5 s0_p s0_causes s0_told) H ∧ va_D A (wm_X9_does cA h0 h0_g h0_changed h0_changed_e h0_p h0_causes h0_told h0_kept h0_rows h0_sorts h0_sizes h0_moved h0_outs h0_losses h0_levelOf h0_levelOften h0_to h0_round h0_tail h0_path h0_leastOn h0_period h0_amplitude h0_basin h0_numbered h0_isReached h0_tape h0_traced s0__isKept s0__done o2 o3 s0__all s0__v s0__loss s0__isOver s0__hasCauses s0__outMany s0__overMany s0__isHalted s0__levelMany s0__rounds s0__stuck s0__onRounds s0__longest s0__loudest s0__reached s0__isAnyOver s0__taped s0__at s0__ran o4 o5 s0_p s0_causes s0_told) := PD_eq hP hD (rp_eq (js := [15, 16, 17]) 18 (by decide +kernel) rfl rfl (by rfl) (by rfl) (by decide +kernel))
    obtain ⟨e, hok⟩ := g_pr hok
    try subst e
    obtain ⟨e, hok⟩ := g_pr hok
    try subst e
    obtain ⟨e, hok⟩ := g_pr hok
    try subst e
    obtain ⟨e, hok⟩ := g_pr hok
    try subst e
    obtain ⟨e, hok⟩ := g_pr hok
    try subst e
    obtain ⟨e, hok⟩ := g_pr hok
    try subst e
    obtain ⟨e, hok⟩ := g_pr hok
    try subst e
    obtain ⟨e, hok⟩ := g_pr hok
    try subst e
    obtain ⟨e, hok⟩ := g_pr hok
    try subst e
    obtain ⟨e, hok⟩ := g_pr hok
    try subst e
    obtain ⟨e, hok⟩ := g_pr hok
    try subst e
    obtain ⟨e, hok⟩ := g_pr hok
    try subst e
    cases hok
    exact cr_i hx hb hr hlocks hQ dX9_does_137 hP hS
  replace hok := g_neg hok c0
  by_cases c1 : x1 = 99
  · replace hok := g_pos hok c1
    have e9 : (x1).toInt = 99 := by rw [c1]; rfl
    refine lv_tableIn (tgt := 138) (off := 137) hx hb dX9_does_1 (by rw [e9]; decide) (by rw [e9]; decide) (by rw [e9]; rfl) (by decide) ?_
    refine lv_aload_n hx hb dX9_does_138 rfl (lv_at hl 0 rfl) ?_
    refine lv_iconst (v := 2) hx hb dX9_does_139 (by decide) ?_
    refine lv_aload_n hx hb dX9_does_140 rfl (lv_at hl 0 rfl) ?_
    refine va_get (ci := 9) (v := .ref h0_told) (C := RX9) (T := TX9) (N := 49) hx hb hts hinX9 hown hK hP 0 rfl rfl 46 (by decide) (hts _ (List.mem_of_getElem? (i := 1) rfl)) (fun _ h9 => h9) rfl dX9_does_141 ?_
    refine lv_iconst (v := 0) hx hb dX9_does_144 (by decide) ?_
    refine x_iald (k := 0) hx hb hK hP 17 0 rfl rfl (show ¬ ((0:Int32) < 0 ∨ 2 ≤ (0:Int32).toNatClampNeg) by decide) (by decide) dX9_does_145 ?_
    refine lv_aload_n hx hb dX9_does_146 rfl (lv_at hl 0 rfl) ?_
    refine va_get (ci := 9) (v := .ref h0_told) (C := RX9) (T := TX9) (N := 49) hx hb hts hinX9 hown hK hP 0 rfl rfl 46 (by decide) (hts _ (List.mem_of_getElem? (i := 1) rfl)) (fun _ h9 => h9) rfl dX9_does_147 ?_
    refine lv_iconst (v := 1) hx hb dX9_does_150 (by decide) ?_
    refine x_iald (k := 1) hx hb hK hP 17 0 rfl rfl (show ¬ ((1:Int32) < 0 ∨ 2 ≤ (1:Int32).toNatClampNeg) by decide) (by decide) dX9_does_151 ?_
    obtain ⟨r6, o7, o8, o9, o10, hq, hok⟩ := g_bnd5 hok
    refine cG (is := [0, 1, 2, 3, 4, 5, 6, 7, 8, 9, 10, 11, 12, 13, 14]) (wc := (wm_X9_set cA h0 h0_g h0_changed h0_changed_e h0_kept h0_p h0_causes h0_rows h0_sorts h0_sizes h0_moved h0_outs h0_losses h0_levelOf h0_levelOften h0_to h0_round h0_tail h0_path h0_leastOn h0_period h0_amplitude h0_basin h0_numbered h0_isReached h0_tape h0_told h0_traced s0__isKept s0__done s0__undoable s0__redoable s0__all s0__v s0__loss s0__isOver s0__hasCauses s0__outMany s0__overMany s0__isHalted s0__levelMany s0__rounds s0__stuck s0__onRounds s0__longest s0__loudest s0__reached s0__isAnyOver s0__taped s0__at s0__ran s0_g s0_changed_e)) (w1 := (wm_X9_set cA h0 h0_g h0_changed h0_changed_e h0_kept h0_p h0_causes h0_rows h0_sorts h0_sizes h0_moved h0_outs h0_losses h0_levelOf h0_levelOften h0_to h0_round h0_tail h0_path h0_leastOn h0_period h0_amplitude h0_basin h0_numbered h0_isReached h0_tape h0_told h0_traced s0__isKept s0__done o7 o8 s0__all s0__v s0__loss s0__isOver s0__hasCauses s0__outMany s0__overMany s0__isHalted s0__levelMany s0__rounds s0__stuck s0__onRounds s0__longest s0__loudest s0__reached s0__isAnyOver s0__taped s0__at s0__ran o9 o10)) (rv := (some (.int r6))) (st1 := [.int r6]) (va_runV (Ts := wsX9_does) (As := [.int (2:Int32), .int (s0_told 0), .int (s0_told 1)]) (rest := []) ⟨hx, hb, hml, hown, hts⟩ (c_X9_set l G cA ts h0 h0_g h0_changed h0_changed_e h0_kept h0_p h0_causes h0_rows h0_sorts h0_sizes h0_moved h0_outs h0_losses h0_levelOf h0_levelOften h0_to h0_round h0_tail h0_path h0_leastOn h0_period h0_amplitude h0_basin h0_numbered h0_isReached h0_tape h0_told h0_traced (2:Int32) (s0_told 0) (s0_told 1) s0__isKept s0__done s0__undoable s0__redoable s0__all s0__v s0__loss s0__isOver s0__hasCauses s0__outMany s0__overMany s0__isHalted s0__levelMany s0__rounds s0__stuck s0__onRounds s0__longest s0__loudest s0__reached s0__isAnyOver s0__taped s0__at s0__ran s0_g s0_changed_e r6 o7 o8 o9 o10 hq s.heap.size) (cwV 3 hts gX9_does_X9_set rfl rfl rfl (by decide +kernel) ⟨Nat.le_of_ble_eq_true rfl, Nat.le_of_ble_eq_true rfl⟩) (pre_V (ci := 9) (q0 := 0) (is := [0, 1, 2, 3, 4, 5, 6, 7, 8, 9, 10, 11, 12, 13, 14]) rfl rfl hP hD hS hA hK hZ (by decide +kernel) (by rfl)) rfl rfl hl.1 rfl (by exact lv_room (Nat.le_of_ble_eq_true rfl)) dX9_does_152 ⟨Nat.le_refl _, Nat.le_refl _⟩) hP hD hS hA (by decide +kernel) (by rfl) (by rfl) rfl (fun H locs hP hD hS => ?_)
    obtain ⟨hP, hD⟩ : va_P G vwCl (wm_X9_does cA h0 h0_g h0_changed h0_changed_e h0_p h0_causes h0_told h0_kept h0_rows h0_sorts h0_sizes h0_moved h0_outs h0_losses h0_levelOf h0_levelOften h0_to h0_round h0_tail h0_path h0_leastOn h0_period h0_amplitude h0_basin h0_numbered h0_isReached h0_tape h0_traced s0__isKept s0__done o7 o8 s0__all s0__v s0__loss s0__isOver s0__hasCauses s0__outMany s0__overMany s0__isHalted s0__levelMany s0__rounds s0__stuck s0__onRounds s0__longest s0__loudest s0__reached s0__isAnyOver s0__taped s0__at s0__ran o9 o10 s0_p s0_causes s0_told) H ∧ va_D A (wm_X9_does cA h0 h0_g h0_changed h0_changed_e h0_p h0_causes h0_told h0_kept h0_rows h0_sorts h0_sizes h0_moved h0_outs h0_losses h0_levelOf h0_levelOften h0_to h0_round h0_tail h0_path h0_leastOn h0_period h0_amplitude h0_basin h0_numbered h0_isReached h0_tape h0_traced s0__isKept s0__done o7 o8 s0__all s0__v s0__loss s0__isOver s0__hasCauses s0__outMany s0__overMany s0__isHalted s0__levelMany s0__rounds s0__stuck s0__onRounds s0__longest s0__loudest s0__reached s0__isAnyOver s0__taped s0__at s0__ran o9 o10 s0_p s0_causes s0_told) := PD_eq hP hD (rp_eq (js := [15, 16, 17]) 18 (by decide +kernel) rfl rfl (by rfl) (by rfl) (by decide +kernel))
    obtain ⟨e, hok⟩ := g_pr hok
    try subst e
    obtain ⟨e, hok⟩ := g_pr hok
    try subst e
    obtain ⟨e, hok⟩ := g_pr hok
    try subst e
    obtain ⟨e, hok⟩ := g_pr hok
    try subst e
    obtain ⟨e, hok⟩ := g_pr hok
    try subst e
    obtain ⟨e, hok⟩ := g_pr hok
    try subst e
    obtain ⟨e, hok⟩ := g_pr hok
    try subst e
    obtain ⟨e, hok⟩ := g_pr hok
    try subst e
    obtain ⟨e, hok⟩ := g_pr hok
    try subst e
    obtain ⟨e, hok⟩ := g_pr hok
    try subst e
    obtain ⟨e, hok⟩ := g_pr hok
    try subst e
    obtain ⟨e, hok⟩ := g_pr hok
    try subst e
    cases hok
    exact cr_i hx hb hr hlocks hQ dX9_does_155 hP hS
  replace hok := g_neg hok c1
  by_cases c2 : x1 = 100
  · replace hok := g_pos hok c2
    have e9 : (x1).toInt = 100 := by rw [c2]; rfl
    refine lv_tableIn (tgt := 240) (off := 239) hx hb dX9_does_1 (by rw [e9]; decide) (by rw [e9]; decide) (by rw [e9]; rfl) (by decide) ?_
    refine lv_aload_n hx hb dX9_does_240 rfl (lv_at hl 0 rfl) ?_
    refine lv_aload_n hx hb dX9_does_241 rfl (lv_at hl 0 rfl) ?_
    refine va_get (ci := 9) (v := .ref h0_told) (C := RX9) (T := TX9) (N := 49) hx hb hts hinX9 hown hK hP 0 rfl rfl 46 (by decide) (hts _ (List.mem_of_getElem? (i := 1) rfl)) (fun _ h9 => h9) rfl dX9_does_242 ?_
    refine lv_iconst (v := 0) hx hb dX9_does_245 (by decide) ?_
    refine x_iald (k := 0) hx hb hK hP 17 0 rfl rfl (show ¬ ((0:Int32) < 0 ∨ 2 ≤ (0:Int32).toNatClampNeg) by decide) (by decide) dX9_does_246 ?_
    obtain ⟨r11, o12, o13, o14, o15, o16, o17, o18, o19, o20, hq, hok⟩ := g_bnd10 hok
    refine cG (is := [0, 1, 15, 16]) (wc := (wm_X9_step cA h0 h0_g h0_p h0_causes h0_kept h0_changed h0_rows h0_sorts h0_sizes h0_moved h0_outs h0_losses h0_levelOf h0_levelOften h0_to h0_round h0_tail h0_path h0_leastOn h0_period h0_amplitude h0_basin h0_numbered h0_isReached h0_tape h0_told h0_traced s0__isKept s0__done s0__undoable s0__redoable s0__all s0__v s0__loss s0__isOver s0__hasCauses s0__outMany s0__overMany s0__isHalted s0__levelMany s0__rounds s0__stuck s0__onRounds s0__longest s0__loudest s0__reached s0__isAnyOver s0__taped s0__at s0__ran s0_g s0_p s0_causes)) (w1 := (wm_X9_step cA h0 h0_g h0_p h0_causes h0_kept h0_changed h0_rows h0_sorts h0_sizes h0_moved h0_outs h0_losses h0_levelOf h0_levelOften h0_to h0_round h0_tail h0_path h0_leastOn h0_period h0_amplitude h0_basin h0_numbered h0_isReached h0_tape h0_told h0_traced s0__isKept o12 s0__undoable s0__redoable o13 o14 o15 o16 o17 s0__outMany s0__overMany s0__isHalted s0__levelMany s0__rounds s0__stuck s0__onRounds s0__longest s0__loudest s0__reached s0__isAnyOver s0__taped s0__at s0__ran o18 o19 o20)) (rv := (some (.int r11))) (st1 := [.int r11]) (va_runV (Ts := wsX9_does) (As := [.int (s0_told 0)]) (rest := []) ⟨hx, hb, hml, hown, hts⟩ (c_X9_step l G cA ts h0 h0_g h0_p h0_causes h0_kept h0_changed h0_rows h0_sorts h0_sizes h0_moved h0_outs h0_losses h0_levelOf h0_levelOften h0_to h0_round h0_tail h0_path h0_leastOn h0_period h0_amplitude h0_basin h0_numbered h0_isReached h0_tape h0_told h0_traced (s0_told 0) s0__isKept s0__done s0__undoable s0__redoable s0__all s0__v s0__loss s0__isOver s0__hasCauses s0__outMany s0__overMany s0__isHalted s0__levelMany s0__rounds s0__stuck s0__onRounds s0__longest s0__loudest s0__reached s0__isAnyOver s0__taped s0__at s0__ran s0_g s0_p s0_causes r11 o12 o13 o14 o15 o16 o17 o18 o19 o20 hq s.heap.size) (cwV 1 hts gX9_does_X9_step rfl rfl rfl (by decide +kernel) ⟨Nat.le_of_ble_eq_true rfl, Nat.le_of_ble_eq_true rfl⟩) (pre_V (ci := 9) (q0 := 0) (is := [0, 1, 15, 16]) rfl rfl hP hD hS hA hK hZ (by decide +kernel) (by rfl)) rfl rfl hl.1 rfl (by exact lv_room (Nat.le_of_ble_eq_true rfl)) dX9_does_247 ⟨Nat.le_refl _, Nat.le_refl _⟩) hP hD hS hA (by decide +kernel) (by rfl) (by rfl) rfl (fun H locs hP hD hS => ?_)
    have hP : va_P G vwCl (wm_X9_does cA h0 h0_g h0_changed h0_changed_e h0_p h0_causes h0_told h0_kept h0_rows h0_sorts h0_sizes h0_moved h0_outs h0_losses h0_levelOf h0_levelOften h0_to h0_round h0_tail h0_path h0_leastOn h0_period h0_amplitude h0_basin h0_numbered h0_isReached h0_tape h0_traced s0__isKept o12 s0__undoable s0__redoable o13 o14 o15 o16 o17 s0__outMany s0__overMany s0__isHalted s0__levelMany s0__rounds s0__stuck s0__onRounds s0__longest s0__loudest s0__reached s0__isAnyOver s0__taped s0__at s0__ran o18 s0_changed_e o19 o20 s0_told) H := hP
    have hD : va_D A (wm_X9_does cA h0 h0_g h0_changed h0_changed_e h0_p h0_causes h0_told h0_kept h0_rows h0_sorts h0_sizes h0_moved h0_outs h0_losses h0_levelOf h0_levelOften h0_to h0_round h0_tail h0_path h0_leastOn h0_period h0_amplitude h0_basin h0_numbered h0_isReached h0_tape h0_traced s0__isKept o12 s0__undoable s0__redoable o13 o14 o15 o16 o17 s0__outMany s0__overMany s0__isHalted s0__levelMany s0__rounds s0__stuck s0__onRounds s0__longest s0__loudest s0__reached s0__isAnyOver s0__taped s0__at s0__ran o18 s0_changed_e o19 o20 s0_told) := hD
    obtain ⟨e, hok⟩ := g_pr hok
    try subst e
    obtain ⟨e, hok⟩ := g_pr hok
    try subst e
    obtain ⟨e, hok⟩ := g_pr hok
    try subst e
    obtain ⟨e, hok⟩ := g_pr hok
    try subst e
    obtain ⟨e, hok⟩ := g_pr hok
    try subst e
    obtain ⟨e, hok⟩ := g_pr hok
    try subst e
    obtain ⟨e, hok⟩ := g_pr hok
    try subst e
    obtain ⟨e, hok⟩ := g_pr hok
    try subst e
    obtain ⟨e, hok⟩ := g_pr hok
    try subst e
    obtain ⟨e, hok⟩ := g_pr hok
    try subst e
    obtain ⟨e, hok⟩ := g_pr hok
    try subst e
    obtain ⟨e, hok⟩ := g_pr hok
    try subst e
    cases hok
    exact cr_i hx hb hr hlocks hQ dX9_does_250 hP hS
  replace hok := g_neg hok c2
  by_cases c3 : x1 = 101
  · replace hok := g_pos hok c3
    have e9 : (x1).toInt = 101 := by rw [c3]; rfl
    refine lv_tableIn (tgt := 240) (off := 239) hx hb dX9_does_1 (by rw [e9]; decide) (by rw [e9]; decide) (by rw [e9]; rfl) (by decide) ?_
    refine lv_aload_n hx hb dX9_does_240 rfl (lv_at hl 0 rfl) ?_
    refine lv_aload_n hx hb dX9_does_241 rfl (lv_at hl 0 rfl) ?_
    refine va_get (ci := 9) (v := .ref h0_told) (C := RX9) (T := TX9) (N := 49) hx hb hts hinX9 hown hK hP 0 rfl rfl 46 (by decide) (hts _ (List.mem_of_getElem? (i := 1) rfl)) (fun _ h9 => h9) rfl dX9_does_242 ?_
    refine lv_iconst (v := 0) hx hb dX9_does_245 (by decide) ?_
    refine x_iald (k := 0) hx hb hK hP 17 0 rfl rfl (show ¬ ((0:Int32) < 0 ∨ 2 ≤ (0:Int32).toNatClampNeg) by decide) (by decide) dX9_does_246 ?_
    obtain ⟨r21, o22, o23, o24, o25, o26, o27, o28, o29, o30, hq, hok⟩ := g_bnd10 hok
    refine cG (is := [0, 1, 15, 16]) (wc := (wm_X9_step cA h0 h0_g h0_p h0_causes h0_kept h0_changed h0_rows h0_sorts h0_sizes h0_moved h0_outs h0_losses h0_levelOf h0_levelOften h0_to h0_round h0_tail h0_path h0_leastOn h0_period h0_amplitude h0_basin h0_numbered h0_isReached h0_tape h0_told h0_traced s0__isKept s0__done s0__undoable s0__redoable s0__all s0__v s0__loss s0__isOver s0__hasCauses s0__outMany s0__overMany s0__isHalted s0__levelMany s0__rounds s0__stuck s0__onRounds s0__longest s0__loudest s0__reached s0__isAnyOver s0__taped s0__at s0__ran s0_g s0_p s0_causes)) (w1 := (wm_X9_step cA h0 h0_g h0_p h0_causes h0_kept h0_changed h0_rows h0_sorts h0_sizes h0_moved h0_outs h0_losses h0_levelOf h0_levelOften h0_to h0_round h0_tail h0_path h0_leastOn h0_period h0_amplitude h0_basin h0_numbered h0_isReached h0_tape h0_told h0_traced s0__isKept o22 s0__undoable s0__redoable o23 o24 o25 o26 o27 s0__outMany s0__overMany s0__isHalted s0__levelMany s0__rounds s0__stuck s0__onRounds s0__longest s0__loudest s0__reached s0__isAnyOver s0__taped s0__at s0__ran o28 o29 o30)) (rv := (some (.int r21))) (st1 := [.int r21]) (va_runV (Ts := wsX9_does) (As := [.int (s0_told 0)]) (rest := []) ⟨hx, hb, hml, hown, hts⟩ (c_X9_step l G cA ts h0 h0_g h0_p h0_causes h0_kept h0_changed h0_rows h0_sorts h0_sizes h0_moved h0_outs h0_losses h0_levelOf h0_levelOften h0_to h0_round h0_tail h0_path h0_leastOn h0_period h0_amplitude h0_basin h0_numbered h0_isReached h0_tape h0_told h0_traced (s0_told 0) s0__isKept s0__done s0__undoable s0__redoable s0__all s0__v s0__loss s0__isOver s0__hasCauses s0__outMany s0__overMany s0__isHalted s0__levelMany s0__rounds s0__stuck s0__onRounds s0__longest s0__loudest s0__reached s0__isAnyOver s0__taped s0__at s0__ran s0_g s0_p s0_causes r21 o22 o23 o24 o25 o26 o27 o28 o29 o30 hq s.heap.size) (cwV 1 hts gX9_does_X9_step rfl rfl rfl (by decide +kernel) ⟨Nat.le_of_ble_eq_true rfl, Nat.le_of_ble_eq_true rfl⟩) (pre_V (ci := 9) (q0 := 0) (is := [0, 1, 15, 16]) rfl rfl hP hD hS hA hK hZ (by decide +kernel) (by rfl)) rfl rfl hl.1 rfl (by exact lv_room (Nat.le_of_ble_eq_true rfl)) dX9_does_247 ⟨Nat.le_refl _, Nat.le_refl _⟩) hP hD hS hA (by decide +kernel) (by rfl) (by rfl) rfl (fun H locs hP hD hS => ?_)
    have hP : va_P G vwCl (wm_X9_does cA h0 h0_g h0_changed h0_changed_e h0_p h0_causes h0_told h0_kept h0_rows h0_sorts h0_sizes h0_moved h0_outs h0_losses h0_levelOf h0_levelOften h0_to h0_round h0_tail h0_path h0_leastOn h0_period h0_amplitude h0_basin h0_numbered h0_isReached h0_tape h0_traced s0__isKept o22 s0__undoable s0__redoable o23 o24 o25 o26 o27 s0__outMany s0__overMany s0__isHalted s0__levelMany s0__rounds s0__stuck s0__onRounds s0__longest s0__loudest s0__reached s0__isAnyOver s0__taped s0__at s0__ran o28 s0_changed_e o29 o30 s0_told) H := hP
    have hD : va_D A (wm_X9_does cA h0 h0_g h0_changed h0_changed_e h0_p h0_causes h0_told h0_kept h0_rows h0_sorts h0_sizes h0_moved h0_outs h0_losses h0_levelOf h0_levelOften h0_to h0_round h0_tail h0_path h0_leastOn h0_period h0_amplitude h0_basin h0_numbered h0_isReached h0_tape h0_traced s0__isKept o22 s0__undoable s0__redoable o23 o24 o25 o26 o27 s0__outMany s0__overMany s0__isHalted s0__levelMany s0__rounds s0__stuck s0__onRounds s0__longest s0__loudest s0__reached s0__isAnyOver s0__taped s0__at s0__ran o28 s0_changed_e o29 o30 s0_told) := hD
    obtain ⟨e, hok⟩ := g_pr hok
    try subst e
    obtain ⟨e, hok⟩ := g_pr hok
    try subst e
    obtain ⟨e, hok⟩ := g_pr hok
    try subst e
    obtain ⟨e, hok⟩ := g_pr hok
    try subst e
    obtain ⟨e, hok⟩ := g_pr hok
    try subst e
    obtain ⟨e, hok⟩ := g_pr hok
    try subst e
    obtain ⟨e, hok⟩ := g_pr hok
    try subst e
    obtain ⟨e, hok⟩ := g_pr hok
    try subst e
    obtain ⟨e, hok⟩ := g_pr hok
    try subst e
    obtain ⟨e, hok⟩ := g_pr hok
    try subst e
    obtain ⟨e, hok⟩ := g_pr hok
    try subst e
    obtain ⟨e, hok⟩ := g_pr hok
    try subst e
    cases hok
    exact cr_i hx hb hr hlocks hQ dX9_does_250 hP hS
  replace hok := g_neg hok c3
  by_cases c4 : x1 = 102
  · replace hok := g_pos hok c4
    have e9 : (x1).toInt = 102 := by rw [c4]; rfl
    refine lv_tableIn (tgt := 240) (off := 239) hx hb dX9_does_1 (by rw [e9]; decide) (by rw [e9]; decide) (by rw [e9]; rfl) (by decide) ?_
    refine lv_aload_n hx hb dX9_does_240 rfl (lv_at hl 0 rfl) ?_
    refine lv_aload_n hx hb dX9_does_241 rfl (lv_at hl 0 rfl) ?_
    refine va_get (ci := 9) (v := .ref h0_told) (C := RX9) (T := TX9) (N := 49) hx hb hts hinX9 hown hK hP 0 rfl rfl 46 (by decide) (hts _ (List.mem_of_getElem? (i := 1) rfl)) (fun _ h9 => h9) rfl dX9_does_242 ?_
    refine lv_iconst (v := 0) hx hb dX9_does_245 (by decide) ?_
    refine x_iald (k := 0) hx hb hK hP 17 0 rfl rfl (show ¬ ((0:Int32) < 0 ∨ 2 ≤ (0:Int32).toNatClampNeg) by decide) (by decide) dX9_does_246 ?_
    obtain ⟨r31, o32, o33, o34, o35, o36, o37, o38, o39, o40, hq, hok⟩ := g_bnd10 hok
    refine cG (is := [0, 1, 15, 16]) (wc := (wm_X9_step cA h0 h0_g h0_p h0_causes h0_kept h0_changed h0_rows h0_sorts h0_sizes h0_moved h0_outs h0_losses h0_levelOf h0_levelOften h0_to h0_round h0_tail h0_path h0_leastOn h0_period h0_amplitude h0_basin h0_numbered h0_isReached h0_tape h0_told h0_traced s0__isKept s0__done s0__undoable s0__redoable s0__all s0__v s0__loss s0__isOver s0__hasCauses s0__outMany s0__overMany s0__isHalted s0__levelMany s0__rounds s0__stuck s0__onRounds s0__longest s0__loudest s0__reached s0__isAnyOver s0__taped s0__at s0__ran s0_g s0_p s0_causes)) (w1 := (wm_X9_step cA h0 h0_g h0_p h0_causes h0_kept h0_changed h0_rows h0_sorts h0_sizes h0_moved h0_outs h0_losses h0_levelOf h0_levelOften h0_to h0_round h0_tail h0_path h0_leastOn h0_period h0_amplitude h0_basin h0_numbered h0_isReached h0_tape h0_told h0_traced s0__isKept o32 s0__undoable s0__redoable o33 o34 o35 o36 o37 s0__outMany s0__overMany s0__isHalted s0__levelMany s0__rounds s0__stuck s0__onRounds s0__longest s0__loudest s0__reached s0__isAnyOver s0__taped s0__at s0__ran o38 o39 o40)) (rv := (some (.int r31))) (st1 := [.int r31]) (va_runV (Ts := wsX9_does) (As := [.int (s0_told 0)]) (rest := []) ⟨hx, hb, hml, hown, hts⟩ (c_X9_step l G cA ts h0 h0_g h0_p h0_causes h0_kept h0_changed h0_rows h0_sorts h0_sizes h0_moved h0_outs h0_losses h0_levelOf h0_levelOften h0_to h0_round h0_tail h0_path h0_leastOn h0_period h0_amplitude h0_basin h0_numbered h0_isReached h0_tape h0_told h0_traced (s0_told 0) s0__isKept s0__done s0__undoable s0__redoable s0__all s0__v s0__loss s0__isOver s0__hasCauses s0__outMany s0__overMany s0__isHalted s0__levelMany s0__rounds s0__stuck s0__onRounds s0__longest s0__loudest s0__reached s0__isAnyOver s0__taped s0__at s0__ran s0_g s0_p s0_causes r31 o32 o33 o34 o35 o36 o37 o38 o39 o40 hq s.heap.size) (cwV 1 hts gX9_does_X9_step rfl rfl rfl (by decide +kernel) ⟨Nat.le_of_ble_eq_true rfl, Nat.le_of_ble_eq_true rfl⟩) (pre_V (ci := 9) (q0 := 0) (is := [0, 1, 15, 16]) rfl rfl hP hD hS hA hK hZ (by decide +kernel) (by rfl)) rfl rfl hl.1 rfl (by exact lv_room (Nat.le_of_ble_eq_true rfl)) dX9_does_247 ⟨Nat.le_refl _, Nat.le_refl _⟩) hP hD hS hA (by decide +kernel) (by rfl) (by rfl) rfl (fun H locs hP hD hS => ?_)
    have hP : va_P G vwCl (wm_X9_does cA h0 h0_g h0_changed h0_changed_e h0_p h0_causes h0_told h0_kept h0_rows h0_sorts h0_sizes h0_moved h0_outs h0_losses h0_levelOf h0_levelOften h0_to h0_round h0_tail h0_path h0_leastOn h0_period h0_amplitude h0_basin h0_numbered h0_isReached h0_tape h0_traced s0__isKept o32 s0__undoable s0__redoable o33 o34 o35 o36 o37 s0__outMany s0__overMany s0__isHalted s0__levelMany s0__rounds s0__stuck s0__onRounds s0__longest s0__loudest s0__reached s0__isAnyOver s0__taped s0__at s0__ran o38 s0_changed_e o39 o40 s0_told) H := hP
    have hD : va_D A (wm_X9_does cA h0 h0_g h0_changed h0_changed_e h0_p h0_causes h0_told h0_kept h0_rows h0_sorts h0_sizes h0_moved h0_outs h0_losses h0_levelOf h0_levelOften h0_to h0_round h0_tail h0_path h0_leastOn h0_period h0_amplitude h0_basin h0_numbered h0_isReached h0_tape h0_traced s0__isKept o32 s0__undoable s0__redoable o33 o34 o35 o36 o37 s0__outMany s0__overMany s0__isHalted s0__levelMany s0__rounds s0__stuck s0__onRounds s0__longest s0__loudest s0__reached s0__isAnyOver s0__taped s0__at s0__ran o38 s0_changed_e o39 o40 s0_told) := hD
    obtain ⟨e, hok⟩ := g_pr hok
    try subst e
    obtain ⟨e, hok⟩ := g_pr hok
    try subst e
    obtain ⟨e, hok⟩ := g_pr hok
    try subst e
    obtain ⟨e, hok⟩ := g_pr hok
    try subst e
    obtain ⟨e, hok⟩ := g_pr hok
    try subst e
    obtain ⟨e, hok⟩ := g_pr hok
    try subst e
    obtain ⟨e, hok⟩ := g_pr hok
    try subst e
    obtain ⟨e, hok⟩ := g_pr hok
    try subst e
    obtain ⟨e, hok⟩ := g_pr hok
    try subst e
    obtain ⟨e, hok⟩ := g_pr hok
    try subst e
    obtain ⟨e, hok⟩ := g_pr hok
    try subst e
    obtain ⟨e, hok⟩ := g_pr hok
    try subst e
    cases hok
    exact cr_i hx hb hr hlocks hQ dX9_does_250 hP hS
  replace hok := g_neg hok c4
  by_cases c5 : x1 = 103
  · replace hok := g_pos hok c5
    have e9 : (x1).toInt = 103 := by rw [c5]; rfl
    refine lv_tableIn (tgt := 240) (off := 239) hx hb dX9_does_1 (by rw [e9]; decide) (by rw [e9]; decide) (by rw [e9]; rfl) (by decide) ?_
    refine lv_aload_n hx hb dX9_does_240 rfl (lv_at hl 0 rfl) ?_
    refine lv_aload_n hx hb dX9_does_241 rfl (lv_at hl 0 rfl) ?_
    refine va_get (ci := 9) (v := .ref h0_told) (C := RX9) (T := TX9) (N := 49) hx hb hts hinX9 hown hK hP 0 rfl rfl 46 (by decide) (hts _ (List.mem_of_getElem? (i := 1) rfl)) (fun _ h9 => h9) rfl dX9_does_242 ?_
    refine lv_iconst (v := 0) hx hb dX9_does_245 (by decide) ?_
    refine x_iald (k := 0) hx hb hK hP 17 0 rfl rfl (show ¬ ((0:Int32) < 0 ∨ 2 ≤ (0:Int32).toNatClampNeg) by decide) (by decide) dX9_does_246 ?_
    obtain ⟨r41, o42, o43, o44, o45, o46, o47, o48, o49, o50, hq, hok⟩ := g_bnd10 hok
    refine cG (is := [0, 1, 15, 16]) (wc := (wm_X9_step cA h0 h0_g h0_p h0_causes h0_kept h0_changed h0_rows h0_sorts h0_sizes h0_moved h0_outs h0_losses h0_levelOf h0_levelOften h0_to h0_round h0_tail h0_path h0_leastOn h0_period h0_amplitude h0_basin h0_numbered h0_isReached h0_tape h0_told h0_traced s0__isKept s0__done s0__undoable s0__redoable s0__all s0__v s0__loss s0__isOver s0__hasCauses s0__outMany s0__overMany s0__isHalted s0__levelMany s0__rounds s0__stuck s0__onRounds s0__longest s0__loudest s0__reached s0__isAnyOver s0__taped s0__at s0__ran s0_g s0_p s0_causes)) (w1 := (wm_X9_step cA h0 h0_g h0_p h0_causes h0_kept h0_changed h0_rows h0_sorts h0_sizes h0_moved h0_outs h0_losses h0_levelOf h0_levelOften h0_to h0_round h0_tail h0_path h0_leastOn h0_period h0_amplitude h0_basin h0_numbered h0_isReached h0_tape h0_told h0_traced s0__isKept o42 s0__undoable s0__redoable o43 o44 o45 o46 o47 s0__outMany s0__overMany s0__isHalted s0__levelMany s0__rounds s0__stuck s0__onRounds s0__longest s0__loudest s0__reached s0__isAnyOver s0__taped s0__at s0__ran o48 o49 o50)) (rv := (some (.int r41))) (st1 := [.int r41]) (va_runV (Ts := wsX9_does) (As := [.int (s0_told 0)]) (rest := []) ⟨hx, hb, hml, hown, hts⟩ (c_X9_step l G cA ts h0 h0_g h0_p h0_causes h0_kept h0_changed h0_rows h0_sorts h0_sizes h0_moved h0_outs h0_losses h0_levelOf h0_levelOften h0_to h0_round h0_tail h0_path h0_leastOn h0_period h0_amplitude h0_basin h0_numbered h0_isReached h0_tape h0_told h0_traced (s0_told 0) s0__isKept s0__done s0__undoable s0__redoable s0__all s0__v s0__loss s0__isOver s0__hasCauses s0__outMany s0__overMany s0__isHalted s0__levelMany s0__rounds s0__stuck s0__onRounds s0__longest s0__loudest s0__reached s0__isAnyOver s0__taped s0__at s0__ran s0_g s0_p s0_causes r41 o42 o43 o44 o45 o46 o47 o48 o49 o50 hq s.heap.size) (cwV 1 hts gX9_does_X9_step rfl rfl rfl (by decide +kernel) ⟨Nat.le_of_ble_eq_true rfl, Nat.le_of_ble_eq_true rfl⟩) (pre_V (ci := 9) (q0 := 0) (is := [0, 1, 15, 16]) rfl rfl hP hD hS hA hK hZ (by decide +kernel) (by rfl)) rfl rfl hl.1 rfl (by exact lv_room (Nat.le_of_ble_eq_true rfl)) dX9_does_247 ⟨Nat.le_refl _, Nat.le_refl _⟩) hP hD hS hA (by decide +kernel) (by rfl) (by rfl) rfl (fun H locs hP hD hS => ?_)
    have hP : va_P G vwCl (wm_X9_does cA h0 h0_g h0_changed h0_changed_e h0_p h0_causes h0_told h0_kept h0_rows h0_sorts h0_sizes h0_moved h0_outs h0_losses h0_levelOf h0_levelOften h0_to h0_round h0_tail h0_path h0_leastOn h0_period h0_amplitude h0_basin h0_numbered h0_isReached h0_tape h0_traced s0__isKept o42 s0__undoable s0__redoable o43 o44 o45 o46 o47 s0__outMany s0__overMany s0__isHalted s0__levelMany s0__rounds s0__stuck s0__onRounds s0__longest s0__loudest s0__reached s0__isAnyOver s0__taped s0__at s0__ran o48 s0_changed_e o49 o50 s0_told) H := hP
    have hD : va_D A (wm_X9_does cA h0 h0_g h0_changed h0_changed_e h0_p h0_causes h0_told h0_kept h0_rows h0_sorts h0_sizes h0_moved h0_outs h0_losses h0_levelOf h0_levelOften h0_to h0_round h0_tail h0_path h0_leastOn h0_period h0_amplitude h0_basin h0_numbered h0_isReached h0_tape h0_traced s0__isKept o42 s0__undoable s0__redoable o43 o44 o45 o46 o47 s0__outMany s0__overMany s0__isHalted s0__levelMany s0__rounds s0__stuck s0__onRounds s0__longest s0__loudest s0__reached s0__isAnyOver s0__taped s0__at s0__ran o48 s0_changed_e o49 o50 s0_told) := hD
    obtain ⟨e, hok⟩ := g_pr hok
    try subst e
    obtain ⟨e, hok⟩ := g_pr hok
    try subst e
    obtain ⟨e, hok⟩ := g_pr hok
    try subst e
    obtain ⟨e, hok⟩ := g_pr hok
    try subst e
    obtain ⟨e, hok⟩ := g_pr hok
    try subst e
    obtain ⟨e, hok⟩ := g_pr hok
    try subst e
    obtain ⟨e, hok⟩ := g_pr hok
    try subst e
    obtain ⟨e, hok⟩ := g_pr hok
    try subst e
    obtain ⟨e, hok⟩ := g_pr hok
    try subst e
    obtain ⟨e, hok⟩ := g_pr hok
    try subst e
    obtain ⟨e, hok⟩ := g_pr hok
    try subst e
    obtain ⟨e, hok⟩ := g_pr hok
    try subst e
    cases hok
    exact cr_i hx hb hr hlocks hQ dX9_does_250 hP hS
  replace hok := g_neg hok c5
  by_cases c6 : x1 = 104
  · replace hok := g_pos hok c6
    have e9 : (x1).toInt = 104 := by rw [c6]; rfl
    refine lv_tableIn (tgt := 240) (off := 239) hx hb dX9_does_1 (by rw [e9]; decide) (by rw [e9]; decide) (by rw [e9]; rfl) (by decide) ?_
    refine lv_aload_n hx hb dX9_does_240 rfl (lv_at hl 0 rfl) ?_
    refine lv_aload_n hx hb dX9_does_241 rfl (lv_at hl 0 rfl) ?_
    refine va_get (ci := 9) (v := .ref h0_told) (C := RX9) (T := TX9) (N := 49) hx hb hts hinX9 hown hK hP 0 rfl rfl 46 (by decide) (hts _ (List.mem_of_getElem? (i := 1) rfl)) (fun _ h9 => h9) rfl dX9_does_242 ?_
    refine lv_iconst (v := 0) hx hb dX9_does_245 (by decide) ?_
    refine x_iald (k := 0) hx hb hK hP 17 0 rfl rfl (show ¬ ((0:Int32) < 0 ∨ 2 ≤ (0:Int32).toNatClampNeg) by decide) (by decide) dX9_does_246 ?_
    obtain ⟨r51, o52, o53, o54, o55, o56, o57, o58, o59, o60, hq, hok⟩ := g_bnd10 hok
    refine cG (is := [0, 1, 15, 16]) (wc := (wm_X9_step cA h0 h0_g h0_p h0_causes h0_kept h0_changed h0_rows h0_sorts h0_sizes h0_moved h0_outs h0_losses h0_levelOf h0_levelOften h0_to h0_round h0_tail h0_path h0_leastOn h0_period h0_amplitude h0_basin h0_numbered h0_isReached h0_tape h0_told h0_traced s0__isKept s0__done s0__undoable s0__redoable s0__all s0__v s0__loss s0__isOver s0__hasCauses s0__outMany s0__overMany s0__isHalted s0__levelMany s0__rounds s0__stuck s0__onRounds s0__longest s0__loudest s0__reached s0__isAnyOver s0__taped s0__at s0__ran s0_g s0_p s0_causes)) (w1 := (wm_X9_step cA h0 h0_g h0_p h0_causes h0_kept h0_changed h0_rows h0_sorts h0_sizes h0_moved h0_outs h0_losses h0_levelOf h0_levelOften h0_to h0_round h0_tail h0_path h0_leastOn h0_period h0_amplitude h0_basin h0_numbered h0_isReached h0_tape h0_told h0_traced s0__isKept o52 s0__undoable s0__redoable o53 o54 o55 o56 o57 s0__outMany s0__overMany s0__isHalted s0__levelMany s0__rounds s0__stuck s0__onRounds s0__longest s0__loudest s0__reached s0__isAnyOver s0__taped s0__at s0__ran o58 o59 o60)) (rv := (some (.int r51))) (st1 := [.int r51]) (va_runV (Ts := wsX9_does) (As := [.int (s0_told 0)]) (rest := []) ⟨hx, hb, hml, hown, hts⟩ (c_X9_step l G cA ts h0 h0_g h0_p h0_causes h0_kept h0_changed h0_rows h0_sorts h0_sizes h0_moved h0_outs h0_losses h0_levelOf h0_levelOften h0_to h0_round h0_tail h0_path h0_leastOn h0_period h0_amplitude h0_basin h0_numbered h0_isReached h0_tape h0_told h0_traced (s0_told 0) s0__isKept s0__done s0__undoable s0__redoable s0__all s0__v s0__loss s0__isOver s0__hasCauses s0__outMany s0__overMany s0__isHalted s0__levelMany s0__rounds s0__stuck s0__onRounds s0__longest s0__loudest s0__reached s0__isAnyOver s0__taped s0__at s0__ran s0_g s0_p s0_causes r51 o52 o53 o54 o55 o56 o57 o58 o59 o60 hq s.heap.size) (cwV 1 hts gX9_does_X9_step rfl rfl rfl (by decide +kernel) ⟨Nat.le_of_ble_eq_true rfl, Nat.le_of_ble_eq_true rfl⟩) (pre_V (ci := 9) (q0 := 0) (is := [0, 1, 15, 16]) rfl rfl hP hD hS hA hK hZ (by decide +kernel) (by rfl)) rfl rfl hl.1 rfl (by exact lv_room (Nat.le_of_ble_eq_true rfl)) dX9_does_247 ⟨Nat.le_refl _, Nat.le_refl _⟩) hP hD hS hA (by decide +kernel) (by rfl) (by rfl) rfl (fun H locs hP hD hS => ?_)
    have hP : va_P G vwCl (wm_X9_does cA h0 h0_g h0_changed h0_changed_e h0_p h0_causes h0_told h0_kept h0_rows h0_sorts h0_sizes h0_moved h0_outs h0_losses h0_levelOf h0_levelOften h0_to h0_round h0_tail h0_path h0_leastOn h0_period h0_amplitude h0_basin h0_numbered h0_isReached h0_tape h0_traced s0__isKept o52 s0__undoable s0__redoable o53 o54 o55 o56 o57 s0__outMany s0__overMany s0__isHalted s0__levelMany s0__rounds s0__stuck s0__onRounds s0__longest s0__loudest s0__reached s0__isAnyOver s0__taped s0__at s0__ran o58 s0_changed_e o59 o60 s0_told) H := hP
    have hD : va_D A (wm_X9_does cA h0 h0_g h0_changed h0_changed_e h0_p h0_causes h0_told h0_kept h0_rows h0_sorts h0_sizes h0_moved h0_outs h0_losses h0_levelOf h0_levelOften h0_to h0_round h0_tail h0_path h0_leastOn h0_period h0_amplitude h0_basin h0_numbered h0_isReached h0_tape h0_traced s0__isKept o52 s0__undoable s0__redoable o53 o54 o55 o56 o57 s0__outMany s0__overMany s0__isHalted s0__levelMany s0__rounds s0__stuck s0__onRounds s0__longest s0__loudest s0__reached s0__isAnyOver s0__taped s0__at s0__ran o58 s0_changed_e o59 o60 s0_told) := hD
    obtain ⟨e, hok⟩ := g_pr hok
    try subst e
    obtain ⟨e, hok⟩ := g_pr hok
    try subst e
    obtain ⟨e, hok⟩ := g_pr hok
    try subst e
    obtain ⟨e, hok⟩ := g_pr hok
    try subst e
    obtain ⟨e, hok⟩ := g_pr hok
    try subst e
    obtain ⟨e, hok⟩ := g_pr hok
    try subst e
    obtain ⟨e, hok⟩ := g_pr hok
    try subst e
    obtain ⟨e, hok⟩ := g_pr hok
    try subst e
    obtain ⟨e, hok⟩ := g_pr hok
    try subst e
    obtain ⟨e, hok⟩ := g_pr hok
    try subst e
    obtain ⟨e, hok⟩ := g_pr hok
    try subst e
    obtain ⟨e, hok⟩ := g_pr hok
    try subst e
    cases hok
    exact cr_i hx hb hr hlocks hQ dX9_does_250 hP hS
  replace hok := g_neg hok c6
  by_cases c7 : x1 = 105
  · replace hok := g_pos hok c7
    have e9 : (x1).toInt = 105 := by rw [c7]; rfl
    refine lv_tableIn (tgt := 156) (off := 155) hx hb dX9_does_1 (by rw [e9]; decide) (by rw [e9]; decide) (by rw [e9]; rfl) (by decide) ?_
    refine lv_aload_n hx hb dX9_does_156 rfl (lv_at hl 0 rfl) ?_
    refine lv_iconst (v := 3) hx hb dX9_does_157 (by decide) ?_
    refine lv_iconst (v := 0) hx hb dX9_does_158 (by decide) ?_
    refine lv_aload_n hx hb dX9_does_159 rfl (lv_at hl 0 rfl) ?_
    refine va_get (ci := 9) (v := .ref h0_told) (C := RX9) (T := TX9) (N := 49) hx hb hts hinX9 hown hK hP 0 rfl rfl 46 (by decide) (hts _ (List.mem_of_getElem? (i := 1) rfl)) (fun _ h9 => h9) rfl dX9_does_160 ?_
    refine lv_iconst (v := 0) hx hb dX9_does_163 (by decide) ?_
    refine x_iald (k := 0) hx hb hK hP 17 0 rfl rfl (show ¬ ((0:Int32) < 0 ∨ 2 ≤ (0:Int32).toNatClampNeg) by decide) (by decide) dX9_does_164 ?_
    obtain ⟨r61, o62, o63, o64, o65, hq, hok⟩ := g_bnd5 hok
    refine cG (is := [0, 1, 2, 3, 4, 5, 6, 7, 8, 9, 10, 11, 12, 13, 14]) (wc := (wm_X9_set cA h0 h0_g h0_changed h0_changed_e h0_kept h0_p h0_causes h0_rows h0_sorts h0_sizes h0_moved h0_outs h0_losses h0_levelOf h0_levelOften h0_to h0_round h0_tail h0_path h0_leastOn h0_period h0_amplitude h0_basin h0_numbered h0_isReached h0_tape h0_told h0_traced s0__isKept s0__done s0__undoable s0__redoable s0__all s0__v s0__loss s0__isOver s0__hasCauses s0__outMany s0__overMany s0__isHalted s0__levelMany s0__rounds s0__stuck s0__onRounds s0__longest s0__loudest s0__reached s0__isAnyOver s0__taped s0__at s0__ran s0_g s0_changed_e)) (w1 := (wm_X9_set cA h0 h0_g h0_changed h0_changed_e h0_kept h0_p h0_causes h0_rows h0_sorts h0_sizes h0_moved h0_outs h0_losses h0_levelOf h0_levelOften h0_to h0_round h0_tail h0_path h0_leastOn h0_period h0_amplitude h0_basin h0_numbered h0_isReached h0_tape h0_told h0_traced s0__isKept s0__done o62 o63 s0__all s0__v s0__loss s0__isOver s0__hasCauses s0__outMany s0__overMany s0__isHalted s0__levelMany s0__rounds s0__stuck s0__onRounds s0__longest s0__loudest s0__reached s0__isAnyOver s0__taped s0__at s0__ran o64 o65)) (rv := (some (.int r61))) (st1 := [.int r61]) (va_runV (Ts := wsX9_does) (As := [.int (3:Int32), .int (0:Int32), .int (s0_told 0)]) (rest := []) ⟨hx, hb, hml, hown, hts⟩ (c_X9_set l G cA ts h0 h0_g h0_changed h0_changed_e h0_kept h0_p h0_causes h0_rows h0_sorts h0_sizes h0_moved h0_outs h0_losses h0_levelOf h0_levelOften h0_to h0_round h0_tail h0_path h0_leastOn h0_period h0_amplitude h0_basin h0_numbered h0_isReached h0_tape h0_told h0_traced (3:Int32) (0:Int32) (s0_told 0) s0__isKept s0__done s0__undoable s0__redoable s0__all s0__v s0__loss s0__isOver s0__hasCauses s0__outMany s0__overMany s0__isHalted s0__levelMany s0__rounds s0__stuck s0__onRounds s0__longest s0__loudest s0__reached s0__isAnyOver s0__taped s0__at s0__ran s0_g s0_changed_e r61 o62 o63 o64 o65 hq s.heap.size) (cwV 3 hts gX9_does_X9_set rfl rfl rfl (by decide +kernel) ⟨Nat.le_of_ble_eq_true rfl, Nat.le_of_ble_eq_true rfl⟩) (pre_V (ci := 9) (q0 := 0) (is := [0, 1, 2, 3, 4, 5, 6, 7, 8, 9, 10, 11, 12, 13, 14]) rfl rfl hP hD hS hA hK hZ (by decide +kernel) (by rfl)) rfl rfl hl.1 rfl (by exact lv_room (Nat.le_of_ble_eq_true rfl)) dX9_does_165 ⟨Nat.le_refl _, Nat.le_refl _⟩) hP hD hS hA (by decide +kernel) (by rfl) (by rfl) rfl (fun H locs hP hD hS => ?_)
    obtain ⟨hP, hD⟩ : va_P G vwCl (wm_X9_does cA h0 h0_g h0_changed h0_changed_e h0_p h0_causes h0_told h0_kept h0_rows h0_sorts h0_sizes h0_moved h0_outs h0_losses h0_levelOf h0_levelOften h0_to h0_round h0_tail h0_path h0_leastOn h0_period h0_amplitude h0_basin h0_numbered h0_isReached h0_tape h0_traced s0__isKept s0__done o62 o63 s0__all s0__v s0__loss s0__isOver s0__hasCauses s0__outMany s0__overMany s0__isHalted s0__levelMany s0__rounds s0__stuck s0__onRounds s0__longest s0__loudest s0__reached s0__isAnyOver s0__taped s0__at s0__ran o64 o65 s0_p s0_causes s0_told) H ∧ va_D A (wm_X9_does cA h0 h0_g h0_changed h0_changed_e h0_p h0_causes h0_told h0_kept h0_rows h0_sorts h0_sizes h0_moved h0_outs h0_losses h0_levelOf h0_levelOften h0_to h0_round h0_tail h0_path h0_leastOn h0_period h0_amplitude h0_basin h0_numbered h0_isReached h0_tape h0_traced s0__isKept s0__done o62 o63 s0__all s0__v s0__loss s0__isOver s0__hasCauses s0__outMany s0__overMany s0__isHalted s0__levelMany s0__rounds s0__stuck s0__onRounds s0__longest s0__loudest s0__reached s0__isAnyOver s0__taped s0__at s0__ran o64 o65 s0_p s0_causes s0_told) := PD_eq hP hD (rp_eq (js := [15, 16, 17]) 18 (by decide +kernel) rfl rfl (by rfl) (by rfl) (by decide +kernel))
    obtain ⟨e, hok⟩ := g_pr hok
    try subst e
    obtain ⟨e, hok⟩ := g_pr hok
    try subst e
    obtain ⟨e, hok⟩ := g_pr hok
    try subst e
    obtain ⟨e, hok⟩ := g_pr hok
    try subst e
    obtain ⟨e, hok⟩ := g_pr hok
    try subst e
    obtain ⟨e, hok⟩ := g_pr hok
    try subst e
    obtain ⟨e, hok⟩ := g_pr hok
    try subst e
    obtain ⟨e, hok⟩ := g_pr hok
    try subst e
    obtain ⟨e, hok⟩ := g_pr hok
    try subst e
    obtain ⟨e, hok⟩ := g_pr hok
    try subst e
    obtain ⟨e, hok⟩ := g_pr hok
    try subst e
    obtain ⟨e, hok⟩ := g_pr hok
    try subst e
    cases hok
    exact cr_i hx hb hr hlocks hQ dX9_does_168 hP hS
  replace hok := g_neg hok c7
  by_cases c8 : x1 = 106
  · replace hok := g_pos hok c8
    have e9 : (x1).toInt = 106 := by rw [c8]; rfl
    refine lv_tableIn (tgt := 240) (off := 239) hx hb dX9_does_1 (by rw [e9]; decide) (by rw [e9]; decide) (by rw [e9]; rfl) (by decide) ?_
    refine lv_aload_n hx hb dX9_does_240 rfl (lv_at hl 0 rfl) ?_
    refine lv_aload_n hx hb dX9_does_241 rfl (lv_at hl 0 rfl) ?_
    refine va_get (ci := 9) (v := .ref h0_told) (C := RX9) (T := TX9) (N := 49) hx hb hts hinX9 hown hK hP 0 rfl rfl 46 (by decide) (hts _ (List.mem_of_getElem? (i := 1) rfl)) (fun _ h9 => h9) rfl dX9_does_242 ?_
    refine lv_iconst (v := 0) hx hb dX9_does_245 (by decide) ?_
    refine x_iald (k := 0) hx hb hK hP 17 0 rfl rfl (show ¬ ((0:Int32) < 0 ∨ 2 ≤ (0:Int32).toNatClampNeg) by decide) (by decide) dX9_does_246 ?_
    obtain ⟨r66, o67, o68, o69, o70, o71, o72, o73, o74, o75, hq, hok⟩ := g_bnd10 hok
    refine cG (is := [0, 1, 15, 16]) (wc := (wm_X9_step cA h0 h0_g h0_p h0_causes h0_kept h0_changed h0_rows h0_sorts h0_sizes h0_moved h0_outs h0_losses h0_levelOf h0_levelOften h0_to h0_round h0_tail h0_path h0_leastOn h0_period h0_amplitude h0_basin h0_numbered h0_isReached h0_tape h0_told h0_traced s0__isKept s0__done s0__undoable s0__redoable s0__all s0__v s0__loss s0__isOver s0__hasCauses s0__outMany s0__overMany s0__isHalted s0__levelMany s0__rounds s0__stuck s0__onRounds s0__longest s0__loudest s0__reached s0__isAnyOver s0__taped s0__at s0__ran s0_g s0_p s0_causes)) (w1 := (wm_X9_step cA h0 h0_g h0_p h0_causes h0_kept h0_changed h0_rows h0_sorts h0_sizes h0_moved h0_outs h0_losses h0_levelOf h0_levelOften h0_to h0_round h0_tail h0_path h0_leastOn h0_period h0_amplitude h0_basin h0_numbered h0_isReached h0_tape h0_told h0_traced s0__isKept o67 s0__undoable s0__redoable o68 o69 o70 o71 o72 s0__outMany s0__overMany s0__isHalted s0__levelMany s0__rounds s0__stuck s0__onRounds s0__longest s0__loudest s0__reached s0__isAnyOver s0__taped s0__at s0__ran o73 o74 o75)) (rv := (some (.int r66))) (st1 := [.int r66]) (va_runV (Ts := wsX9_does) (As := [.int (s0_told 0)]) (rest := []) ⟨hx, hb, hml, hown, hts⟩ (c_X9_step l G cA ts h0 h0_g h0_p h0_causes h0_kept h0_changed h0_rows h0_sorts h0_sizes h0_moved h0_outs h0_losses h0_levelOf h0_levelOften h0_to h0_round h0_tail h0_path h0_leastOn h0_period h0_amplitude h0_basin h0_numbered h0_isReached h0_tape h0_told h0_traced (s0_told 0) s0__isKept s0__done s0__undoable s0__redoable s0__all s0__v s0__loss s0__isOver s0__hasCauses s0__outMany s0__overMany s0__isHalted s0__levelMany s0__rounds s0__stuck s0__onRounds s0__longest s0__loudest s0__reached s0__isAnyOver s0__taped s0__at s0__ran s0_g s0_p s0_causes r66 o67 o68 o69 o70 o71 o72 o73 o74 o75 hq s.heap.size) (cwV 1 hts gX9_does_X9_step rfl rfl rfl (by decide +kernel) ⟨Nat.le_of_ble_eq_true rfl, Nat.le_of_ble_eq_true rfl⟩) (pre_V (ci := 9) (q0 := 0) (is := [0, 1, 15, 16]) rfl rfl hP hD hS hA hK hZ (by decide +kernel) (by rfl)) rfl rfl hl.1 rfl (by exact lv_room (Nat.le_of_ble_eq_true rfl)) dX9_does_247 ⟨Nat.le_refl _, Nat.le_refl _⟩) hP hD hS hA (by decide +kernel) (by rfl) (by rfl) rfl (fun H locs hP hD hS => ?_)
    have hP : va_P G vwCl (wm_X9_does cA h0 h0_g h0_changed h0_changed_e h0_p h0_causes h0_told h0_kept h0_rows h0_sorts h0_sizes h0_moved h0_outs h0_losses h0_levelOf h0_levelOften h0_to h0_round h0_tail h0_path h0_leastOn h0_period h0_amplitude h0_basin h0_numbered h0_isReached h0_tape h0_traced s0__isKept o67 s0__undoable s0__redoable o68 o69 o70 o71 o72 s0__outMany s0__overMany s0__isHalted s0__levelMany s0__rounds s0__stuck s0__onRounds s0__longest s0__loudest s0__reached s0__isAnyOver s0__taped s0__at s0__ran o73 s0_changed_e o74 o75 s0_told) H := hP
    have hD : va_D A (wm_X9_does cA h0 h0_g h0_changed h0_changed_e h0_p h0_causes h0_told h0_kept h0_rows h0_sorts h0_sizes h0_moved h0_outs h0_losses h0_levelOf h0_levelOften h0_to h0_round h0_tail h0_path h0_leastOn h0_period h0_amplitude h0_basin h0_numbered h0_isReached h0_tape h0_traced s0__isKept o67 s0__undoable s0__redoable o68 o69 o70 o71 o72 s0__outMany s0__overMany s0__isHalted s0__levelMany s0__rounds s0__stuck s0__onRounds s0__longest s0__loudest s0__reached s0__isAnyOver s0__taped s0__at s0__ran o73 s0_changed_e o74 o75 s0_told) := hD
    obtain ⟨e, hok⟩ := g_pr hok
    try subst e
    obtain ⟨e, hok⟩ := g_pr hok
    try subst e
    obtain ⟨e, hok⟩ := g_pr hok
    try subst e
    obtain ⟨e, hok⟩ := g_pr hok
    try subst e
    obtain ⟨e, hok⟩ := g_pr hok
    try subst e
    obtain ⟨e, hok⟩ := g_pr hok
    try subst e
    obtain ⟨e, hok⟩ := g_pr hok
    try subst e
    obtain ⟨e, hok⟩ := g_pr hok
    try subst e
    obtain ⟨e, hok⟩ := g_pr hok
    try subst e
    obtain ⟨e, hok⟩ := g_pr hok
    try subst e
    obtain ⟨e, hok⟩ := g_pr hok
    try subst e
    obtain ⟨e, hok⟩ := g_pr hok
    try subst e
    cases hok
    exact cr_i hx hb hr hlocks hQ dX9_does_250 hP hS
  replace hok := g_neg hok c8
  by_cases c9 : x1 = 107
  · replace hok := g_pos hok c9
    have e9 : (x1).toInt = 107 := by rw [c9]; rfl
    refine lv_tableIn (tgt := 240) (off := 239) hx hb dX9_does_1 (by rw [e9]; decide) (by rw [e9]; decide) (by rw [e9]; rfl) (by decide) ?_
    refine lv_aload_n hx hb dX9_does_240 rfl (lv_at hl 0 rfl) ?_
    refine lv_aload_n hx hb dX9_does_241 rfl (lv_at hl 0 rfl) ?_
    refine va_get (ci := 9) (v := .ref h0_told) (C := RX9) (T := TX9) (N := 49) hx hb hts hinX9 hown hK hP 0 rfl rfl 46 (by decide) (hts _ (List.mem_of_getElem? (i := 1) rfl)) (fun _ h9 => h9) rfl dX9_does_242 ?_
    refine lv_iconst (v := 0) hx hb dX9_does_245 (by decide) ?_
    refine x_iald (k := 0) hx hb hK hP 17 0 rfl rfl (show ¬ ((0:Int32) < 0 ∨ 2 ≤ (0:Int32).toNatClampNeg) by decide) (by decide) dX9_does_246 ?_
    obtain ⟨r76, o77, o78, o79, o80, o81, o82, o83, o84, o85, hq, hok⟩ := g_bnd10 hok
    refine cG (is := [0, 1, 15, 16]) (wc := (wm_X9_step cA h0 h0_g h0_p h0_causes h0_kept h0_changed h0_rows h0_sorts h0_sizes h0_moved h0_outs h0_losses h0_levelOf h0_levelOften h0_to h0_round h0_tail h0_path h0_leastOn h0_period h0_amplitude h0_basin h0_numbered h0_isReached h0_tape h0_told h0_traced s0__isKept s0__done s0__undoable s0__redoable s0__all s0__v s0__loss s0__isOver s0__hasCauses s0__outMany s0__overMany s0__isHalted s0__levelMany s0__rounds s0__stuck s0__onRounds s0__longest s0__loudest s0__reached s0__isAnyOver s0__taped s0__at s0__ran s0_g s0_p s0_causes)) (w1 := (wm_X9_step cA h0 h0_g h0_p h0_causes h0_kept h0_changed h0_rows h0_sorts h0_sizes h0_moved h0_outs h0_losses h0_levelOf h0_levelOften h0_to h0_round h0_tail h0_path h0_leastOn h0_period h0_amplitude h0_basin h0_numbered h0_isReached h0_tape h0_told h0_traced s0__isKept o77 s0__undoable s0__redoable o78 o79 o80 o81 o82 s0__outMany s0__overMany s0__isHalted s0__levelMany s0__rounds s0__stuck s0__onRounds s0__longest s0__loudest s0__reached s0__isAnyOver s0__taped s0__at s0__ran o83 o84 o85)) (rv := (some (.int r76))) (st1 := [.int r76]) (va_runV (Ts := wsX9_does) (As := [.int (s0_told 0)]) (rest := []) ⟨hx, hb, hml, hown, hts⟩ (c_X9_step l G cA ts h0 h0_g h0_p h0_causes h0_kept h0_changed h0_rows h0_sorts h0_sizes h0_moved h0_outs h0_losses h0_levelOf h0_levelOften h0_to h0_round h0_tail h0_path h0_leastOn h0_period h0_amplitude h0_basin h0_numbered h0_isReached h0_tape h0_told h0_traced (s0_told 0) s0__isKept s0__done s0__undoable s0__redoable s0__all s0__v s0__loss s0__isOver s0__hasCauses s0__outMany s0__overMany s0__isHalted s0__levelMany s0__rounds s0__stuck s0__onRounds s0__longest s0__loudest s0__reached s0__isAnyOver s0__taped s0__at s0__ran s0_g s0_p s0_causes r76 o77 o78 o79 o80 o81 o82 o83 o84 o85 hq s.heap.size) (cwV 1 hts gX9_does_X9_step rfl rfl rfl (by decide +kernel) ⟨Nat.le_of_ble_eq_true rfl, Nat.le_of_ble_eq_true rfl⟩) (pre_V (ci := 9) (q0 := 0) (is := [0, 1, 15, 16]) rfl rfl hP hD hS hA hK hZ (by decide +kernel) (by rfl)) rfl rfl hl.1 rfl (by exact lv_room (Nat.le_of_ble_eq_true rfl)) dX9_does_247 ⟨Nat.le_refl _, Nat.le_refl _⟩) hP hD hS hA (by decide +kernel) (by rfl) (by rfl) rfl (fun H locs hP hD hS => ?_)
    have hP : va_P G vwCl (wm_X9_does cA h0 h0_g h0_changed h0_changed_e h0_p h0_causes h0_told h0_kept h0_rows h0_sorts h0_sizes h0_moved h0_outs h0_losses h0_levelOf h0_levelOften h0_to h0_round h0_tail h0_path h0_leastOn h0_period h0_amplitude h0_basin h0_numbered h0_isReached h0_tape h0_traced s0__isKept o77 s0__undoable s0__redoable o78 o79 o80 o81 o82 s0__outMany s0__overMany s0__isHalted s0__levelMany s0__rounds s0__stuck s0__onRounds s0__longest s0__loudest s0__reached s0__isAnyOver s0__taped s0__at s0__ran o83 s0_changed_e o84 o85 s0_told) H := hP
    have hD : va_D A (wm_X9_does cA h0 h0_g h0_changed h0_changed_e h0_p h0_causes h0_told h0_kept h0_rows h0_sorts h0_sizes h0_moved h0_outs h0_losses h0_levelOf h0_levelOften h0_to h0_round h0_tail h0_path h0_leastOn h0_period h0_amplitude h0_basin h0_numbered h0_isReached h0_tape h0_traced s0__isKept o77 s0__undoable s0__redoable o78 o79 o80 o81 o82 s0__outMany s0__overMany s0__isHalted s0__levelMany s0__rounds s0__stuck s0__onRounds s0__longest s0__loudest s0__reached s0__isAnyOver s0__taped s0__at s0__ran o83 s0_changed_e o84 o85 s0_told) := hD
    obtain ⟨e, hok⟩ := g_pr hok
    try subst e
    obtain ⟨e, hok⟩ := g_pr hok
    try subst e
    obtain ⟨e, hok⟩ := g_pr hok
    try subst e
    obtain ⟨e, hok⟩ := g_pr hok
    try subst e
    obtain ⟨e, hok⟩ := g_pr hok
    try subst e
    obtain ⟨e, hok⟩ := g_pr hok
    try subst e
    obtain ⟨e, hok⟩ := g_pr hok
    try subst e
    obtain ⟨e, hok⟩ := g_pr hok
    try subst e
    obtain ⟨e, hok⟩ := g_pr hok
    try subst e
    obtain ⟨e, hok⟩ := g_pr hok
    try subst e
    obtain ⟨e, hok⟩ := g_pr hok
    try subst e
    obtain ⟨e, hok⟩ := g_pr hok
    try subst e
    cases hok
    exact cr_i hx hb hr hlocks hQ dX9_does_250 hP hS
  replace hok := g_neg hok c9
  by_cases c10 : x1 = 108
  · replace hok := g_pos hok c10
    have e9 : (x1).toInt = 108 := by rw [c10]; rfl
    refine lv_tableIn (tgt := 240) (off := 239) hx hb dX9_does_1 (by rw [e9]; decide) (by rw [e9]; decide) (by rw [e9]; rfl) (by decide) ?_
    refine lv_aload_n hx hb dX9_does_240 rfl (lv_at hl 0 rfl) ?_
    refine lv_aload_n hx hb dX9_does_241 rfl (lv_at hl 0 rfl) ?_
    refine va_get (ci := 9) (v := .ref h0_told) (C := RX9) (T := TX9) (N := 49) hx hb hts hinX9 hown hK hP 0 rfl rfl 46 (by decide) (hts _ (List.mem_of_getElem? (i := 1) rfl)) (fun _ h9 => h9) rfl dX9_does_242 ?_
    refine lv_iconst (v := 0) hx hb dX9_does_245 (by decide) ?_
    refine x_iald (k := 0) hx hb hK hP 17 0 rfl rfl (show ¬ ((0:Int32) < 0 ∨ 2 ≤ (0:Int32).toNatClampNeg) by decide) (by decide) dX9_does_246 ?_
    obtain ⟨r86, o87, o88, o89, o90, o91, o92, o93, o94, o95, hq, hok⟩ := g_bnd10 hok
    refine cG (is := [0, 1, 15, 16]) (wc := (wm_X9_step cA h0 h0_g h0_p h0_causes h0_kept h0_changed h0_rows h0_sorts h0_sizes h0_moved h0_outs h0_losses h0_levelOf h0_levelOften h0_to h0_round h0_tail h0_path h0_leastOn h0_period h0_amplitude h0_basin h0_numbered h0_isReached h0_tape h0_told h0_traced s0__isKept s0__done s0__undoable s0__redoable s0__all s0__v s0__loss s0__isOver s0__hasCauses s0__outMany s0__overMany s0__isHalted s0__levelMany s0__rounds s0__stuck s0__onRounds s0__longest s0__loudest s0__reached s0__isAnyOver s0__taped s0__at s0__ran s0_g s0_p s0_causes)) (w1 := (wm_X9_step cA h0 h0_g h0_p h0_causes h0_kept h0_changed h0_rows h0_sorts h0_sizes h0_moved h0_outs h0_losses h0_levelOf h0_levelOften h0_to h0_round h0_tail h0_path h0_leastOn h0_period h0_amplitude h0_basin h0_numbered h0_isReached h0_tape h0_told h0_traced s0__isKept o87 s0__undoable s0__redoable o88 o89 o90 o91 o92 s0__outMany s0__overMany s0__isHalted s0__levelMany s0__rounds s0__stuck s0__onRounds s0__longest s0__loudest s0__reached s0__isAnyOver s0__taped s0__at s0__ran o93 o94 o95)) (rv := (some (.int r86))) (st1 := [.int r86]) (va_runV (Ts := wsX9_does) (As := [.int (s0_told 0)]) (rest := []) ⟨hx, hb, hml, hown, hts⟩ (c_X9_step l G cA ts h0 h0_g h0_p h0_causes h0_kept h0_changed h0_rows h0_sorts h0_sizes h0_moved h0_outs h0_losses h0_levelOf h0_levelOften h0_to h0_round h0_tail h0_path h0_leastOn h0_period h0_amplitude h0_basin h0_numbered h0_isReached h0_tape h0_told h0_traced (s0_told 0) s0__isKept s0__done s0__undoable s0__redoable s0__all s0__v s0__loss s0__isOver s0__hasCauses s0__outMany s0__overMany s0__isHalted s0__levelMany s0__rounds s0__stuck s0__onRounds s0__longest s0__loudest s0__reached s0__isAnyOver s0__taped s0__at s0__ran s0_g s0_p s0_causes r86 o87 o88 o89 o90 o91 o92 o93 o94 o95 hq s.heap.size) (cwV 1 hts gX9_does_X9_step rfl rfl rfl (by decide +kernel) ⟨Nat.le_of_ble_eq_true rfl, Nat.le_of_ble_eq_true rfl⟩) (pre_V (ci := 9) (q0 := 0) (is := [0, 1, 15, 16]) rfl rfl hP hD hS hA hK hZ (by decide +kernel) (by rfl)) rfl rfl hl.1 rfl (by exact lv_room (Nat.le_of_ble_eq_true rfl)) dX9_does_247 ⟨Nat.le_refl _, Nat.le_refl _⟩) hP hD hS hA (by decide +kernel) (by rfl) (by rfl) rfl (fun H locs hP hD hS => ?_)
    have hP : va_P G vwCl (wm_X9_does cA h0 h0_g h0_changed h0_changed_e h0_p h0_causes h0_told h0_kept h0_rows h0_sorts h0_sizes h0_moved h0_outs h0_losses h0_levelOf h0_levelOften h0_to h0_round h0_tail h0_path h0_leastOn h0_period h0_amplitude h0_basin h0_numbered h0_isReached h0_tape h0_traced s0__isKept o87 s0__undoable s0__redoable o88 o89 o90 o91 o92 s0__outMany s0__overMany s0__isHalted s0__levelMany s0__rounds s0__stuck s0__onRounds s0__longest s0__loudest s0__reached s0__isAnyOver s0__taped s0__at s0__ran o93 s0_changed_e o94 o95 s0_told) H := hP
    have hD : va_D A (wm_X9_does cA h0 h0_g h0_changed h0_changed_e h0_p h0_causes h0_told h0_kept h0_rows h0_sorts h0_sizes h0_moved h0_outs h0_losses h0_levelOf h0_levelOften h0_to h0_round h0_tail h0_path h0_leastOn h0_period h0_amplitude h0_basin h0_numbered h0_isReached h0_tape h0_traced s0__isKept o87 s0__undoable s0__redoable o88 o89 o90 o91 o92 s0__outMany s0__overMany s0__isHalted s0__levelMany s0__rounds s0__stuck s0__onRounds s0__longest s0__loudest s0__reached s0__isAnyOver s0__taped s0__at s0__ran o93 s0_changed_e o94 o95 s0_told) := hD
    obtain ⟨e, hok⟩ := g_pr hok
    try subst e
    obtain ⟨e, hok⟩ := g_pr hok
    try subst e
    obtain ⟨e, hok⟩ := g_pr hok
    try subst e
    obtain ⟨e, hok⟩ := g_pr hok
    try subst e
    obtain ⟨e, hok⟩ := g_pr hok
    try subst e
    obtain ⟨e, hok⟩ := g_pr hok
    try subst e
    obtain ⟨e, hok⟩ := g_pr hok
    try subst e
    obtain ⟨e, hok⟩ := g_pr hok
    try subst e
    obtain ⟨e, hok⟩ := g_pr hok
    try subst e
    obtain ⟨e, hok⟩ := g_pr hok
    try subst e
    obtain ⟨e, hok⟩ := g_pr hok
    try subst e
    obtain ⟨e, hok⟩ := g_pr hok
    try subst e
    cases hok
    exact cr_i hx hb hr hlocks hQ dX9_does_250 hP hS
  replace hok := g_neg hok c10
  by_cases c11 : x1 = 109
  · replace hok := g_pos hok c11
    have e9 : (x1).toInt = 109 := by rw [c11]; rfl
    refine lv_tableIn (tgt := 240) (off := 239) hx hb dX9_does_1 (by rw [e9]; decide) (by rw [e9]; decide) (by rw [e9]; rfl) (by decide) ?_
    refine lv_aload_n hx hb dX9_does_240 rfl (lv_at hl 0 rfl) ?_
    refine lv_aload_n hx hb dX9_does_241 rfl (lv_at hl 0 rfl) ?_
    refine va_get (ci := 9) (v := .ref h0_told) (C := RX9) (T := TX9) (N := 49) hx hb hts hinX9 hown hK hP 0 rfl rfl 46 (by decide) (hts _ (List.mem_of_getElem? (i := 1) rfl)) (fun _ h9 => h9) rfl dX9_does_242 ?_
    refine lv_iconst (v := 0) hx hb dX9_does_245 (by decide) ?_
    refine x_iald (k := 0) hx hb hK hP 17 0 rfl rfl (show ¬ ((0:Int32) < 0 ∨ 2 ≤ (0:Int32).toNatClampNeg) by decide) (by decide) dX9_does_246 ?_
    obtain ⟨r96, o97, o98, o99, o100, o101, o102, o103, o104, o105, hq, hok⟩ := g_bnd10 hok
    refine cG (is := [0, 1, 15, 16]) (wc := (wm_X9_step cA h0 h0_g h0_p h0_causes h0_kept h0_changed h0_rows h0_sorts h0_sizes h0_moved h0_outs h0_losses h0_levelOf h0_levelOften h0_to h0_round h0_tail h0_path h0_leastOn h0_period h0_amplitude h0_basin h0_numbered h0_isReached h0_tape h0_told h0_traced s0__isKept s0__done s0__undoable s0__redoable s0__all s0__v s0__loss s0__isOver s0__hasCauses s0__outMany s0__overMany s0__isHalted s0__levelMany s0__rounds s0__stuck s0__onRounds s0__longest s0__loudest s0__reached s0__isAnyOver s0__taped s0__at s0__ran s0_g s0_p s0_causes)) (w1 := (wm_X9_step cA h0 h0_g h0_p h0_causes h0_kept h0_changed h0_rows h0_sorts h0_sizes h0_moved h0_outs h0_losses h0_levelOf h0_levelOften h0_to h0_round h0_tail h0_path h0_leastOn h0_period h0_amplitude h0_basin h0_numbered h0_isReached h0_tape h0_told h0_traced s0__isKept o97 s0__undoable s0__redoable o98 o99 o100 o101 o102 s0__outMany s0__overMany s0__isHalted s0__levelMany s0__rounds s0__stuck s0__onRounds s0__longest s0__loudest s0__reached s0__isAnyOver s0__taped s0__at s0__ran o103 o104 o105)) (rv := (some (.int r96))) (st1 := [.int r96]) (va_runV (Ts := wsX9_does) (As := [.int (s0_told 0)]) (rest := []) ⟨hx, hb, hml, hown, hts⟩ (c_X9_step l G cA ts h0 h0_g h0_p h0_causes h0_kept h0_changed h0_rows h0_sorts h0_sizes h0_moved h0_outs h0_losses h0_levelOf h0_levelOften h0_to h0_round h0_tail h0_path h0_leastOn h0_period h0_amplitude h0_basin h0_numbered h0_isReached h0_tape h0_told h0_traced (s0_told 0) s0__isKept s0__done s0__undoable s0__redoable s0__all s0__v s0__loss s0__isOver s0__hasCauses s0__outMany s0__overMany s0__isHalted s0__levelMany s0__rounds s0__stuck s0__onRounds s0__longest s0__loudest s0__reached s0__isAnyOver s0__taped s0__at s0__ran s0_g s0_p s0_causes r96 o97 o98 o99 o100 o101 o102 o103 o104 o105 hq s.heap.size) (cwV 1 hts gX9_does_X9_step rfl rfl rfl (by decide +kernel) ⟨Nat.le_of_ble_eq_true rfl, Nat.le_of_ble_eq_true rfl⟩) (pre_V (ci := 9) (q0 := 0) (is := [0, 1, 15, 16]) rfl rfl hP hD hS hA hK hZ (by decide +kernel) (by rfl)) rfl rfl hl.1 rfl (by exact lv_room (Nat.le_of_ble_eq_true rfl)) dX9_does_247 ⟨Nat.le_refl _, Nat.le_refl _⟩) hP hD hS hA (by decide +kernel) (by rfl) (by rfl) rfl (fun H locs hP hD hS => ?_)
    have hP : va_P G vwCl (wm_X9_does cA h0 h0_g h0_changed h0_changed_e h0_p h0_causes h0_told h0_kept h0_rows h0_sorts h0_sizes h0_moved h0_outs h0_losses h0_levelOf h0_levelOften h0_to h0_round h0_tail h0_path h0_leastOn h0_period h0_amplitude h0_basin h0_numbered h0_isReached h0_tape h0_traced s0__isKept o97 s0__undoable s0__redoable o98 o99 o100 o101 o102 s0__outMany s0__overMany s0__isHalted s0__levelMany s0__rounds s0__stuck s0__onRounds s0__longest s0__loudest s0__reached s0__isAnyOver s0__taped s0__at s0__ran o103 s0_changed_e o104 o105 s0_told) H := hP
    have hD : va_D A (wm_X9_does cA h0 h0_g h0_changed h0_changed_e h0_p h0_causes h0_told h0_kept h0_rows h0_sorts h0_sizes h0_moved h0_outs h0_losses h0_levelOf h0_levelOften h0_to h0_round h0_tail h0_path h0_leastOn h0_period h0_amplitude h0_basin h0_numbered h0_isReached h0_tape h0_traced s0__isKept o97 s0__undoable s0__redoable o98 o99 o100 o101 o102 s0__outMany s0__overMany s0__isHalted s0__levelMany s0__rounds s0__stuck s0__onRounds s0__longest s0__loudest s0__reached s0__isAnyOver s0__taped s0__at s0__ran o103 s0_changed_e o104 o105 s0_told) := hD
    obtain ⟨e, hok⟩ := g_pr hok
    try subst e
    obtain ⟨e, hok⟩ := g_pr hok
    try subst e
    obtain ⟨e, hok⟩ := g_pr hok
    try subst e
    obtain ⟨e, hok⟩ := g_pr hok
    try subst e
    obtain ⟨e, hok⟩ := g_pr hok
    try subst e
    obtain ⟨e, hok⟩ := g_pr hok
    try subst e
    obtain ⟨e, hok⟩ := g_pr hok
    try subst e
    obtain ⟨e, hok⟩ := g_pr hok
    try subst e
    obtain ⟨e, hok⟩ := g_pr hok
    try subst e
    obtain ⟨e, hok⟩ := g_pr hok
    try subst e
    obtain ⟨e, hok⟩ := g_pr hok
    try subst e
    obtain ⟨e, hok⟩ := g_pr hok
    try subst e
    cases hok
    exact cr_i hx hb hr hlocks hQ dX9_does_250 hP hS
  replace hok := g_neg hok c11
  by_cases c12 : x1 = 110
  · replace hok := g_pos hok c12
    have e9 : (x1).toInt = 110 := by rw [c12]; rfl
    refine lv_tableIn (tgt := 112) (off := 111) hx hb dX9_does_1 (by rw [e9]; decide) (by rw [e9]; decide) (by rw [e9]; rfl) (by decide) ?_
    refine lv_aload_n hx hb dX9_does_112 rfl (lv_at hl 0 rfl) ?_
    refine lv_iconst (v := 0) hx hb dX9_does_113 (by decide) ?_
    refine lv_iconst (v := 0) hx hb dX9_does_114 (by decide) ?_
    refine lv_aload_n hx hb dX9_does_115 rfl (lv_at hl 0 rfl) ?_
    refine va_get (ci := 9) (v := .ref h0_told) (C := RX9) (T := TX9) (N := 49) hx hb hts hinX9 hown hK hP 0 rfl rfl 46 (by decide) (hts _ (List.mem_of_getElem? (i := 1) rfl)) (fun _ h9 => h9) rfl dX9_does_116 ?_
    refine lv_iconst (v := 0) hx hb dX9_does_119 (by decide) ?_
    refine x_iald (k := 0) hx hb hK hP 17 0 rfl rfl (show ¬ ((0:Int32) < 0 ∨ 2 ≤ (0:Int32).toNatClampNeg) by decide) (by decide) dX9_does_120 ?_
    obtain ⟨r106, o107, o108, o109, o110, hq, hok⟩ := g_bnd5 hok
    refine cG (is := [0, 1, 2, 3, 4, 5, 6, 7, 8, 9, 10, 11, 12, 13, 14]) (wc := (wm_X9_set cA h0 h0_g h0_changed h0_changed_e h0_kept h0_p h0_causes h0_rows h0_sorts h0_sizes h0_moved h0_outs h0_losses h0_levelOf h0_levelOften h0_to h0_round h0_tail h0_path h0_leastOn h0_period h0_amplitude h0_basin h0_numbered h0_isReached h0_tape h0_told h0_traced s0__isKept s0__done s0__undoable s0__redoable s0__all s0__v s0__loss s0__isOver s0__hasCauses s0__outMany s0__overMany s0__isHalted s0__levelMany s0__rounds s0__stuck s0__onRounds s0__longest s0__loudest s0__reached s0__isAnyOver s0__taped s0__at s0__ran s0_g s0_changed_e)) (w1 := (wm_X9_set cA h0 h0_g h0_changed h0_changed_e h0_kept h0_p h0_causes h0_rows h0_sorts h0_sizes h0_moved h0_outs h0_losses h0_levelOf h0_levelOften h0_to h0_round h0_tail h0_path h0_leastOn h0_period h0_amplitude h0_basin h0_numbered h0_isReached h0_tape h0_told h0_traced s0__isKept s0__done o107 o108 s0__all s0__v s0__loss s0__isOver s0__hasCauses s0__outMany s0__overMany s0__isHalted s0__levelMany s0__rounds s0__stuck s0__onRounds s0__longest s0__loudest s0__reached s0__isAnyOver s0__taped s0__at s0__ran o109 o110)) (rv := (some (.int r106))) (st1 := [.int r106]) (va_runV (Ts := wsX9_does) (As := [.int (0:Int32), .int (0:Int32), .int (s0_told 0)]) (rest := []) ⟨hx, hb, hml, hown, hts⟩ (c_X9_set l G cA ts h0 h0_g h0_changed h0_changed_e h0_kept h0_p h0_causes h0_rows h0_sorts h0_sizes h0_moved h0_outs h0_losses h0_levelOf h0_levelOften h0_to h0_round h0_tail h0_path h0_leastOn h0_period h0_amplitude h0_basin h0_numbered h0_isReached h0_tape h0_told h0_traced (0:Int32) (0:Int32) (s0_told 0) s0__isKept s0__done s0__undoable s0__redoable s0__all s0__v s0__loss s0__isOver s0__hasCauses s0__outMany s0__overMany s0__isHalted s0__levelMany s0__rounds s0__stuck s0__onRounds s0__longest s0__loudest s0__reached s0__isAnyOver s0__taped s0__at s0__ran s0_g s0_changed_e r106 o107 o108 o109 o110 hq s.heap.size) (cwV 3 hts gX9_does_X9_set rfl rfl rfl (by decide +kernel) ⟨Nat.le_of_ble_eq_true rfl, Nat.le_of_ble_eq_true rfl⟩) (pre_V (ci := 9) (q0 := 0) (is := [0, 1, 2, 3, 4, 5, 6, 7, 8, 9, 10, 11, 12, 13, 14]) rfl rfl hP hD hS hA hK hZ (by decide +kernel) (by rfl)) rfl rfl hl.1 rfl (by exact lv_room (Nat.le_of_ble_eq_true rfl)) dX9_does_121 ⟨Nat.le_refl _, Nat.le_refl _⟩) hP hD hS hA (by decide +kernel) (by rfl) (by rfl) rfl (fun H locs hP hD hS => ?_)
    obtain ⟨hP, hD⟩ : va_P G vwCl (wm_X9_does cA h0 h0_g h0_changed h0_changed_e h0_p h0_causes h0_told h0_kept h0_rows h0_sorts h0_sizes h0_moved h0_outs h0_losses h0_levelOf h0_levelOften h0_to h0_round h0_tail h0_path h0_leastOn h0_period h0_amplitude h0_basin h0_numbered h0_isReached h0_tape h0_traced s0__isKept s0__done o107 o108 s0__all s0__v s0__loss s0__isOver s0__hasCauses s0__outMany s0__overMany s0__isHalted s0__levelMany s0__rounds s0__stuck s0__onRounds s0__longest s0__loudest s0__reached s0__isAnyOver s0__taped s0__at s0__ran o109 o110 s0_p s0_causes s0_told) H ∧ va_D A (wm_X9_does cA h0 h0_g h0_changed h0_changed_e h0_p h0_causes h0_told h0_kept h0_rows h0_sorts h0_sizes h0_moved h0_outs h0_losses h0_levelOf h0_levelOften h0_to h0_round h0_tail h0_path h0_leastOn h0_period h0_amplitude h0_basin h0_numbered h0_isReached h0_tape h0_traced s0__isKept s0__done o107 o108 s0__all s0__v s0__loss s0__isOver s0__hasCauses s0__outMany s0__overMany s0__isHalted s0__levelMany s0__rounds s0__stuck s0__onRounds s0__longest s0__loudest s0__reached s0__isAnyOver s0__taped s0__at s0__ran o109 o110 s0_p s0_causes s0_told) := PD_eq hP hD (rp_eq (js := [15, 16, 17]) 18 (by decide +kernel) rfl rfl (by rfl) (by rfl) (by decide +kernel))
    obtain ⟨e, hok⟩ := g_pr hok
    try subst e
    obtain ⟨e, hok⟩ := g_pr hok
    try subst e
    obtain ⟨e, hok⟩ := g_pr hok
    try subst e
    obtain ⟨e, hok⟩ := g_pr hok
    try subst e
    obtain ⟨e, hok⟩ := g_pr hok
    try subst e
    obtain ⟨e, hok⟩ := g_pr hok
    try subst e
    obtain ⟨e, hok⟩ := g_pr hok
    try subst e
    obtain ⟨e, hok⟩ := g_pr hok
    try subst e
    obtain ⟨e, hok⟩ := g_pr hok
    try subst e
    obtain ⟨e, hok⟩ := g_pr hok
    try subst e
    obtain ⟨e, hok⟩ := g_pr hok
    try subst e
    obtain ⟨e, hok⟩ := g_pr hok
    try subst e
    cases hok
    exact cr_i hx hb hr hlocks hQ dX9_does_124 hP hS
  replace hok := g_neg hok c12
  by_cases c13 : x1 = 111
  · replace hok := g_pos hok c13
    have e9 : (x1).toInt = 111 := by rw [c13]; rfl
    refine lv_tableIn (tgt := 195) (off := 194) hx hb dX9_does_1 (by rw [e9]; decide) (by rw [e9]; decide) (by rw [e9]; rfl) (by decide) ?_
    refine lv_aload_n hx hb dX9_does_195 rfl (lv_at hl 0 rfl) ?_
    refine lv_bipush (v := 6) hx hb dX9_does_196 (by decide) ?_
    refine lv_iconst (v := 0) hx hb dX9_does_198 (by decide) ?_
    refine lv_aload_n hx hb dX9_does_199 rfl (lv_at hl 0 rfl) ?_
    refine va_get (ci := 9) (v := .ref h0_told) (C := RX9) (T := TX9) (N := 49) hx hb hts hinX9 hown hK hP 0 rfl rfl 46 (by decide) (hts _ (List.mem_of_getElem? (i := 1) rfl)) (fun _ h9 => h9) rfl dX9_does_200 ?_
    refine lv_iconst (v := 0) hx hb dX9_does_203 (by decide) ?_
    refine x_iald (k := 0) hx hb hK hP 17 0 rfl rfl (show ¬ ((0:Int32) < 0 ∨ 2 ≤ (0:Int32).toNatClampNeg) by decide) (by decide) dX9_does_204 ?_
    obtain ⟨r111, o112, o113, o114, o115, hq, hok⟩ := g_bnd5 hok
    refine cG (is := [0, 1, 2, 3, 4, 5, 6, 7, 8, 9, 10, 11, 12, 13, 14]) (wc := (wm_X9_set cA h0 h0_g h0_changed h0_changed_e h0_kept h0_p h0_causes h0_rows h0_sorts h0_sizes h0_moved h0_outs h0_losses h0_levelOf h0_levelOften h0_to h0_round h0_tail h0_path h0_leastOn h0_period h0_amplitude h0_basin h0_numbered h0_isReached h0_tape h0_told h0_traced s0__isKept s0__done s0__undoable s0__redoable s0__all s0__v s0__loss s0__isOver s0__hasCauses s0__outMany s0__overMany s0__isHalted s0__levelMany s0__rounds s0__stuck s0__onRounds s0__longest s0__loudest s0__reached s0__isAnyOver s0__taped s0__at s0__ran s0_g s0_changed_e)) (w1 := (wm_X9_set cA h0 h0_g h0_changed h0_changed_e h0_kept h0_p h0_causes h0_rows h0_sorts h0_sizes h0_moved h0_outs h0_losses h0_levelOf h0_levelOften h0_to h0_round h0_tail h0_path h0_leastOn h0_period h0_amplitude h0_basin h0_numbered h0_isReached h0_tape h0_told h0_traced s0__isKept s0__done o112 o113 s0__all s0__v s0__loss s0__isOver s0__hasCauses s0__outMany s0__overMany s0__isHalted s0__levelMany s0__rounds s0__stuck s0__onRounds s0__longest s0__loudest s0__reached s0__isAnyOver s0__taped s0__at s0__ran o114 o115)) (rv := (some (.int r111))) (st1 := [.int r111]) (va_runV (Ts := wsX9_does) (As := [.int (6:Int32), .int (0:Int32), .int (s0_told 0)]) (rest := []) ⟨hx, hb, hml, hown, hts⟩ (c_X9_set l G cA ts h0 h0_g h0_changed h0_changed_e h0_kept h0_p h0_causes h0_rows h0_sorts h0_sizes h0_moved h0_outs h0_losses h0_levelOf h0_levelOften h0_to h0_round h0_tail h0_path h0_leastOn h0_period h0_amplitude h0_basin h0_numbered h0_isReached h0_tape h0_told h0_traced (6:Int32) (0:Int32) (s0_told 0) s0__isKept s0__done s0__undoable s0__redoable s0__all s0__v s0__loss s0__isOver s0__hasCauses s0__outMany s0__overMany s0__isHalted s0__levelMany s0__rounds s0__stuck s0__onRounds s0__longest s0__loudest s0__reached s0__isAnyOver s0__taped s0__at s0__ran s0_g s0_changed_e r111 o112 o113 o114 o115 hq s.heap.size) (cwV 3 hts gX9_does_X9_set rfl rfl rfl (by decide +kernel) ⟨Nat.le_of_ble_eq_true rfl, Nat.le_of_ble_eq_true rfl⟩) (pre_V (ci := 9) (q0 := 0) (is := [0, 1, 2, 3, 4, 5, 6, 7, 8, 9, 10, 11, 12, 13, 14]) rfl rfl hP hD hS hA hK hZ (by decide +kernel) (by rfl)) rfl rfl hl.1 rfl (by exact lv_room (Nat.le_of_ble_eq_true rfl)) dX9_does_205 ⟨Nat.le_refl _, Nat.le_refl _⟩) hP hD hS hA (by decide +kernel) (by rfl) (by rfl) rfl (fun H locs hP hD hS => ?_)
    obtain ⟨hP, hD⟩ : va_P G vwCl (wm_X9_does cA h0 h0_g h0_changed h0_changed_e h0_p h0_causes h0_told h0_kept h0_rows h0_sorts h0_sizes h0_moved h0_outs h0_losses h0_levelOf h0_levelOften h0_to h0_round h0_tail h0_path h0_leastOn h0_period h0_amplitude h0_basin h0_numbered h0_isReached h0_tape h0_traced s0__isKept s0__done o112 o113 s0__all s0__v s0__loss s0__isOver s0__hasCauses s0__outMany s0__overMany s0__isHalted s0__levelMany s0__rounds s0__stuck s0__onRounds s0__longest s0__loudest s0__reached s0__isAnyOver s0__taped s0__at s0__ran o114 o115 s0_p s0_causes s0_told) H ∧ va_D A (wm_X9_does cA h0 h0_g h0_changed h0_changed_e h0_p h0_causes h0_told h0_kept h0_rows h0_sorts h0_sizes h0_moved h0_outs h0_losses h0_levelOf h0_levelOften h0_to h0_round h0_tail h0_path h0_leastOn h0_period h0_amplitude h0_basin h0_numbered h0_isReached h0_tape h0_traced s0__isKept s0__done o112 o113 s0__all s0__v s0__loss s0__isOver s0__hasCauses s0__outMany s0__overMany s0__isHalted s0__levelMany s0__rounds s0__stuck s0__onRounds s0__longest s0__loudest s0__reached s0__isAnyOver s0__taped s0__at s0__ran o114 o115 s0_p s0_causes s0_told) := PD_eq hP hD (rp_eq (js := [15, 16, 17]) 18 (by decide +kernel) rfl rfl (by rfl) (by rfl) (by decide +kernel))
    obtain ⟨e, hok⟩ := g_pr hok
    try subst e
    obtain ⟨e, hok⟩ := g_pr hok
    try subst e
    obtain ⟨e, hok⟩ := g_pr hok
    try subst e
    obtain ⟨e, hok⟩ := g_pr hok
    try subst e
    obtain ⟨e, hok⟩ := g_pr hok
    try subst e
    obtain ⟨e, hok⟩ := g_pr hok
    try subst e
    obtain ⟨e, hok⟩ := g_pr hok
    try subst e
    obtain ⟨e, hok⟩ := g_pr hok
    try subst e
    obtain ⟨e, hok⟩ := g_pr hok
    try subst e
    obtain ⟨e, hok⟩ := g_pr hok
    try subst e
    obtain ⟨e, hok⟩ := g_pr hok
    try subst e
    obtain ⟨e, hok⟩ := g_pr hok
    try subst e
    cases hok
    exact cr_i hx hb hr hlocks hQ dX9_does_208 hP hS
  replace hok := g_neg hok c13
  by_cases c14 : x1 = 112
  · replace hok := g_pos hok c14
    have e9 : (x1).toInt = 112 := by rw [c14]; rfl
    refine lv_tableIn (tgt := 209) (off := 208) hx hb dX9_does_1 (by rw [e9]; decide) (by rw [e9]; decide) (by rw [e9]; rfl) (by decide) ?_
    refine lv_aload_n hx hb dX9_does_209 rfl (lv_at hl 0 rfl) ?_
    refine lv_bipush (v := 7) hx hb dX9_does_210 (by decide) ?_
    refine lv_iconst (v := 0) hx hb dX9_does_212 (by decide) ?_
    refine lv_aload_n hx hb dX9_does_213 rfl (lv_at hl 0 rfl) ?_
    refine va_get (ci := 9) (v := .ref h0_told) (C := RX9) (T := TX9) (N := 49) hx hb hts hinX9 hown hK hP 0 rfl rfl 46 (by decide) (hts _ (List.mem_of_getElem? (i := 1) rfl)) (fun _ h9 => h9) rfl dX9_does_214 ?_
    refine lv_iconst (v := 0) hx hb dX9_does_217 (by decide) ?_
    refine x_iald (k := 0) hx hb hK hP 17 0 rfl rfl (show ¬ ((0:Int32) < 0 ∨ 2 ≤ (0:Int32).toNatClampNeg) by decide) (by decide) dX9_does_218 ?_
    obtain ⟨r116, o117, o118, o119, o120, hq, hok⟩ := g_bnd5 hok
    refine cG (is := [0, 1, 2, 3, 4, 5, 6, 7, 8, 9, 10, 11, 12, 13, 14]) (wc := (wm_X9_set cA h0 h0_g h0_changed h0_changed_e h0_kept h0_p h0_causes h0_rows h0_sorts h0_sizes h0_moved h0_outs h0_losses h0_levelOf h0_levelOften h0_to h0_round h0_tail h0_path h0_leastOn h0_period h0_amplitude h0_basin h0_numbered h0_isReached h0_tape h0_told h0_traced s0__isKept s0__done s0__undoable s0__redoable s0__all s0__v s0__loss s0__isOver s0__hasCauses s0__outMany s0__overMany s0__isHalted s0__levelMany s0__rounds s0__stuck s0__onRounds s0__longest s0__loudest s0__reached s0__isAnyOver s0__taped s0__at s0__ran s0_g s0_changed_e)) (w1 := (wm_X9_set cA h0 h0_g h0_changed h0_changed_e h0_kept h0_p h0_causes h0_rows h0_sorts h0_sizes h0_moved h0_outs h0_losses h0_levelOf h0_levelOften h0_to h0_round h0_tail h0_path h0_leastOn h0_period h0_amplitude h0_basin h0_numbered h0_isReached h0_tape h0_told h0_traced s0__isKept s0__done o117 o118 s0__all s0__v s0__loss s0__isOver s0__hasCauses s0__outMany s0__overMany s0__isHalted s0__levelMany s0__rounds s0__stuck s0__onRounds s0__longest s0__loudest s0__reached s0__isAnyOver s0__taped s0__at s0__ran o119 o120)) (rv := (some (.int r116))) (st1 := [.int r116]) (va_runV (Ts := wsX9_does) (As := [.int (7:Int32), .int (0:Int32), .int (s0_told 0)]) (rest := []) ⟨hx, hb, hml, hown, hts⟩ (c_X9_set l G cA ts h0 h0_g h0_changed h0_changed_e h0_kept h0_p h0_causes h0_rows h0_sorts h0_sizes h0_moved h0_outs h0_losses h0_levelOf h0_levelOften h0_to h0_round h0_tail h0_path h0_leastOn h0_period h0_amplitude h0_basin h0_numbered h0_isReached h0_tape h0_told h0_traced (7:Int32) (0:Int32) (s0_told 0) s0__isKept s0__done s0__undoable s0__redoable s0__all s0__v s0__loss s0__isOver s0__hasCauses s0__outMany s0__overMany s0__isHalted s0__levelMany s0__rounds s0__stuck s0__onRounds s0__longest s0__loudest s0__reached s0__isAnyOver s0__taped s0__at s0__ran s0_g s0_changed_e r116 o117 o118 o119 o120 hq s.heap.size) (cwV 3 hts gX9_does_X9_set rfl rfl rfl (by decide +kernel) ⟨Nat.le_of_ble_eq_true rfl, Nat.le_of_ble_eq_true rfl⟩) (pre_V (ci := 9) (q0 := 0) (is := [0, 1, 2, 3, 4, 5, 6, 7, 8, 9, 10, 11, 12, 13, 14]) rfl rfl hP hD hS hA hK hZ (by decide +kernel) (by rfl)) rfl rfl hl.1 rfl (by exact lv_room (Nat.le_of_ble_eq_true rfl)) dX9_does_219 ⟨Nat.le_refl _, Nat.le_refl _⟩) hP hD hS hA (by decide +kernel) (by rfl) (by rfl) rfl (fun H locs hP hD hS => ?_)
    obtain ⟨hP, hD⟩ : va_P G vwCl (wm_X9_does cA h0 h0_g h0_changed h0_changed_e h0_p h0_causes h0_told h0_kept h0_rows h0_sorts h0_sizes h0_moved h0_outs h0_losses h0_levelOf h0_levelOften h0_to h0_round h0_tail h0_path h0_leastOn h0_period h0_amplitude h0_basin h0_numbered h0_isReached h0_tape h0_traced s0__isKept s0__done o117 o118 s0__all s0__v s0__loss s0__isOver s0__hasCauses s0__outMany s0__overMany s0__isHalted s0__levelMany s0__rounds s0__stuck s0__onRounds s0__longest s0__loudest s0__reached s0__isAnyOver s0__taped s0__at s0__ran o119 o120 s0_p s0_causes s0_told) H ∧ va_D A (wm_X9_does cA h0 h0_g h0_changed h0_changed_e h0_p h0_causes h0_told h0_kept h0_rows h0_sorts h0_sizes h0_moved h0_outs h0_losses h0_levelOf h0_levelOften h0_to h0_round h0_tail h0_path h0_leastOn h0_period h0_amplitude h0_basin h0_numbered h0_isReached h0_tape h0_traced s0__isKept s0__done o117 o118 s0__all s0__v s0__loss s0__isOver s0__hasCauses s0__outMany s0__overMany s0__isHalted s0__levelMany s0__rounds s0__stuck s0__onRounds s0__longest s0__loudest s0__reached s0__isAnyOver s0__taped s0__at s0__ran o119 o120 s0_p s0_causes s0_told) := PD_eq hP hD (rp_eq (js := [15, 16, 17]) 18 (by decide +kernel) rfl rfl (by rfl) (by rfl) (by decide +kernel))
    obtain ⟨e, hok⟩ := g_pr hok
    try subst e
    obtain ⟨e, hok⟩ := g_pr hok
    try subst e
    obtain ⟨e, hok⟩ := g_pr hok
    try subst e
    obtain ⟨e, hok⟩ := g_pr hok
    try subst e
    obtain ⟨e, hok⟩ := g_pr hok
    try subst e
    obtain ⟨e, hok⟩ := g_pr hok
    try subst e
    obtain ⟨e, hok⟩ := g_pr hok
    try subst e
    obtain ⟨e, hok⟩ := g_pr hok
    try subst e
    obtain ⟨e, hok⟩ := g_pr hok
    try subst e
    obtain ⟨e, hok⟩ := g_pr hok
    try subst e
    obtain ⟨e, hok⟩ := g_pr hok
    try subst e
    obtain ⟨e, hok⟩ := g_pr hok
    try subst e
    cases hok
    exact cr_i hx hb hr hlocks hQ dX9_does_222 hP hS
  replace hok := g_neg hok c14
  by_cases c15 : x1 = 113
  · replace hok := g_pos hok c15
    have e9 : (x1).toInt = 113 := by rw [c15]; rfl
    refine lv_tableIn (tgt := 240) (off := 239) hx hb dX9_does_1 (by rw [e9]; decide) (by rw [e9]; decide) (by rw [e9]; rfl) (by decide) ?_
    refine lv_aload_n hx hb dX9_does_240 rfl (lv_at hl 0 rfl) ?_
    refine lv_aload_n hx hb dX9_does_241 rfl (lv_at hl 0 rfl) ?_
    refine va_get (ci := 9) (v := .ref h0_told) (C := RX9) (T := TX9) (N := 49) hx hb hts hinX9 hown hK hP 0 rfl rfl 46 (by decide) (hts _ (List.mem_of_getElem? (i := 1) rfl)) (fun _ h9 => h9) rfl dX9_does_242 ?_
    refine lv_iconst (v := 0) hx hb dX9_does_245 (by decide) ?_
    refine x_iald (k := 0) hx hb hK hP 17 0 rfl rfl (show ¬ ((0:Int32) < 0 ∨ 2 ≤ (0:Int32).toNatClampNeg) by decide) (by decide) dX9_does_246 ?_
    obtain ⟨r121, o122, o123, o124, o125, o126, o127, o128, o129, o130, hq, hok⟩ := g_bnd10 hok
    refine cG (is := [0, 1, 15, 16]) (wc := (wm_X9_step cA h0 h0_g h0_p h0_causes h0_kept h0_changed h0_rows h0_sorts h0_sizes h0_moved h0_outs h0_losses h0_levelOf h0_levelOften h0_to h0_round h0_tail h0_path h0_leastOn h0_period h0_amplitude h0_basin h0_numbered h0_isReached h0_tape h0_told h0_traced s0__isKept s0__done s0__undoable s0__redoable s0__all s0__v s0__loss s0__isOver s0__hasCauses s0__outMany s0__overMany s0__isHalted s0__levelMany s0__rounds s0__stuck s0__onRounds s0__longest s0__loudest s0__reached s0__isAnyOver s0__taped s0__at s0__ran s0_g s0_p s0_causes)) (w1 := (wm_X9_step cA h0 h0_g h0_p h0_causes h0_kept h0_changed h0_rows h0_sorts h0_sizes h0_moved h0_outs h0_losses h0_levelOf h0_levelOften h0_to h0_round h0_tail h0_path h0_leastOn h0_period h0_amplitude h0_basin h0_numbered h0_isReached h0_tape h0_told h0_traced s0__isKept o122 s0__undoable s0__redoable o123 o124 o125 o126 o127 s0__outMany s0__overMany s0__isHalted s0__levelMany s0__rounds s0__stuck s0__onRounds s0__longest s0__loudest s0__reached s0__isAnyOver s0__taped s0__at s0__ran o128 o129 o130)) (rv := (some (.int r121))) (st1 := [.int r121]) (va_runV (Ts := wsX9_does) (As := [.int (s0_told 0)]) (rest := []) ⟨hx, hb, hml, hown, hts⟩ (c_X9_step l G cA ts h0 h0_g h0_p h0_causes h0_kept h0_changed h0_rows h0_sorts h0_sizes h0_moved h0_outs h0_losses h0_levelOf h0_levelOften h0_to h0_round h0_tail h0_path h0_leastOn h0_period h0_amplitude h0_basin h0_numbered h0_isReached h0_tape h0_told h0_traced (s0_told 0) s0__isKept s0__done s0__undoable s0__redoable s0__all s0__v s0__loss s0__isOver s0__hasCauses s0__outMany s0__overMany s0__isHalted s0__levelMany s0__rounds s0__stuck s0__onRounds s0__longest s0__loudest s0__reached s0__isAnyOver s0__taped s0__at s0__ran s0_g s0_p s0_causes r121 o122 o123 o124 o125 o126 o127 o128 o129 o130 hq s.heap.size) (cwV 1 hts gX9_does_X9_step rfl rfl rfl (by decide +kernel) ⟨Nat.le_of_ble_eq_true rfl, Nat.le_of_ble_eq_true rfl⟩) (pre_V (ci := 9) (q0 := 0) (is := [0, 1, 15, 16]) rfl rfl hP hD hS hA hK hZ (by decide +kernel) (by rfl)) rfl rfl hl.1 rfl (by exact lv_room (Nat.le_of_ble_eq_true rfl)) dX9_does_247 ⟨Nat.le_refl _, Nat.le_refl _⟩) hP hD hS hA (by decide +kernel) (by rfl) (by rfl) rfl (fun H locs hP hD hS => ?_)
    have hP : va_P G vwCl (wm_X9_does cA h0 h0_g h0_changed h0_changed_e h0_p h0_causes h0_told h0_kept h0_rows h0_sorts h0_sizes h0_moved h0_outs h0_losses h0_levelOf h0_levelOften h0_to h0_round h0_tail h0_path h0_leastOn h0_period h0_amplitude h0_basin h0_numbered h0_isReached h0_tape h0_traced s0__isKept o122 s0__undoable s0__redoable o123 o124 o125 o126 o127 s0__outMany s0__overMany s0__isHalted s0__levelMany s0__rounds s0__stuck s0__onRounds s0__longest s0__loudest s0__reached s0__isAnyOver s0__taped s0__at s0__ran o128 s0_changed_e o129 o130 s0_told) H := hP
    have hD : va_D A (wm_X9_does cA h0 h0_g h0_changed h0_changed_e h0_p h0_causes h0_told h0_kept h0_rows h0_sorts h0_sizes h0_moved h0_outs h0_losses h0_levelOf h0_levelOften h0_to h0_round h0_tail h0_path h0_leastOn h0_period h0_amplitude h0_basin h0_numbered h0_isReached h0_tape h0_traced s0__isKept o122 s0__undoable s0__redoable o123 o124 o125 o126 o127 s0__outMany s0__overMany s0__isHalted s0__levelMany s0__rounds s0__stuck s0__onRounds s0__longest s0__loudest s0__reached s0__isAnyOver s0__taped s0__at s0__ran o128 s0_changed_e o129 o130 s0_told) := hD
    obtain ⟨e, hok⟩ := g_pr hok
    try subst e
    obtain ⟨e, hok⟩ := g_pr hok
    try subst e
    obtain ⟨e, hok⟩ := g_pr hok
    try subst e
    obtain ⟨e, hok⟩ := g_pr hok
    try subst e
    obtain ⟨e, hok⟩ := g_pr hok
    try subst e
    obtain ⟨e, hok⟩ := g_pr hok
    try subst e
    obtain ⟨e, hok⟩ := g_pr hok
    try subst e
    obtain ⟨e, hok⟩ := g_pr hok
    try subst e
    obtain ⟨e, hok⟩ := g_pr hok
    try subst e
    obtain ⟨e, hok⟩ := g_pr hok
    try subst e
    obtain ⟨e, hok⟩ := g_pr hok
    try subst e
    obtain ⟨e, hok⟩ := g_pr hok
    try subst e
    cases hok
    exact cr_i hx hb hr hlocks hQ dX9_does_250 hP hS
  replace hok := g_neg hok c15
  by_cases c16 : x1 = 114
  · replace hok := g_pos hok c16
    have e9 : (x1).toInt = 114 := by rw [c16]; rfl
    refine lv_tableIn (tgt := 182) (off := 181) hx hb dX9_does_1 (by rw [e9]; decide) (by rw [e9]; decide) (by rw [e9]; rfl) (by decide) ?_
    refine lv_aload_n hx hb dX9_does_182 rfl (lv_at hl 0 rfl) ?_
    refine lv_iconst (v := 5) hx hb dX9_does_183 (by decide) ?_
    refine lv_iconst (v := 0) hx hb dX9_does_184 (by decide) ?_
    refine lv_aload_n hx hb dX9_does_185 rfl (lv_at hl 0 rfl) ?_
    refine va_get (ci := 9) (v := .ref h0_told) (C := RX9) (T := TX9) (N := 49) hx hb hts hinX9 hown hK hP 0 rfl rfl 46 (by decide) (hts _ (List.mem_of_getElem? (i := 1) rfl)) (fun _ h9 => h9) rfl dX9_does_186 ?_
    refine lv_iconst (v := 0) hx hb dX9_does_189 (by decide) ?_
    refine x_iald (k := 0) hx hb hK hP 17 0 rfl rfl (show ¬ ((0:Int32) < 0 ∨ 2 ≤ (0:Int32).toNatClampNeg) by decide) (by decide) dX9_does_190 ?_
    obtain ⟨r131, o132, o133, o134, o135, hq, hok⟩ := g_bnd5 hok
    refine cG (is := [0, 1, 2, 3, 4, 5, 6, 7, 8, 9, 10, 11, 12, 13, 14]) (wc := (wm_X9_set cA h0 h0_g h0_changed h0_changed_e h0_kept h0_p h0_causes h0_rows h0_sorts h0_sizes h0_moved h0_outs h0_losses h0_levelOf h0_levelOften h0_to h0_round h0_tail h0_path h0_leastOn h0_period h0_amplitude h0_basin h0_numbered h0_isReached h0_tape h0_told h0_traced s0__isKept s0__done s0__undoable s0__redoable s0__all s0__v s0__loss s0__isOver s0__hasCauses s0__outMany s0__overMany s0__isHalted s0__levelMany s0__rounds s0__stuck s0__onRounds s0__longest s0__loudest s0__reached s0__isAnyOver s0__taped s0__at s0__ran s0_g s0_changed_e)) (w1 := (wm_X9_set cA h0 h0_g h0_changed h0_changed_e h0_kept h0_p h0_causes h0_rows h0_sorts h0_sizes h0_moved h0_outs h0_losses h0_levelOf h0_levelOften h0_to h0_round h0_tail h0_path h0_leastOn h0_period h0_amplitude h0_basin h0_numbered h0_isReached h0_tape h0_told h0_traced s0__isKept s0__done o132 o133 s0__all s0__v s0__loss s0__isOver s0__hasCauses s0__outMany s0__overMany s0__isHalted s0__levelMany s0__rounds s0__stuck s0__onRounds s0__longest s0__loudest s0__reached s0__isAnyOver s0__taped s0__at s0__ran o134 o135)) (rv := (some (.int r131))) (st1 := [.int r131]) (va_runV (Ts := wsX9_does) (As := [.int (5:Int32), .int (0:Int32), .int (s0_told 0)]) (rest := []) ⟨hx, hb, hml, hown, hts⟩ (c_X9_set l G cA ts h0 h0_g h0_changed h0_changed_e h0_kept h0_p h0_causes h0_rows h0_sorts h0_sizes h0_moved h0_outs h0_losses h0_levelOf h0_levelOften h0_to h0_round h0_tail h0_path h0_leastOn h0_period h0_amplitude h0_basin h0_numbered h0_isReached h0_tape h0_told h0_traced (5:Int32) (0:Int32) (s0_told 0) s0__isKept s0__done s0__undoable s0__redoable s0__all s0__v s0__loss s0__isOver s0__hasCauses s0__outMany s0__overMany s0__isHalted s0__levelMany s0__rounds s0__stuck s0__onRounds s0__longest s0__loudest s0__reached s0__isAnyOver s0__taped s0__at s0__ran s0_g s0_changed_e r131 o132 o133 o134 o135 hq s.heap.size) (cwV 3 hts gX9_does_X9_set rfl rfl rfl (by decide +kernel) ⟨Nat.le_of_ble_eq_true rfl, Nat.le_of_ble_eq_true rfl⟩) (pre_V (ci := 9) (q0 := 0) (is := [0, 1, 2, 3, 4, 5, 6, 7, 8, 9, 10, 11, 12, 13, 14]) rfl rfl hP hD hS hA hK hZ (by decide +kernel) (by rfl)) rfl rfl hl.1 rfl (by exact lv_room (Nat.le_of_ble_eq_true rfl)) dX9_does_191 ⟨Nat.le_refl _, Nat.le_refl _⟩) hP hD hS hA (by decide +kernel) (by rfl) (by rfl) rfl (fun H locs hP hD hS => ?_)
    obtain ⟨hP, hD⟩ : va_P G vwCl (wm_X9_does cA h0 h0_g h0_changed h0_changed_e h0_p h0_causes h0_told h0_kept h0_rows h0_sorts h0_sizes h0_moved h0_outs h0_losses h0_levelOf h0_levelOften h0_to h0_round h0_tail h0_path h0_leastOn h0_period h0_amplitude h0_basin h0_numbered h0_isReached h0_tape h0_traced s0__isKept s0__done o132 o133 s0__all s0__v s0__loss s0__isOver s0__hasCauses s0__outMany s0__overMany s0__isHalted s0__levelMany s0__rounds s0__stuck s0__onRounds s0__longest s0__loudest s0__reached s0__isAnyOver s0__taped s0__at s0__ran o134 o135 s0_p s0_causes s0_told) H ∧ va_D A (wm_X9_does cA h0 h0_g h0_changed h0_changed_e h0_p h0_causes h0_told h0_kept h0_rows h0_sorts h0_sizes h0_moved h0_outs h0_losses h0_levelOf h0_levelOften h0_to h0_round h0_tail h0_path h0_leastOn h0_period h0_amplitude h0_basin h0_numbered h0_isReached h0_tape h0_traced s0__isKept s0__done o132 o133 s0__all s0__v s0__loss s0__isOver s0__hasCauses s0__outMany s0__overMany s0__isHalted s0__levelMany s0__rounds s0__stuck s0__onRounds s0__longest s0__loudest s0__reached s0__isAnyOver s0__taped s0__at s0__ran o134 o135 s0_p s0_causes s0_told) := PD_eq hP hD (rp_eq (js := [15, 16, 17]) 18 (by decide +kernel) rfl rfl (by rfl) (by rfl) (by decide +kernel))
    obtain ⟨e, hok⟩ := g_pr hok
    try subst e
    obtain ⟨e, hok⟩ := g_pr hok
    try subst e
    obtain ⟨e, hok⟩ := g_pr hok
    try subst e
    obtain ⟨e, hok⟩ := g_pr hok
    try subst e
    obtain ⟨e, hok⟩ := g_pr hok
    try subst e
    obtain ⟨e, hok⟩ := g_pr hok
    try subst e
    obtain ⟨e, hok⟩ := g_pr hok
    try subst e
    obtain ⟨e, hok⟩ := g_pr hok
    try subst e
    obtain ⟨e, hok⟩ := g_pr hok
    try subst e
    obtain ⟨e, hok⟩ := g_pr hok
    try subst e
    obtain ⟨e, hok⟩ := g_pr hok
    try subst e
    obtain ⟨e, hok⟩ := g_pr hok
    try subst e
    cases hok
    exact cr_i hx hb hr hlocks hQ dX9_does_194 hP hS
  replace hok := g_neg hok c16
  by_cases c17 : x1 = 115
  · replace hok := g_pos hok c17
    have e9 : (x1).toInt = 115 := by rw [c17]; rfl
    refine lv_tableIn (tgt := 169) (off := 168) hx hb dX9_does_1 (by rw [e9]; decide) (by rw [e9]; decide) (by rw [e9]; rfl) (by decide) ?_
    refine lv_aload_n hx hb dX9_does_169 rfl (lv_at hl 0 rfl) ?_
    refine lv_iconst (v := 4) hx hb dX9_does_170 (by decide) ?_
    refine lv_iconst (v := 0) hx hb dX9_does_171 (by decide) ?_
    refine lv_aload_n hx hb dX9_does_172 rfl (lv_at hl 0 rfl) ?_
    refine va_get (ci := 9) (v := .ref h0_told) (C := RX9) (T := TX9) (N := 49) hx hb hts hinX9 hown hK hP 0 rfl rfl 46 (by decide) (hts _ (List.mem_of_getElem? (i := 1) rfl)) (fun _ h9 => h9) rfl dX9_does_173 ?_
    refine lv_iconst (v := 0) hx hb dX9_does_176 (by decide) ?_
    refine x_iald (k := 0) hx hb hK hP 17 0 rfl rfl (show ¬ ((0:Int32) < 0 ∨ 2 ≤ (0:Int32).toNatClampNeg) by decide) (by decide) dX9_does_177 ?_
    obtain ⟨r136, o137, o138, o139, o140, hq, hok⟩ := g_bnd5 hok
    refine cG (is := [0, 1, 2, 3, 4, 5, 6, 7, 8, 9, 10, 11, 12, 13, 14]) (wc := (wm_X9_set cA h0 h0_g h0_changed h0_changed_e h0_kept h0_p h0_causes h0_rows h0_sorts h0_sizes h0_moved h0_outs h0_losses h0_levelOf h0_levelOften h0_to h0_round h0_tail h0_path h0_leastOn h0_period h0_amplitude h0_basin h0_numbered h0_isReached h0_tape h0_told h0_traced s0__isKept s0__done s0__undoable s0__redoable s0__all s0__v s0__loss s0__isOver s0__hasCauses s0__outMany s0__overMany s0__isHalted s0__levelMany s0__rounds s0__stuck s0__onRounds s0__longest s0__loudest s0__reached s0__isAnyOver s0__taped s0__at s0__ran s0_g s0_changed_e)) (w1 := (wm_X9_set cA h0 h0_g h0_changed h0_changed_e h0_kept h0_p h0_causes h0_rows h0_sorts h0_sizes h0_moved h0_outs h0_losses h0_levelOf h0_levelOften h0_to h0_round h0_tail h0_path h0_leastOn h0_period h0_amplitude h0_basin h0_numbered h0_isReached h0_tape h0_told h0_traced s0__isKept s0__done o137 o138 s0__all s0__v s0__loss s0__isOver s0__hasCauses s0__outMany s0__overMany s0__isHalted s0__levelMany s0__rounds s0__stuck s0__onRounds s0__longest s0__loudest s0__reached s0__isAnyOver s0__taped s0__at s0__ran o139 o140)) (rv := (some (.int r136))) (st1 := [.int r136]) (va_runV (Ts := wsX9_does) (As := [.int (4:Int32), .int (0:Int32), .int (s0_told 0)]) (rest := []) ⟨hx, hb, hml, hown, hts⟩ (c_X9_set l G cA ts h0 h0_g h0_changed h0_changed_e h0_kept h0_p h0_causes h0_rows h0_sorts h0_sizes h0_moved h0_outs h0_losses h0_levelOf h0_levelOften h0_to h0_round h0_tail h0_path h0_leastOn h0_period h0_amplitude h0_basin h0_numbered h0_isReached h0_tape h0_told h0_traced (4:Int32) (0:Int32) (s0_told 0) s0__isKept s0__done s0__undoable s0__redoable s0__all s0__v s0__loss s0__isOver s0__hasCauses s0__outMany s0__overMany s0__isHalted s0__levelMany s0__rounds s0__stuck s0__onRounds s0__longest s0__loudest s0__reached s0__isAnyOver s0__taped s0__at s0__ran s0_g s0_changed_e r136 o137 o138 o139 o140 hq s.heap.size) (cwV 3 hts gX9_does_X9_set rfl rfl rfl (by decide +kernel) ⟨Nat.le_of_ble_eq_true rfl, Nat.le_of_ble_eq_true rfl⟩) (pre_V (ci := 9) (q0 := 0) (is := [0, 1, 2, 3, 4, 5, 6, 7, 8, 9, 10, 11, 12, 13, 14]) rfl rfl hP hD hS hA hK hZ (by decide +kernel) (by rfl)) rfl rfl hl.1 rfl (by exact lv_room (Nat.le_of_ble_eq_true rfl)) dX9_does_178 ⟨Nat.le_refl _, Nat.le_refl _⟩) hP hD hS hA (by decide +kernel) (by rfl) (by rfl) rfl (fun H locs hP hD hS => ?_)
    obtain ⟨hP, hD⟩ : va_P G vwCl (wm_X9_does cA h0 h0_g h0_changed h0_changed_e h0_p h0_causes h0_told h0_kept h0_rows h0_sorts h0_sizes h0_moved h0_outs h0_losses h0_levelOf h0_levelOften h0_to h0_round h0_tail h0_path h0_leastOn h0_period h0_amplitude h0_basin h0_numbered h0_isReached h0_tape h0_traced s0__isKept s0__done o137 o138 s0__all s0__v s0__loss s0__isOver s0__hasCauses s0__outMany s0__overMany s0__isHalted s0__levelMany s0__rounds s0__stuck s0__onRounds s0__longest s0__loudest s0__reached s0__isAnyOver s0__taped s0__at s0__ran o139 o140 s0_p s0_causes s0_told) H ∧ va_D A (wm_X9_does cA h0 h0_g h0_changed h0_changed_e h0_p h0_causes h0_told h0_kept h0_rows h0_sorts h0_sizes h0_moved h0_outs h0_losses h0_levelOf h0_levelOften h0_to h0_round h0_tail h0_path h0_leastOn h0_period h0_amplitude h0_basin h0_numbered h0_isReached h0_tape h0_traced s0__isKept s0__done o137 o138 s0__all s0__v s0__loss s0__isOver s0__hasCauses s0__outMany s0__overMany s0__isHalted s0__levelMany s0__rounds s0__stuck s0__onRounds s0__longest s0__loudest s0__reached s0__isAnyOver s0__taped s0__at s0__ran o139 o140 s0_p s0_causes s0_told) := PD_eq hP hD (rp_eq (js := [15, 16, 17]) 18 (by decide +kernel) rfl rfl (by rfl) (by rfl) (by decide +kernel))
    obtain ⟨e, hok⟩ := g_pr hok
    try subst e
    obtain ⟨e, hok⟩ := g_pr hok
    try subst e
    obtain ⟨e, hok⟩ := g_pr hok
    try subst e
    obtain ⟨e, hok⟩ := g_pr hok
    try subst e
    obtain ⟨e, hok⟩ := g_pr hok
    try subst e
    obtain ⟨e, hok⟩ := g_pr hok
    try subst e
    obtain ⟨e, hok⟩ := g_pr hok
    try subst e
    obtain ⟨e, hok⟩ := g_pr hok
    try subst e
    obtain ⟨e, hok⟩ := g_pr hok
    try subst e
    obtain ⟨e, hok⟩ := g_pr hok
    try subst e
    obtain ⟨e, hok⟩ := g_pr hok
    try subst e
    obtain ⟨e, hok⟩ := g_pr hok
    try subst e
    cases hok
    exact cr_i hx hb hr hlocks hQ dX9_does_181 hP hS
  replace hok := g_neg hok c17
  by_cases c18 : x1 = 116
  · replace hok := g_pos hok c18
    have e9 : (x1).toInt = 116 := by rw [c18]; rfl
    refine lv_tableIn (tgt := 240) (off := 239) hx hb dX9_does_1 (by rw [e9]; decide) (by rw [e9]; decide) (by rw [e9]; rfl) (by decide) ?_
    refine lv_aload_n hx hb dX9_does_240 rfl (lv_at hl 0 rfl) ?_
    refine lv_aload_n hx hb dX9_does_241 rfl (lv_at hl 0 rfl) ?_
    refine va_get (ci := 9) (v := .ref h0_told) (C := RX9) (T := TX9) (N := 49) hx hb hts hinX9 hown hK hP 0 rfl rfl 46 (by decide) (hts _ (List.mem_of_getElem? (i := 1) rfl)) (fun _ h9 => h9) rfl dX9_does_242 ?_
    refine lv_iconst (v := 0) hx hb dX9_does_245 (by decide) ?_
    refine x_iald (k := 0) hx hb hK hP 17 0 rfl rfl (show ¬ ((0:Int32) < 0 ∨ 2 ≤ (0:Int32).toNatClampNeg) by decide) (by decide) dX9_does_246 ?_
    obtain ⟨r141, o142, o143, o144, o145, o146, o147, o148, o149, o150, hq, hok⟩ := g_bnd10 hok
    refine cG (is := [0, 1, 15, 16]) (wc := (wm_X9_step cA h0 h0_g h0_p h0_causes h0_kept h0_changed h0_rows h0_sorts h0_sizes h0_moved h0_outs h0_losses h0_levelOf h0_levelOften h0_to h0_round h0_tail h0_path h0_leastOn h0_period h0_amplitude h0_basin h0_numbered h0_isReached h0_tape h0_told h0_traced s0__isKept s0__done s0__undoable s0__redoable s0__all s0__v s0__loss s0__isOver s0__hasCauses s0__outMany s0__overMany s0__isHalted s0__levelMany s0__rounds s0__stuck s0__onRounds s0__longest s0__loudest s0__reached s0__isAnyOver s0__taped s0__at s0__ran s0_g s0_p s0_causes)) (w1 := (wm_X9_step cA h0 h0_g h0_p h0_causes h0_kept h0_changed h0_rows h0_sorts h0_sizes h0_moved h0_outs h0_losses h0_levelOf h0_levelOften h0_to h0_round h0_tail h0_path h0_leastOn h0_period h0_amplitude h0_basin h0_numbered h0_isReached h0_tape h0_told h0_traced s0__isKept o142 s0__undoable s0__redoable o143 o144 o145 o146 o147 s0__outMany s0__overMany s0__isHalted s0__levelMany s0__rounds s0__stuck s0__onRounds s0__longest s0__loudest s0__reached s0__isAnyOver s0__taped s0__at s0__ran o148 o149 o150)) (rv := (some (.int r141))) (st1 := [.int r141]) (va_runV (Ts := wsX9_does) (As := [.int (s0_told 0)]) (rest := []) ⟨hx, hb, hml, hown, hts⟩ (c_X9_step l G cA ts h0 h0_g h0_p h0_causes h0_kept h0_changed h0_rows h0_sorts h0_sizes h0_moved h0_outs h0_losses h0_levelOf h0_levelOften h0_to h0_round h0_tail h0_path h0_leastOn h0_period h0_amplitude h0_basin h0_numbered h0_isReached h0_tape h0_told h0_traced (s0_told 0) s0__isKept s0__done s0__undoable s0__redoable s0__all s0__v s0__loss s0__isOver s0__hasCauses s0__outMany s0__overMany s0__isHalted s0__levelMany s0__rounds s0__stuck s0__onRounds s0__longest s0__loudest s0__reached s0__isAnyOver s0__taped s0__at s0__ran s0_g s0_p s0_causes r141 o142 o143 o144 o145 o146 o147 o148 o149 o150 hq s.heap.size) (cwV 1 hts gX9_does_X9_step rfl rfl rfl (by decide +kernel) ⟨Nat.le_of_ble_eq_true rfl, Nat.le_of_ble_eq_true rfl⟩) (pre_V (ci := 9) (q0 := 0) (is := [0, 1, 15, 16]) rfl rfl hP hD hS hA hK hZ (by decide +kernel) (by rfl)) rfl rfl hl.1 rfl (by exact lv_room (Nat.le_of_ble_eq_true rfl)) dX9_does_247 ⟨Nat.le_refl _, Nat.le_refl _⟩) hP hD hS hA (by decide +kernel) (by rfl) (by rfl) rfl (fun H locs hP hD hS => ?_)
    have hP : va_P G vwCl (wm_X9_does cA h0 h0_g h0_changed h0_changed_e h0_p h0_causes h0_told h0_kept h0_rows h0_sorts h0_sizes h0_moved h0_outs h0_losses h0_levelOf h0_levelOften h0_to h0_round h0_tail h0_path h0_leastOn h0_period h0_amplitude h0_basin h0_numbered h0_isReached h0_tape h0_traced s0__isKept o142 s0__undoable s0__redoable o143 o144 o145 o146 o147 s0__outMany s0__overMany s0__isHalted s0__levelMany s0__rounds s0__stuck s0__onRounds s0__longest s0__loudest s0__reached s0__isAnyOver s0__taped s0__at s0__ran o148 s0_changed_e o149 o150 s0_told) H := hP
    have hD : va_D A (wm_X9_does cA h0 h0_g h0_changed h0_changed_e h0_p h0_causes h0_told h0_kept h0_rows h0_sorts h0_sizes h0_moved h0_outs h0_losses h0_levelOf h0_levelOften h0_to h0_round h0_tail h0_path h0_leastOn h0_period h0_amplitude h0_basin h0_numbered h0_isReached h0_tape h0_traced s0__isKept o142 s0__undoable s0__redoable o143 o144 o145 o146 o147 s0__outMany s0__overMany s0__isHalted s0__levelMany s0__rounds s0__stuck s0__onRounds s0__longest s0__loudest s0__reached s0__isAnyOver s0__taped s0__at s0__ran o148 s0_changed_e o149 o150 s0_told) := hD
    obtain ⟨e, hok⟩ := g_pr hok
    try subst e
    obtain ⟨e, hok⟩ := g_pr hok
    try subst e
    obtain ⟨e, hok⟩ := g_pr hok
    try subst e
    obtain ⟨e, hok⟩ := g_pr hok
    try subst e
    obtain ⟨e, hok⟩ := g_pr hok
    try subst e
    obtain ⟨e, hok⟩ := g_pr hok
    try subst e
    obtain ⟨e, hok⟩ := g_pr hok
    try subst e
    obtain ⟨e, hok⟩ := g_pr hok
    try subst e
    obtain ⟨e, hok⟩ := g_pr hok
    try subst e
    obtain ⟨e, hok⟩ := g_pr hok
    try subst e
    obtain ⟨e, hok⟩ := g_pr hok
    try subst e
    obtain ⟨e, hok⟩ := g_pr hok
    try subst e
    cases hok
    exact cr_i hx hb hr hlocks hQ dX9_does_250 hP hS
  replace hok := g_neg hok c18
  by_cases c19 : x1 = 117
  · replace hok := g_pos hok c19
    have e9 : (x1).toInt = 117 := by rw [c19]; rfl
    refine lv_tableIn (tgt := 240) (off := 239) hx hb dX9_does_1 (by rw [e9]; decide) (by rw [e9]; decide) (by rw [e9]; rfl) (by decide) ?_
    refine lv_aload_n hx hb dX9_does_240 rfl (lv_at hl 0 rfl) ?_
    refine lv_aload_n hx hb dX9_does_241 rfl (lv_at hl 0 rfl) ?_
    refine va_get (ci := 9) (v := .ref h0_told) (C := RX9) (T := TX9) (N := 49) hx hb hts hinX9 hown hK hP 0 rfl rfl 46 (by decide) (hts _ (List.mem_of_getElem? (i := 1) rfl)) (fun _ h9 => h9) rfl dX9_does_242 ?_
    refine lv_iconst (v := 0) hx hb dX9_does_245 (by decide) ?_
    refine x_iald (k := 0) hx hb hK hP 17 0 rfl rfl (show ¬ ((0:Int32) < 0 ∨ 2 ≤ (0:Int32).toNatClampNeg) by decide) (by decide) dX9_does_246 ?_
    obtain ⟨r151, o152, o153, o154, o155, o156, o157, o158, o159, o160, hq, hok⟩ := g_bnd10 hok
    refine cG (is := [0, 1, 15, 16]) (wc := (wm_X9_step cA h0 h0_g h0_p h0_causes h0_kept h0_changed h0_rows h0_sorts h0_sizes h0_moved h0_outs h0_losses h0_levelOf h0_levelOften h0_to h0_round h0_tail h0_path h0_leastOn h0_period h0_amplitude h0_basin h0_numbered h0_isReached h0_tape h0_told h0_traced s0__isKept s0__done s0__undoable s0__redoable s0__all s0__v s0__loss s0__isOver s0__hasCauses s0__outMany s0__overMany s0__isHalted s0__levelMany s0__rounds s0__stuck s0__onRounds s0__longest s0__loudest s0__reached s0__isAnyOver s0__taped s0__at s0__ran s0_g s0_p s0_causes)) (w1 := (wm_X9_step cA h0 h0_g h0_p h0_causes h0_kept h0_changed h0_rows h0_sorts h0_sizes h0_moved h0_outs h0_losses h0_levelOf h0_levelOften h0_to h0_round h0_tail h0_path h0_leastOn h0_period h0_amplitude h0_basin h0_numbered h0_isReached h0_tape h0_told h0_traced s0__isKept o152 s0__undoable s0__redoable o153 o154 o155 o156 o157 s0__outMany s0__overMany s0__isHalted s0__levelMany s0__rounds s0__stuck s0__onRounds s0__longest s0__loudest s0__reached s0__isAnyOver s0__taped s0__at s0__ran o158 o159 o160)) (rv := (some (.int r151))) (st1 := [.int r151]) (va_runV (Ts := wsX9_does) (As := [.int (s0_told 0)]) (rest := []) ⟨hx, hb, hml, hown, hts⟩ (c_X9_step l G cA ts h0 h0_g h0_p h0_causes h0_kept h0_changed h0_rows h0_sorts h0_sizes h0_moved h0_outs h0_losses h0_levelOf h0_levelOften h0_to h0_round h0_tail h0_path h0_leastOn h0_period h0_amplitude h0_basin h0_numbered h0_isReached h0_tape h0_told h0_traced (s0_told 0) s0__isKept s0__done s0__undoable s0__redoable s0__all s0__v s0__loss s0__isOver s0__hasCauses s0__outMany s0__overMany s0__isHalted s0__levelMany s0__rounds s0__stuck s0__onRounds s0__longest s0__loudest s0__reached s0__isAnyOver s0__taped s0__at s0__ran s0_g s0_p s0_causes r151 o152 o153 o154 o155 o156 o157 o158 o159 o160 hq s.heap.size) (cwV 1 hts gX9_does_X9_step rfl rfl rfl (by decide +kernel) ⟨Nat.le_of_ble_eq_true rfl, Nat.le_of_ble_eq_true rfl⟩) (pre_V (ci := 9) (q0 := 0) (is := [0, 1, 15, 16]) rfl rfl hP hD hS hA hK hZ (by decide +kernel) (by rfl)) rfl rfl hl.1 rfl (by exact lv_room (Nat.le_of_ble_eq_true rfl)) dX9_does_247 ⟨Nat.le_refl _, Nat.le_refl _⟩) hP hD hS hA (by decide +kernel) (by rfl) (by rfl) rfl (fun H locs hP hD hS => ?_)
    have hP : va_P G vwCl (wm_X9_does cA h0 h0_g h0_changed h0_changed_e h0_p h0_causes h0_told h0_kept h0_rows h0_sorts h0_sizes h0_moved h0_outs h0_losses h0_levelOf h0_levelOften h0_to h0_round h0_tail h0_path h0_leastOn h0_period h0_amplitude h0_basin h0_numbered h0_isReached h0_tape h0_traced s0__isKept o152 s0__undoable s0__redoable o153 o154 o155 o156 o157 s0__outMany s0__overMany s0__isHalted s0__levelMany s0__rounds s0__stuck s0__onRounds s0__longest s0__loudest s0__reached s0__isAnyOver s0__taped s0__at s0__ran o158 s0_changed_e o159 o160 s0_told) H := hP
    have hD : va_D A (wm_X9_does cA h0 h0_g h0_changed h0_changed_e h0_p h0_causes h0_told h0_kept h0_rows h0_sorts h0_sizes h0_moved h0_outs h0_losses h0_levelOf h0_levelOften h0_to h0_round h0_tail h0_path h0_leastOn h0_period h0_amplitude h0_basin h0_numbered h0_isReached h0_tape h0_traced s0__isKept o152 s0__undoable s0__redoable o153 o154 o155 o156 o157 s0__outMany s0__overMany s0__isHalted s0__levelMany s0__rounds s0__stuck s0__onRounds s0__longest s0__loudest s0__reached s0__isAnyOver s0__taped s0__at s0__ran o158 s0_changed_e o159 o160 s0_told) := hD
    obtain ⟨e, hok⟩ := g_pr hok
    try subst e
    obtain ⟨e, hok⟩ := g_pr hok
    try subst e
    obtain ⟨e, hok⟩ := g_pr hok
    try subst e
    obtain ⟨e, hok⟩ := g_pr hok
    try subst e
    obtain ⟨e, hok⟩ := g_pr hok
    try subst e
    obtain ⟨e, hok⟩ := g_pr hok
    try subst e
    obtain ⟨e, hok⟩ := g_pr hok
    try subst e
    obtain ⟨e, hok⟩ := g_pr hok
    try subst e
    obtain ⟨e, hok⟩ := g_pr hok
    try subst e
    obtain ⟨e, hok⟩ := g_pr hok
    try subst e
    obtain ⟨e, hok⟩ := g_pr hok
    try subst e
    obtain ⟨e, hok⟩ := g_pr hok
    try subst e
    cases hok
    exact cr_i hx hb hr hlocks hQ dX9_does_250 hP hS
  replace hok := g_neg hok c19
  by_cases c20 : x1 = 118
  · replace hok := g_pos hok c20
    have e9 : (x1).toInt = 118 := by rw [c20]; rfl
    refine lv_tableIn (tgt := 240) (off := 239) hx hb dX9_does_1 (by rw [e9]; decide) (by rw [e9]; decide) (by rw [e9]; rfl) (by decide) ?_
    refine lv_aload_n hx hb dX9_does_240 rfl (lv_at hl 0 rfl) ?_
    refine lv_aload_n hx hb dX9_does_241 rfl (lv_at hl 0 rfl) ?_
    refine va_get (ci := 9) (v := .ref h0_told) (C := RX9) (T := TX9) (N := 49) hx hb hts hinX9 hown hK hP 0 rfl rfl 46 (by decide) (hts _ (List.mem_of_getElem? (i := 1) rfl)) (fun _ h9 => h9) rfl dX9_does_242 ?_
    refine lv_iconst (v := 0) hx hb dX9_does_245 (by decide) ?_
    refine x_iald (k := 0) hx hb hK hP 17 0 rfl rfl (show ¬ ((0:Int32) < 0 ∨ 2 ≤ (0:Int32).toNatClampNeg) by decide) (by decide) dX9_does_246 ?_
    obtain ⟨r161, o162, o163, o164, o165, o166, o167, o168, o169, o170, hq, hok⟩ := g_bnd10 hok
    refine cG (is := [0, 1, 15, 16]) (wc := (wm_X9_step cA h0 h0_g h0_p h0_causes h0_kept h0_changed h0_rows h0_sorts h0_sizes h0_moved h0_outs h0_losses h0_levelOf h0_levelOften h0_to h0_round h0_tail h0_path h0_leastOn h0_period h0_amplitude h0_basin h0_numbered h0_isReached h0_tape h0_told h0_traced s0__isKept s0__done s0__undoable s0__redoable s0__all s0__v s0__loss s0__isOver s0__hasCauses s0__outMany s0__overMany s0__isHalted s0__levelMany s0__rounds s0__stuck s0__onRounds s0__longest s0__loudest s0__reached s0__isAnyOver s0__taped s0__at s0__ran s0_g s0_p s0_causes)) (w1 := (wm_X9_step cA h0 h0_g h0_p h0_causes h0_kept h0_changed h0_rows h0_sorts h0_sizes h0_moved h0_outs h0_losses h0_levelOf h0_levelOften h0_to h0_round h0_tail h0_path h0_leastOn h0_period h0_amplitude h0_basin h0_numbered h0_isReached h0_tape h0_told h0_traced s0__isKept o162 s0__undoable s0__redoable o163 o164 o165 o166 o167 s0__outMany s0__overMany s0__isHalted s0__levelMany s0__rounds s0__stuck s0__onRounds s0__longest s0__loudest s0__reached s0__isAnyOver s0__taped s0__at s0__ran o168 o169 o170)) (rv := (some (.int r161))) (st1 := [.int r161]) (va_runV (Ts := wsX9_does) (As := [.int (s0_told 0)]) (rest := []) ⟨hx, hb, hml, hown, hts⟩ (c_X9_step l G cA ts h0 h0_g h0_p h0_causes h0_kept h0_changed h0_rows h0_sorts h0_sizes h0_moved h0_outs h0_losses h0_levelOf h0_levelOften h0_to h0_round h0_tail h0_path h0_leastOn h0_period h0_amplitude h0_basin h0_numbered h0_isReached h0_tape h0_told h0_traced (s0_told 0) s0__isKept s0__done s0__undoable s0__redoable s0__all s0__v s0__loss s0__isOver s0__hasCauses s0__outMany s0__overMany s0__isHalted s0__levelMany s0__rounds s0__stuck s0__onRounds s0__longest s0__loudest s0__reached s0__isAnyOver s0__taped s0__at s0__ran s0_g s0_p s0_causes r161 o162 o163 o164 o165 o166 o167 o168 o169 o170 hq s.heap.size) (cwV 1 hts gX9_does_X9_step rfl rfl rfl (by decide +kernel) ⟨Nat.le_of_ble_eq_true rfl, Nat.le_of_ble_eq_true rfl⟩) (pre_V (ci := 9) (q0 := 0) (is := [0, 1, 15, 16]) rfl rfl hP hD hS hA hK hZ (by decide +kernel) (by rfl)) rfl rfl hl.1 rfl (by exact lv_room (Nat.le_of_ble_eq_true rfl)) dX9_does_247 ⟨Nat.le_refl _, Nat.le_refl _⟩) hP hD hS hA (by decide +kernel) (by rfl) (by rfl) rfl (fun H locs hP hD hS => ?_)
    have hP : va_P G vwCl (wm_X9_does cA h0 h0_g h0_changed h0_changed_e h0_p h0_causes h0_told h0_kept h0_rows h0_sorts h0_sizes h0_moved h0_outs h0_losses h0_levelOf h0_levelOften h0_to h0_round h0_tail h0_path h0_leastOn h0_period h0_amplitude h0_basin h0_numbered h0_isReached h0_tape h0_traced s0__isKept o162 s0__undoable s0__redoable o163 o164 o165 o166 o167 s0__outMany s0__overMany s0__isHalted s0__levelMany s0__rounds s0__stuck s0__onRounds s0__longest s0__loudest s0__reached s0__isAnyOver s0__taped s0__at s0__ran o168 s0_changed_e o169 o170 s0_told) H := hP
    have hD : va_D A (wm_X9_does cA h0 h0_g h0_changed h0_changed_e h0_p h0_causes h0_told h0_kept h0_rows h0_sorts h0_sizes h0_moved h0_outs h0_losses h0_levelOf h0_levelOften h0_to h0_round h0_tail h0_path h0_leastOn h0_period h0_amplitude h0_basin h0_numbered h0_isReached h0_tape h0_traced s0__isKept o162 s0__undoable s0__redoable o163 o164 o165 o166 o167 s0__outMany s0__overMany s0__isHalted s0__levelMany s0__rounds s0__stuck s0__onRounds s0__longest s0__loudest s0__reached s0__isAnyOver s0__taped s0__at s0__ran o168 s0_changed_e o169 o170 s0_told) := hD
    obtain ⟨e, hok⟩ := g_pr hok
    try subst e
    obtain ⟨e, hok⟩ := g_pr hok
    try subst e
    obtain ⟨e, hok⟩ := g_pr hok
    try subst e
    obtain ⟨e, hok⟩ := g_pr hok
    try subst e
    obtain ⟨e, hok⟩ := g_pr hok
    try subst e
    obtain ⟨e, hok⟩ := g_pr hok
    try subst e
    obtain ⟨e, hok⟩ := g_pr hok
    try subst e
    obtain ⟨e, hok⟩ := g_pr hok
    try subst e
    obtain ⟨e, hok⟩ := g_pr hok
    try subst e
    obtain ⟨e, hok⟩ := g_pr hok
    try subst e
    obtain ⟨e, hok⟩ := g_pr hok
    try subst e
    obtain ⟨e, hok⟩ := g_pr hok
    try subst e
    cases hok
    exact cr_i hx hb hr hlocks hQ dX9_does_250 hP hS
  replace hok := g_neg hok c20
  by_cases c21 : x1 = 119
  · replace hok := g_pos hok c21
    have e9 : (x1).toInt = 119 := by rw [c21]; rfl
    refine lv_tableIn (tgt := 240) (off := 239) hx hb dX9_does_1 (by rw [e9]; decide) (by rw [e9]; decide) (by rw [e9]; rfl) (by decide) ?_
    refine lv_aload_n hx hb dX9_does_240 rfl (lv_at hl 0 rfl) ?_
    refine lv_aload_n hx hb dX9_does_241 rfl (lv_at hl 0 rfl) ?_
    refine va_get (ci := 9) (v := .ref h0_told) (C := RX9) (T := TX9) (N := 49) hx hb hts hinX9 hown hK hP 0 rfl rfl 46 (by decide) (hts _ (List.mem_of_getElem? (i := 1) rfl)) (fun _ h9 => h9) rfl dX9_does_242 ?_
    refine lv_iconst (v := 0) hx hb dX9_does_245 (by decide) ?_
    refine x_iald (k := 0) hx hb hK hP 17 0 rfl rfl (show ¬ ((0:Int32) < 0 ∨ 2 ≤ (0:Int32).toNatClampNeg) by decide) (by decide) dX9_does_246 ?_
    obtain ⟨r171, o172, o173, o174, o175, o176, o177, o178, o179, o180, hq, hok⟩ := g_bnd10 hok
    refine cG (is := [0, 1, 15, 16]) (wc := (wm_X9_step cA h0 h0_g h0_p h0_causes h0_kept h0_changed h0_rows h0_sorts h0_sizes h0_moved h0_outs h0_losses h0_levelOf h0_levelOften h0_to h0_round h0_tail h0_path h0_leastOn h0_period h0_amplitude h0_basin h0_numbered h0_isReached h0_tape h0_told h0_traced s0__isKept s0__done s0__undoable s0__redoable s0__all s0__v s0__loss s0__isOver s0__hasCauses s0__outMany s0__overMany s0__isHalted s0__levelMany s0__rounds s0__stuck s0__onRounds s0__longest s0__loudest s0__reached s0__isAnyOver s0__taped s0__at s0__ran s0_g s0_p s0_causes)) (w1 := (wm_X9_step cA h0 h0_g h0_p h0_causes h0_kept h0_changed h0_rows h0_sorts h0_sizes h0_moved h0_outs h0_losses h0_levelOf h0_levelOften h0_to h0_round h0_tail h0_path h0_leastOn h0_period h0_amplitude h0_basin h0_numbered h0_isReached h0_tape h0_told h0_traced s0__isKept o172 s0__undoable s0__redoable o173 o174 o175 o176 o177 s0__outMany s0__overMany s0__isHalted s0__levelMany s0__rounds s0__stuck s0__onRounds s0__longest s0__loudest s0__reached s0__isAnyOver s0__taped s0__at s0__ran o178 o179 o180)) (rv := (some (.int r171))) (st1 := [.int r171]) (va_runV (Ts := wsX9_does) (As := [.int (s0_told 0)]) (rest := []) ⟨hx, hb, hml, hown, hts⟩ (c_X9_step l G cA ts h0 h0_g h0_p h0_causes h0_kept h0_changed h0_rows h0_sorts h0_sizes h0_moved h0_outs h0_losses h0_levelOf h0_levelOften h0_to h0_round h0_tail h0_path h0_leastOn h0_period h0_amplitude h0_basin h0_numbered h0_isReached h0_tape h0_told h0_traced (s0_told 0) s0__isKept s0__done s0__undoable s0__redoable s0__all s0__v s0__loss s0__isOver s0__hasCauses s0__outMany s0__overMany s0__isHalted s0__levelMany s0__rounds s0__stuck s0__onRounds s0__longest s0__loudest s0__reached s0__isAnyOver s0__taped s0__at s0__ran s0_g s0_p s0_causes r171 o172 o173 o174 o175 o176 o177 o178 o179 o180 hq s.heap.size) (cwV 1 hts gX9_does_X9_step rfl rfl rfl (by decide +kernel) ⟨Nat.le_of_ble_eq_true rfl, Nat.le_of_ble_eq_true rfl⟩) (pre_V (ci := 9) (q0 := 0) (is := [0, 1, 15, 16]) rfl rfl hP hD hS hA hK hZ (by decide +kernel) (by rfl)) rfl rfl hl.1 rfl (by exact lv_room (Nat.le_of_ble_eq_true rfl)) dX9_does_247 ⟨Nat.le_refl _, Nat.le_refl _⟩) hP hD hS hA (by decide +kernel) (by rfl) (by rfl) rfl (fun H locs hP hD hS => ?_)
    have hP : va_P G vwCl (wm_X9_does cA h0 h0_g h0_changed h0_changed_e h0_p h0_causes h0_told h0_kept h0_rows h0_sorts h0_sizes h0_moved h0_outs h0_losses h0_levelOf h0_levelOften h0_to h0_round h0_tail h0_path h0_leastOn h0_period h0_amplitude h0_basin h0_numbered h0_isReached h0_tape h0_traced s0__isKept o172 s0__undoable s0__redoable o173 o174 o175 o176 o177 s0__outMany s0__overMany s0__isHalted s0__levelMany s0__rounds s0__stuck s0__onRounds s0__longest s0__loudest s0__reached s0__isAnyOver s0__taped s0__at s0__ran o178 s0_changed_e o179 o180 s0_told) H := hP
    have hD : va_D A (wm_X9_does cA h0 h0_g h0_changed h0_changed_e h0_p h0_causes h0_told h0_kept h0_rows h0_sorts h0_sizes h0_moved h0_outs h0_losses h0_levelOf h0_levelOften h0_to h0_round h0_tail h0_path h0_leastOn h0_period h0_amplitude h0_basin h0_numbered h0_isReached h0_tape h0_traced s0__isKept o172 s0__undoable s0__redoable o173 o174 o175 o176 o177 s0__outMany s0__overMany s0__isHalted s0__levelMany s0__rounds s0__stuck s0__onRounds s0__longest s0__loudest s0__reached s0__isAnyOver s0__taped s0__at s0__ran o178 s0_changed_e o179 o180 s0_told) := hD
    obtain ⟨e, hok⟩ := g_pr hok
    try subst e
    obtain ⟨e, hok⟩ := g_pr hok
    try subst e
    obtain ⟨e, hok⟩ := g_pr hok
    try subst e
    obtain ⟨e, hok⟩ := g_pr hok
    try subst e
    obtain ⟨e, hok⟩ := g_pr hok
    try subst e
    obtain ⟨e, hok⟩ := g_pr hok
    try subst e
    obtain ⟨e, hok⟩ := g_pr hok
    try subst e
    obtain ⟨e, hok⟩ := g_pr hok
    try subst e
    obtain ⟨e, hok⟩ := g_pr hok
    try subst e
    obtain ⟨e, hok⟩ := g_pr hok
    try subst e
    obtain ⟨e, hok⟩ := g_pr hok
    try subst e
    obtain ⟨e, hok⟩ := g_pr hok
    try subst e
    cases hok
    exact cr_i hx hb hr hlocks hQ dX9_does_250 hP hS
  replace hok := g_neg hok c21
  by_cases c22 : x1 = 120
  · replace hok := g_pos hok c22
    have e9 : (x1).toInt = 120 := by rw [c22]; rfl
    refine lv_tableIn (tgt := 240) (off := 239) hx hb dX9_does_1 (by rw [e9]; decide) (by rw [e9]; decide) (by rw [e9]; rfl) (by decide) ?_
    refine lv_aload_n hx hb dX9_does_240 rfl (lv_at hl 0 rfl) ?_
    refine lv_aload_n hx hb dX9_does_241 rfl (lv_at hl 0 rfl) ?_
    refine va_get (ci := 9) (v := .ref h0_told) (C := RX9) (T := TX9) (N := 49) hx hb hts hinX9 hown hK hP 0 rfl rfl 46 (by decide) (hts _ (List.mem_of_getElem? (i := 1) rfl)) (fun _ h9 => h9) rfl dX9_does_242 ?_
    refine lv_iconst (v := 0) hx hb dX9_does_245 (by decide) ?_
    refine x_iald (k := 0) hx hb hK hP 17 0 rfl rfl (show ¬ ((0:Int32) < 0 ∨ 2 ≤ (0:Int32).toNatClampNeg) by decide) (by decide) dX9_does_246 ?_
    obtain ⟨r181, o182, o183, o184, o185, o186, o187, o188, o189, o190, hq, hok⟩ := g_bnd10 hok
    refine cG (is := [0, 1, 15, 16]) (wc := (wm_X9_step cA h0 h0_g h0_p h0_causes h0_kept h0_changed h0_rows h0_sorts h0_sizes h0_moved h0_outs h0_losses h0_levelOf h0_levelOften h0_to h0_round h0_tail h0_path h0_leastOn h0_period h0_amplitude h0_basin h0_numbered h0_isReached h0_tape h0_told h0_traced s0__isKept s0__done s0__undoable s0__redoable s0__all s0__v s0__loss s0__isOver s0__hasCauses s0__outMany s0__overMany s0__isHalted s0__levelMany s0__rounds s0__stuck s0__onRounds s0__longest s0__loudest s0__reached s0__isAnyOver s0__taped s0__at s0__ran s0_g s0_p s0_causes)) (w1 := (wm_X9_step cA h0 h0_g h0_p h0_causes h0_kept h0_changed h0_rows h0_sorts h0_sizes h0_moved h0_outs h0_losses h0_levelOf h0_levelOften h0_to h0_round h0_tail h0_path h0_leastOn h0_period h0_amplitude h0_basin h0_numbered h0_isReached h0_tape h0_told h0_traced s0__isKept o182 s0__undoable s0__redoable o183 o184 o185 o186 o187 s0__outMany s0__overMany s0__isHalted s0__levelMany s0__rounds s0__stuck s0__onRounds s0__longest s0__loudest s0__reached s0__isAnyOver s0__taped s0__at s0__ran o188 o189 o190)) (rv := (some (.int r181))) (st1 := [.int r181]) (va_runV (Ts := wsX9_does) (As := [.int (s0_told 0)]) (rest := []) ⟨hx, hb, hml, hown, hts⟩ (c_X9_step l G cA ts h0 h0_g h0_p h0_causes h0_kept h0_changed h0_rows h0_sorts h0_sizes h0_moved h0_outs h0_losses h0_levelOf h0_levelOften h0_to h0_round h0_tail h0_path h0_leastOn h0_period h0_amplitude h0_basin h0_numbered h0_isReached h0_tape h0_told h0_traced (s0_told 0) s0__isKept s0__done s0__undoable s0__redoable s0__all s0__v s0__loss s0__isOver s0__hasCauses s0__outMany s0__overMany s0__isHalted s0__levelMany s0__rounds s0__stuck s0__onRounds s0__longest s0__loudest s0__reached s0__isAnyOver s0__taped s0__at s0__ran s0_g s0_p s0_causes r181 o182 o183 o184 o185 o186 o187 o188 o189 o190 hq s.heap.size) (cwV 1 hts gX9_does_X9_step rfl rfl rfl (by decide +kernel) ⟨Nat.le_of_ble_eq_true rfl, Nat.le_of_ble_eq_true rfl⟩) (pre_V (ci := 9) (q0 := 0) (is := [0, 1, 15, 16]) rfl rfl hP hD hS hA hK hZ (by decide +kernel) (by rfl)) rfl rfl hl.1 rfl (by exact lv_room (Nat.le_of_ble_eq_true rfl)) dX9_does_247 ⟨Nat.le_refl _, Nat.le_refl _⟩) hP hD hS hA (by decide +kernel) (by rfl) (by rfl) rfl (fun H locs hP hD hS => ?_)
    have hP : va_P G vwCl (wm_X9_does cA h0 h0_g h0_changed h0_changed_e h0_p h0_causes h0_told h0_kept h0_rows h0_sorts h0_sizes h0_moved h0_outs h0_losses h0_levelOf h0_levelOften h0_to h0_round h0_tail h0_path h0_leastOn h0_period h0_amplitude h0_basin h0_numbered h0_isReached h0_tape h0_traced s0__isKept o182 s0__undoable s0__redoable o183 o184 o185 o186 o187 s0__outMany s0__overMany s0__isHalted s0__levelMany s0__rounds s0__stuck s0__onRounds s0__longest s0__loudest s0__reached s0__isAnyOver s0__taped s0__at s0__ran o188 s0_changed_e o189 o190 s0_told) H := hP
    have hD : va_D A (wm_X9_does cA h0 h0_g h0_changed h0_changed_e h0_p h0_causes h0_told h0_kept h0_rows h0_sorts h0_sizes h0_moved h0_outs h0_losses h0_levelOf h0_levelOften h0_to h0_round h0_tail h0_path h0_leastOn h0_period h0_amplitude h0_basin h0_numbered h0_isReached h0_tape h0_traced s0__isKept o182 s0__undoable s0__redoable o183 o184 o185 o186 o187 s0__outMany s0__overMany s0__isHalted s0__levelMany s0__rounds s0__stuck s0__onRounds s0__longest s0__loudest s0__reached s0__isAnyOver s0__taped s0__at s0__ran o188 s0_changed_e o189 o190 s0_told) := hD
    obtain ⟨e, hok⟩ := g_pr hok
    try subst e
    obtain ⟨e, hok⟩ := g_pr hok
    try subst e
    obtain ⟨e, hok⟩ := g_pr hok
    try subst e
    obtain ⟨e, hok⟩ := g_pr hok
    try subst e
    obtain ⟨e, hok⟩ := g_pr hok
    try subst e
    obtain ⟨e, hok⟩ := g_pr hok
    try subst e
    obtain ⟨e, hok⟩ := g_pr hok
    try subst e
    obtain ⟨e, hok⟩ := g_pr hok
    try subst e
    obtain ⟨e, hok⟩ := g_pr hok
    try subst e
    obtain ⟨e, hok⟩ := g_pr hok
    try subst e
    obtain ⟨e, hok⟩ := g_pr hok
    try subst e
    obtain ⟨e, hok⟩ := g_pr hok
    try subst e
    cases hok
    exact cr_i hx hb hr hlocks hQ dX9_does_250 hP hS
  replace hok := g_neg hok c22
  by_cases c23 : x1 = 121
  · replace hok := g_pos hok c23
    have e9 : (x1).toInt = 121 := by rw [c23]; rfl
    refine lv_tableIn (tgt := 223) (off := 222) hx hb dX9_does_1 (by rw [e9]; decide) (by rw [e9]; decide) (by rw [e9]; rfl) (by decide) ?_
    refine lv_aload_n hx hb dX9_does_223 rfl (lv_at hl 0 rfl) ?_
    refine lv_aload_n hx hb dX9_does_224 rfl (lv_at hl 0 rfl) ?_
    refine va_get (ci := 9) (v := .ref h0_told) (C := RX9) (T := TX9) (N := 49) hx hb hts hinX9 hown hK hP 0 rfl rfl 46 (by decide) (hts _ (List.mem_of_getElem? (i := 1) rfl)) (fun _ h9 => h9) rfl dX9_does_225 ?_
    refine lv_iconst (v := 0) hx hb dX9_does_228 (by decide) ?_
    refine x_iald (k := 0) hx hb hK hP 17 0 rfl rfl (show ¬ ((0:Int32) < 0 ∨ 2 ≤ (0:Int32).toNatClampNeg) by decide) (by decide) dX9_does_229 ?_
    refine lv_aload_n hx hb dX9_does_230 rfl (lv_at hl 0 rfl) ?_
    refine va_get (ci := 9) (v := .ref h0_told) (C := RX9) (T := TX9) (N := 49) hx hb hts hinX9 hown hK hP 0 rfl rfl 46 (by decide) (hts _ (List.mem_of_getElem? (i := 1) rfl)) (fun _ h9 => h9) rfl dX9_does_231 ?_
    refine lv_iconst (v := 1) hx hb dX9_does_234 (by decide) ?_
    refine x_iald (k := 1) hx hb hK hP 17 0 rfl rfl (show ¬ ((1:Int32) < 0 ∨ 2 ≤ (1:Int32).toNatClampNeg) by decide) (by decide) dX9_does_235 ?_
    obtain ⟨r191, o192, hq, hok⟩ := g_bnd2 hok
    refine cG (is := [0, 1]) (wc := (wm_X9_half cA h0 h0_g h0_kept h0_changed h0_p h0_causes h0_rows h0_sorts h0_sizes h0_moved h0_outs h0_losses h0_levelOf h0_levelOften h0_to h0_round h0_tail h0_path h0_leastOn h0_period h0_amplitude h0_basin h0_numbered h0_isReached h0_tape h0_told h0_traced s0__isKept s0__done s0__undoable s0__redoable s0__all s0__v s0__loss s0__isOver s0__hasCauses s0__outMany s0__overMany s0__isHalted s0__levelMany s0__rounds s0__stuck s0__onRounds s0__longest s0__loudest s0__reached s0__isAnyOver s0__taped s0__at s0__ran s0_g)) (w1 := (wm_X9_half cA h0 h0_g h0_kept h0_changed h0_p h0_causes h0_rows h0_sorts h0_sizes h0_moved h0_outs h0_losses h0_levelOf h0_levelOften h0_to h0_round h0_tail h0_path h0_leastOn h0_period h0_amplitude h0_basin h0_numbered h0_isReached h0_tape h0_told h0_traced s0__isKept s0__done s0__undoable s0__redoable s0__all s0__v s0__loss s0__isOver s0__hasCauses s0__outMany s0__overMany s0__isHalted s0__levelMany s0__rounds s0__stuck s0__onRounds s0__longest s0__loudest s0__reached s0__isAnyOver s0__taped s0__at s0__ran o192)) (rv := (some (.int r191))) (st1 := [.int r191]) (va_runV (Ts := wsX9_does) (As := [.int (s0_told 0), .int (s0_told 1)]) (rest := []) ⟨hx, hb, hml, hown, hts⟩ (c_X9_past l G cA ts h0 h0_g h0_kept h0_changed h0_p h0_causes h0_rows h0_sorts h0_sizes h0_moved h0_outs h0_losses h0_levelOf h0_levelOften h0_to h0_round h0_tail h0_path h0_leastOn h0_period h0_amplitude h0_basin h0_numbered h0_isReached h0_tape h0_told h0_traced (s0_told 0) (s0_told 1) s0__isKept s0__done s0__undoable s0__redoable s0__all s0__v s0__loss s0__isOver s0__hasCauses s0__outMany s0__overMany s0__isHalted s0__levelMany s0__rounds s0__stuck s0__onRounds s0__longest s0__loudest s0__reached s0__isAnyOver s0__taped s0__at s0__ran s0_g r191 o192 hq s.heap.size) (cwV 2 hts gX9_does_X9_past rfl rfl rfl (by decide +kernel) ⟨Nat.le_of_ble_eq_true rfl, Nat.le_of_ble_eq_true rfl⟩) (pre_V (ci := 9) (q0 := 0) (is := [0, 1]) rfl rfl hP hD hS hA hK hZ (by decide +kernel) (by rfl)) rfl rfl hl.1 rfl (by exact lv_room (Nat.le_of_ble_eq_true rfl)) dX9_does_236 ⟨Nat.le_refl _, Nat.le_refl _⟩) hP hD hS hA (by decide +kernel) (by rfl) (by rfl) rfl (fun H locs hP hD hS => ?_)
    have hP : va_P G vwCl (wm_X9_does cA h0 h0_g h0_changed h0_changed_e h0_p h0_causes h0_told h0_kept h0_rows h0_sorts h0_sizes h0_moved h0_outs h0_losses h0_levelOf h0_levelOften h0_to h0_round h0_tail h0_path h0_leastOn h0_period h0_amplitude h0_basin h0_numbered h0_isReached h0_tape h0_traced s0__isKept s0__done s0__undoable s0__redoable s0__all s0__v s0__loss s0__isOver s0__hasCauses s0__outMany s0__overMany s0__isHalted s0__levelMany s0__rounds s0__stuck s0__onRounds s0__longest s0__loudest s0__reached s0__isAnyOver s0__taped s0__at s0__ran o192 s0_changed_e s0_p s0_causes s0_told) H := hP
    have hD : va_D A (wm_X9_does cA h0 h0_g h0_changed h0_changed_e h0_p h0_causes h0_told h0_kept h0_rows h0_sorts h0_sizes h0_moved h0_outs h0_losses h0_levelOf h0_levelOften h0_to h0_round h0_tail h0_path h0_leastOn h0_period h0_amplitude h0_basin h0_numbered h0_isReached h0_tape h0_traced s0__isKept s0__done s0__undoable s0__redoable s0__all s0__v s0__loss s0__isOver s0__hasCauses s0__outMany s0__overMany s0__isHalted s0__levelMany s0__rounds s0__stuck s0__onRounds s0__longest s0__loudest s0__reached s0__isAnyOver s0__taped s0__at s0__ran o192 s0_changed_e s0_p s0_causes s0_told) := hD
    obtain ⟨e, hok⟩ := g_pr hok
    try subst e
    obtain ⟨e, hok⟩ := g_pr hok
    try subst e
    obtain ⟨e, hok⟩ := g_pr hok
    try subst e
    obtain ⟨e, hok⟩ := g_pr hok
    try subst e
    obtain ⟨e, hok⟩ := g_pr hok
    try subst e
    obtain ⟨e, hok⟩ := g_pr hok
    try subst e
    obtain ⟨e, hok⟩ := g_pr hok
    try subst e
    obtain ⟨e, hok⟩ := g_pr hok
    try subst e
    obtain ⟨e, hok⟩ := g_pr hok
    try subst e
    obtain ⟨e, hok⟩ := g_pr hok
    try subst e
    obtain ⟨e, hok⟩ := g_pr hok
    try subst e
    obtain ⟨e, hok⟩ := g_pr hok
    try subst e
    cases hok
    exact cr_i hx hb hr hlocks hQ dX9_does_239 hP hS
  replace hok := g_neg hok c23
  refine lv_tableOut (tgt := 240) hx hb dX9_does_1 (by have b0 := lv_neT (a := 98) c0 rfl; have b1 := lv_neT (a := 99) c1 rfl; have b2 := lv_neT (a := 100) c2 rfl; have b3 := lv_neT (a := 101) c3 rfl; have b4 := lv_neT (a := 102) c4 rfl; have b5 := lv_neT (a := 103) c5 rfl; have b6 := lv_neT (a := 104) c6 rfl; have b7 := lv_neT (a := 105) c7 rfl; have b8 := lv_neT (a := 106) c8 rfl; have b9 := lv_neT (a := 107) c9 rfl; have b10 := lv_neT (a := 108) c10 rfl; have b11 := lv_neT (a := 109) c11 rfl; have b12 := lv_neT (a := 110) c12 rfl; have b13 := lv_neT (a := 111) c13 rfl; have b14 := lv_neT (a := 112) c14 rfl; have b15 := lv_neT (a := 113) c15 rfl; have b16 := lv_neT (a := 114) c16 rfl; have b17 := lv_neT (a := 115) c17 rfl; have b18 := lv_neT (a := 116) c18 rfl; have b19 := lv_neT (a := 117) c19 rfl; have b20 := lv_neT (a := 118) c20 rfl; have b21 := lv_neT (a := 119) c21 rfl; have b22 := lv_neT (a := 120) c22 rfl; have b23 := lv_neT (a := 121) c23 rfl; omega) (by decide) ?_
  refine lv_aload_n hx hb dX9_does_240 rfl (lv_at hl 0 rfl) ?_
  refine lv_aload_n hx hb dX9_does_241 rfl (lv_at hl 0 rfl) ?_
  refine va_get (ci := 9) (v := .ref h0_told) (C := RX9) (T := TX9) (N := 49) hx hb hts hinX9 hown hK hP 0 rfl rfl 46 (by decide) (hts _ (List.mem_of_getElem? (i := 1) rfl)) (fun _ h9 => h9) rfl dX9_does_242 ?_
  refine lv_iconst (v := 0) hx hb dX9_does_245 (by decide) ?_
  refine x_iald (k := 0) hx hb hK hP 17 0 rfl rfl (show ¬ ((0:Int32) < 0 ∨ 2 ≤ (0:Int32).toNatClampNeg) by decide) (by decide) dX9_does_246 ?_
  obtain ⟨r193, o194, o195, o196, o197, o198, o199, o200, o201, o202, hq, hok⟩ := g_bnd10 hok
  refine cG (is := [0, 1, 15, 16]) (wc := (wm_X9_step cA h0 h0_g h0_p h0_causes h0_kept h0_changed h0_rows h0_sorts h0_sizes h0_moved h0_outs h0_losses h0_levelOf h0_levelOften h0_to h0_round h0_tail h0_path h0_leastOn h0_period h0_amplitude h0_basin h0_numbered h0_isReached h0_tape h0_told h0_traced s0__isKept s0__done s0__undoable s0__redoable s0__all s0__v s0__loss s0__isOver s0__hasCauses s0__outMany s0__overMany s0__isHalted s0__levelMany s0__rounds s0__stuck s0__onRounds s0__longest s0__loudest s0__reached s0__isAnyOver s0__taped s0__at s0__ran s0_g s0_p s0_causes)) (w1 := (wm_X9_step cA h0 h0_g h0_p h0_causes h0_kept h0_changed h0_rows h0_sorts h0_sizes h0_moved h0_outs h0_losses h0_levelOf h0_levelOften h0_to h0_round h0_tail h0_path h0_leastOn h0_period h0_amplitude h0_basin h0_numbered h0_isReached h0_tape h0_told h0_traced s0__isKept o194 s0__undoable s0__redoable o195 o196 o197 o198 o199 s0__outMany s0__overMany s0__isHalted s0__levelMany s0__rounds s0__stuck s0__onRounds s0__longest s0__loudest s0__reached s0__isAnyOver s0__taped s0__at s0__ran o200 o201 o202)) (rv := (some (.int r193))) (st1 := [.int r193]) (va_runV (Ts := wsX9_does) (As := [.int (s0_told 0)]) (rest := []) ⟨hx, hb, hml, hown, hts⟩ (c_X9_step l G cA ts h0 h0_g h0_p h0_causes h0_kept h0_changed h0_rows h0_sorts h0_sizes h0_moved h0_outs h0_losses h0_levelOf h0_levelOften h0_to h0_round h0_tail h0_path h0_leastOn h0_period h0_amplitude h0_basin h0_numbered h0_isReached h0_tape h0_told h0_traced (s0_told 0) s0__isKept s0__done s0__undoable s0__redoable s0__all s0__v s0__loss s0__isOver s0__hasCauses s0__outMany s0__overMany s0__isHalted s0__levelMany s0__rounds s0__stuck s0__onRounds s0__longest s0__loudest s0__reached s0__isAnyOver s0__taped s0__at s0__ran s0_g s0_p s0_causes r193 o194 o195 o196 o197 o198 o199 o200 o201 o202 hq s.heap.size) (cwV 1 hts gX9_does_X9_step rfl rfl rfl (by decide +kernel) ⟨Nat.le_of_ble_eq_true rfl, Nat.le_of_ble_eq_true rfl⟩) (pre_V (ci := 9) (q0 := 0) (is := [0, 1, 15, 16]) rfl rfl hP hD hS hA hK hZ (by decide +kernel) (by rfl)) rfl rfl hl.1 rfl (by exact lv_room (Nat.le_of_ble_eq_true rfl)) dX9_does_247 ⟨Nat.le_refl _, Nat.le_refl _⟩) hP hD hS hA (by decide +kernel) (by rfl) (by rfl) rfl (fun H locs hP hD hS => ?_)
  have hP : va_P G vwCl (wm_X9_does cA h0 h0_g h0_changed h0_changed_e h0_p h0_causes h0_told h0_kept h0_rows h0_sorts h0_sizes h0_moved h0_outs h0_losses h0_levelOf h0_levelOften h0_to h0_round h0_tail h0_path h0_leastOn h0_period h0_amplitude h0_basin h0_numbered h0_isReached h0_tape h0_traced s0__isKept o194 s0__undoable s0__redoable o195 o196 o197 o198 o199 s0__outMany s0__overMany s0__isHalted s0__levelMany s0__rounds s0__stuck s0__onRounds s0__longest s0__loudest s0__reached s0__isAnyOver s0__taped s0__at s0__ran o200 s0_changed_e o201 o202 s0_told) H := hP
  have hD : va_D A (wm_X9_does cA h0 h0_g h0_changed h0_changed_e h0_p h0_causes h0_told h0_kept h0_rows h0_sorts h0_sizes h0_moved h0_outs h0_losses h0_levelOf h0_levelOften h0_to h0_round h0_tail h0_path h0_leastOn h0_period h0_amplitude h0_basin h0_numbered h0_isReached h0_tape h0_traced s0__isKept o194 s0__undoable s0__redoable o195 o196 o197 o198 o199 s0__outMany s0__overMany s0__isHalted s0__levelMany s0__rounds s0__stuck s0__onRounds s0__longest s0__loudest s0__reached s0__isAnyOver s0__taped s0__at s0__ran o200 s0_changed_e o201 o202 s0_told) := hD
  obtain ⟨e, hok⟩ := g_pr hok
  try subst e
  obtain ⟨e, hok⟩ := g_pr hok
  try subst e
  obtain ⟨e, hok⟩ := g_pr hok
  try subst e
  obtain ⟨e, hok⟩ := g_pr hok
  try subst e
  obtain ⟨e, hok⟩ := g_pr hok
  try subst e
  obtain ⟨e, hok⟩ := g_pr hok
  try subst e
  obtain ⟨e, hok⟩ := g_pr hok
  try subst e
  obtain ⟨e, hok⟩ := g_pr hok
  try subst e
  obtain ⟨e, hok⟩ := g_pr hok
  try subst e
  obtain ⟨e, hok⟩ := g_pr hok
  try subst e
  obtain ⟨e, hok⟩ := g_pr hok
  try subst e
  obtain ⟨e, hok⟩ := g_pr hok
  try subst e
  cases hok
  exact cr_i hx hb hr hlocks hQ dX9_does_250 hP hS
