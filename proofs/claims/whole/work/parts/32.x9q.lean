set_option maxHeartbeats 40000000 in
set_option maxRecDepth 100000 in
theorem c_X9_wipe (l : Launch) (G : va_G) (cA : Nat → ClassId) (ts : Nat → Nat) (h0 : Nat) (h0_g : Nat) (h0_kept : Nat) (h0_changed : Nat) (h0_p : Nat) (h0_causes : Nat) (h0_rows : Nat) (h0_sorts : Nat) (h0_sizes : Nat) (h0_moved : Nat) (h0_outs : Nat) (h0_losses : Nat) (h0_levelOf : Nat) (h0_levelOften : Nat) (h0_to : Nat) (h0_round : Nat) (h0_tail : Nat) (h0_path : Nat) (h0_leastOn : Nat) (h0_period : Nat) (h0_amplitude : Nat) (h0_basin : Nat) (h0_numbered : Nat) (h0_isReached : Nat) (h0_tape : Nat) (h0_told : Nat) (h0_traced : Nat) (s0__isKept : Int32) (s0__done : Int32) (s0__undoable : Int32) (s0__redoable : Int32) (s0__all : Int32) (s0__v : Int32) (s0__loss : Int32) (s0__isOver : Int32) (s0__hasCauses : Int32) (s0__outMany : Int32) (s0__overMany : Int32) (s0__isHalted : Int32) (s0__levelMany : Int32) (s0__rounds : Int32) (s0__stuck : Int32) (s0__onRounds : Int32) (s0__longest : Int32) (s0__loudest : Int32) (s0__reached : Int32) (s0__isAnyOver : Int32) (s0__taped : Int32) (s0__at : Int32) (s0__ran : Int32) (r : Int32) (o0__taped : Int32) (hok : fX9_wipe s0__taped = some (r, o0__taped)) : Ct l G cA ts yX9_wipe wsX9_wipe 1 40 [.ref h0] (wm_X9_wipe cA h0 h0_g h0_kept h0_changed h0_p h0_causes h0_rows h0_sorts h0_sizes h0_moved h0_outs h0_losses h0_levelOf h0_levelOften h0_to h0_round h0_tail h0_path h0_leastOn h0_period h0_amplitude h0_basin h0_numbered h0_isReached h0_tape h0_told h0_traced s0__isKept s0__done s0__undoable s0__redoable s0__all s0__v s0__loss s0__isOver s0__hasCauses s0__outMany s0__overMany s0__isHalted s0__levelMany s0__rounds s0__stuck s0__onRounds s0__longest s0__loudest s0__reached s0__isAnyOver s0__taped s0__at s0__ran) (wm_X9_wipe cA h0 h0_g h0_kept h0_changed h0_p h0_causes h0_rows h0_sorts h0_sizes h0_moved h0_outs h0_losses h0_levelOf h0_levelOften h0_to h0_round h0_tail h0_path h0_leastOn h0_period h0_amplitude h0_basin h0_numbered h0_isReached h0_tape h0_told h0_traced s0__isKept s0__done s0__undoable s0__redoable s0__all s0__v s0__loss s0__isOver s0__hasCauses s0__outMany s0__overMany s0__isHalted s0__levelMany s0__rounds s0__stuck s0__onRounds s0__longest s0__loudest s0__reached s0__isAnyOver o0__taped s0__at s0__ran) (some (.int r)) := by
  refine Ct.intro (cc := cX9_wipe) (maxL := 2) (ret := some .int) (by decide +kernel) rfl (Nat.le_of_ble_eq_true rfl) ?_
  intro p e s m ar below meth c A Q hx hb hr hml hown hlocks hts hK hZ hA hQ hP hD hS ls hl
  have hown : s.vm.findClass RX9 = some m.cls := hown
  have hinX9 : ∀ w ∈ wsX90, w ∈ wsX9_wipe := fun _ h => List.mem_cons_of_mem _ (List.mem_append_right _ (h))
  have hl : lv_has ls 2 [(0, .ref h0)] := hl
  have hP : va_P G vwCl (wm_X9_wipe cA h0 h0_g h0_kept h0_changed h0_p h0_causes h0_rows h0_sorts h0_sizes h0_moved h0_outs h0_losses h0_levelOf h0_levelOften h0_to h0_round h0_tail h0_path h0_leastOn h0_period h0_amplitude h0_basin h0_numbered h0_isReached h0_tape h0_told h0_traced s0__isKept s0__done s0__undoable s0__redoable s0__all s0__v s0__loss s0__isOver s0__hasCauses s0__outMany s0__overMany s0__isHalted s0__levelMany s0__rounds s0__stuck s0__onRounds s0__longest s0__loudest s0__reached s0__isAnyOver s0__taped s0__at s0__ran) s.heap := hP
  have hD : va_D A (wm_X9_wipe cA h0 h0_g h0_kept h0_changed h0_p h0_causes h0_rows h0_sorts h0_sizes h0_moved h0_outs h0_losses h0_levelOf h0_levelOften h0_to h0_round h0_tail h0_path h0_leastOn h0_period h0_amplitude h0_basin h0_numbered h0_isReached h0_tape h0_told h0_traced s0__isKept s0__done s0__undoable s0__redoable s0__all s0__v s0__loss s0__isOver s0__hasCauses s0__outMany s0__overMany s0__isHalted s0__levelMany s0__rounds s0__stuck s0__onRounds s0__longest s0__loudest s0__reached s0__isAnyOver s0__taped s0__at s0__ran) := hD
  unfold fX9_wipe at hok
  refine lv_aload_n hx hb dX9_wipe_0 rfl (lv_at hl 0 rfl) ?_
  refine va_get (ci := 9) (v := .int s0__taped) (C := RX9) (T := TX9) (N := 49) hx hb hts hinX9 hown hK hP 0 rfl rfl 44 (by decide) (hts _ (List.mem_of_getElem? (i := 1) rfl)) (fun _ h9 => h9) rfl dX9_wipe_1 ?_
  refine lv_istore_n (lv' := [(1, .int s0__taped), (0, .ref h0)]) hx hb dX9_wipe_4 rfl hl (by decide) rfl (fun ls hl => ?_)
  refine lv_aload_n hx hb dX9_wipe_5 rfl (lv_at hl 1 rfl) ?_
  refine lv_iconst (v := 0) hx hb dX9_wipe_6 (by decide) ?_
  refine va_put (D := G) (ci := 9) (v := .int (0:Int32)) (ty := .int) (C := RX9) (T := TX9) (N := 49) hx hb hts hinX9 tyX9 tyX9_ok nmX9 hown hK hP hD hS 0 rfl rfl 44 (by decide) (hts _ (List.mem_of_getElem? (i := 1) rfl)) (fun _ h9 => h9) rfl (by decide +kernel) rfl rfl (Nat.le_of_ble_eq_true rfl) dX9_wipe_7 (fun H locs hP hD hS => ?_)
  have hP : va_P G vwCl (wm_X9_wipe cA h0 h0_g h0_kept h0_changed h0_p h0_causes h0_rows h0_sorts h0_sizes h0_moved h0_outs h0_losses h0_levelOf h0_levelOften h0_to h0_round h0_tail h0_path h0_leastOn h0_period h0_amplitude h0_basin h0_numbered h0_isReached h0_tape h0_told h0_traced s0__isKept s0__done s0__undoable s0__redoable s0__all s0__v s0__loss s0__isOver s0__hasCauses s0__outMany s0__overMany s0__isHalted s0__levelMany s0__rounds s0__stuck s0__onRounds s0__longest s0__loudest s0__reached s0__isAnyOver (0:Int32) s0__at s0__ran) H := hP
  have hD : va_D A (wm_X9_wipe cA h0 h0_g h0_kept h0_changed h0_p h0_causes h0_rows h0_sorts h0_sizes h0_moved h0_outs h0_losses h0_levelOf h0_levelOften h0_to h0_round h0_tail h0_path h0_leastOn h0_period h0_amplitude h0_basin h0_numbered h0_isReached h0_tape h0_told h0_traced s0__isKept s0__done s0__undoable s0__redoable s0__all s0__v s0__loss s0__isOver s0__hasCauses s0__outMany s0__overMany s0__isHalted s0__levelMany s0__rounds s0__stuck s0__onRounds s0__longest s0__loudest s0__reached s0__isAnyOver (0:Int32) s0__at s0__ran) := hD
  refine lv_iload_n hx hb dX9_wipe_10 rfl (lv_at hl 0 rfl) ?_
  cases hok
  exact cr_i hx hb hr hlocks hQ dX9_wipe_11 hP hS
set_option maxHeartbeats 40000000 in
set_option maxRecDepth 100000 in
theorem c_X9_here (l : Launch) (G : va_G) (cA : Nat → ClassId) (ts : Nat → Nat) (h0 : Nat) (h0_tape : Nat) (h0_g : Nat) (h0_kept : Nat) (h0_changed : Nat) (h0_p : Nat) (h0_causes : Nat) (h0_rows : Nat) (h0_sorts : Nat) (h0_sizes : Nat) (h0_moved : Nat) (h0_outs : Nat) (h0_losses : Nat) (h0_levelOf : Nat) (h0_levelOften : Nat) (h0_to : Nat) (h0_round : Nat) (h0_tail : Nat) (h0_path : Nat) (h0_leastOn : Nat) (h0_period : Nat) (h0_amplitude : Nat) (h0_basin : Nat) (h0_numbered : Nat) (h0_isReached : Nat) (h0_told : Nat) (h0_traced : Nat) (s0__isKept : Int32) (s0__done : Int32) (s0__undoable : Int32) (s0__redoable : Int32) (s0__all : Int32) (s0__v : Int32) (s0__loss : Int32) (s0__isOver : Int32) (s0__hasCauses : Int32) (s0__outMany : Int32) (s0__overMany : Int32) (s0__isHalted : Int32) (s0__levelMany : Int32) (s0__rounds : Int32) (s0__stuck : Int32) (s0__onRounds : Int32) (s0__longest : Int32) (s0__loudest : Int32) (s0__reached : Int32) (s0__isAnyOver : Int32) (s0__taped : Int32) (s0__at : Int32) (s0__ran : Int32) (s0_tape : Nat → Int32) (r : Int32) (hok : fX9_here s0__taped s0__at s0_tape = some r) : Ct l G cA ts yX9_here wsX9_here 1 40 [.ref h0] (wm_X9_feed cA h0 h0_tape h0_g h0_kept h0_changed h0_p h0_causes h0_rows h0_sorts h0_sizes h0_moved h0_outs h0_losses h0_levelOf h0_levelOften h0_to h0_round h0_tail h0_path h0_leastOn h0_period h0_amplitude h0_basin h0_numbered h0_isReached h0_told h0_traced s0__isKept s0__done s0__undoable s0__redoable s0__all s0__v s0__loss s0__isOver s0__hasCauses s0__outMany s0__overMany s0__isHalted s0__levelMany s0__rounds s0__stuck s0__onRounds s0__longest s0__loudest s0__reached s0__isAnyOver s0__taped s0__at s0__ran s0_tape) (wm_X9_feed cA h0 h0_tape h0_g h0_kept h0_changed h0_p h0_causes h0_rows h0_sorts h0_sizes h0_moved h0_outs h0_losses h0_levelOf h0_levelOften h0_to h0_round h0_tail h0_path h0_leastOn h0_period h0_amplitude h0_basin h0_numbered h0_isReached h0_told h0_traced s0__isKept s0__done s0__undoable s0__redoable s0__all s0__v s0__loss s0__isOver s0__hasCauses s0__outMany s0__overMany s0__isHalted s0__levelMany s0__rounds s0__stuck s0__onRounds s0__longest s0__loudest s0__reached s0__isAnyOver s0__taped s0__at s0__ran s0_tape) (some (.int r)) := by
  refine Ct.intro (cc := cX9_here) (maxL := 1) (ret := some .int) (by decide +kernel) rfl (Nat.le_of_ble_eq_true rfl) ?_
  intro p e s m ar below meth c A Q hx hb hr hml hown hlocks hts hK hZ hA hQ hP hD hS ls hl
  have hown : s.vm.findClass RX9 = some m.cls := hown
  have hinX9 : ∀ w ∈ wsX90, w ∈ wsX9_here := fun _ h => List.mem_cons_of_mem _ (List.mem_append_right _ (h))
  have hl : lv_has ls 1 [(0, .ref h0)] := hl
  have hP : va_P G vwCl (wm_X9_feed cA h0 h0_tape h0_g h0_kept h0_changed h0_p h0_causes h0_rows h0_sorts h0_sizes h0_moved h0_outs h0_losses h0_levelOf h0_levelOften h0_to h0_round h0_tail h0_path h0_leastOn h0_period h0_amplitude h0_basin h0_numbered h0_isReached h0_told h0_traced s0__isKept s0__done s0__undoable s0__redoable s0__all s0__v s0__loss s0__isOver s0__hasCauses s0__outMany s0__overMany s0__isHalted s0__levelMany s0__rounds s0__stuck s0__onRounds s0__longest s0__loudest s0__reached s0__isAnyOver s0__taped s0__at s0__ran s0_tape) s.heap := hP
  have hD : va_D A (wm_X9_feed cA h0 h0_tape h0_g h0_kept h0_changed h0_p h0_causes h0_rows h0_sorts h0_sizes h0_moved h0_outs h0_losses h0_levelOf h0_levelOften h0_to h0_round h0_tail h0_path h0_leastOn h0_period h0_amplitude h0_basin h0_numbered h0_isReached h0_told h0_traced s0__isKept s0__done s0__undoable s0__redoable s0__all s0__v s0__loss s0__isOver s0__hasCauses s0__outMany s0__overMany s0__isHalted s0__levelMany s0__rounds s0__stuck s0__onRounds s0__longest s0__loudest s0__reached s0__isAnyOver s0__taped s0__at s0__ran s0_tape) := hD
  unfold fX9_here at hok
  refine lv_aload_n hx hb dX9_here_0 rfl (lv_at hl 0 rfl) ?_
  refine va_get (ci := 9) (v := .int s0__at) (C := RX9) (T := TX9) (N := 49) hx hb hts hinX9 hown hK hP 0 rfl rfl 45 (by decide) (hts _ (List.mem_of_getElem? (i := 1) rfl)) (fun _ h9 => h9) rfl dX9_here_1 ?_
  refine lv_aload_n hx hb dX9_here_4 rfl (lv_at hl 0 rfl) ?_
  refine va_get (ci := 9) (v := .int s0__taped) (C := RX9) (T := TX9) (N := 49) hx hb hts hinX9 hown hK hP 0 rfl rfl 44 (by decide) (hts _ (List.mem_of_getElem? (i := 2) rfl)) (fun _ h9 => h9) rfl dX9_here_5 ?_
  refine lv_icmp_ge (tgt := 23) hx hb dX9_here_8 (by decide) (fun c => ?_) (fun c => ?_)
  · replace hok := g_pos hok c
    refine lv_iconst (v := -1) hx hb dX9_here_23 (by decide) ?_
    cases hok
    exact cr_i hx hb hr hlocks hQ dX9_here_24 hP hS
  replace hok := g_neg hok c
  refine lv_aload_n hx hb dX9_here_11 rfl (lv_at hl 0 rfl) ?_
  refine va_get (ci := 9) (v := .ref h0_tape) (C := RX9) (T := TX9) (N := 49) hx hb hts hinX9 hown hK hP 0 rfl rfl 43 (by decide) (hts _ (List.mem_of_getElem? (i := 3) rfl)) (fun _ h9 => h9) rfl dX9_here_12 ?_
  refine lv_aload_n hx hb dX9_here_15 rfl (lv_at hl 0 rfl) ?_
  refine va_get (ci := 9) (v := .int s0__at) (C := RX9) (T := TX9) (N := 49) hx hb hts hinX9 hown hK hP 0 rfl rfl 45 (by decide) (hts _ (List.mem_of_getElem? (i := 1) rfl)) (fun _ h9 => h9) rfl dX9_here_16 ?_
  obtain ⟨hin, hok⟩ := g_no hok
  refine x_iald (k := s0__at.toNatClampNeg) hx hb hK hP 1 0 rfl rfl hin rfl dX9_here_19 ?_
  refine lv_goto (tgt := 24) hx hb dX9_here_20 (by decide) ?_
  cases hok
  exact cr_i hx hb hr hlocks hQ dX9_here_24 hP hS
set_option maxHeartbeats 40000000 in
set_option maxRecDepth 100000 in
theorem c_X9_isSign (l : Launch) (G : va_G) (cA : Nat → ClassId) (ts : Nat → Nat) (h0 : Nat) (h0_tape : Nat) (h0_g : Nat) (h0_kept : Nat) (h0_changed : Nat) (h0_p : Nat) (h0_causes : Nat) (h0_rows : Nat) (h0_sorts : Nat) (h0_sizes : Nat) (h0_moved : Nat) (h0_outs : Nat) (h0_losses : Nat) (h0_levelOf : Nat) (h0_levelOften : Nat) (h0_to : Nat) (h0_round : Nat) (h0_tail : Nat) (h0_path : Nat) (h0_leastOn : Nat) (h0_period : Nat) (h0_amplitude : Nat) (h0_basin : Nat) (h0_numbered : Nat) (h0_isReached : Nat) (h0_told : Nat) (h0_traced : Nat) (x1 : Int32) (s0__isKept : Int32) (s0__done : Int32) (s0__undoable : Int32) (s0__redoable : Int32) (s0__all : Int32) (s0__v : Int32) (s0__loss : Int32) (s0__isOver : Int32) (s0__hasCauses : Int32) (s0__outMany : Int32) (s0__overMany : Int32) (s0__isHalted : Int32) (s0__levelMany : Int32) (s0__rounds : Int32) (s0__stuck : Int32) (s0__onRounds : Int32) (s0__longest : Int32) (s0__loudest : Int32) (s0__reached : Int32) (s0__isAnyOver : Int32) (s0__taped : Int32) (s0__at : Int32) (s0__ran : Int32) (s0_tape : Nat → Int32) (r : Int32) (o0__at : Int32) (hok : fX9_isSign x1 s0__taped s0__at s0_tape = some (r, o0__at)) : Ct l G cA ts yX9_isSign wsX9_isSign 2 60 [.ref h0, .int x1] (wm_X9_feed cA h0 h0_tape h0_g h0_kept h0_changed h0_p h0_causes h0_rows h0_sorts h0_sizes h0_moved h0_outs h0_losses h0_levelOf h0_levelOften h0_to h0_round h0_tail h0_path h0_leastOn h0_period h0_amplitude h0_basin h0_numbered h0_isReached h0_told h0_traced s0__isKept s0__done s0__undoable s0__redoable s0__all s0__v s0__loss s0__isOver s0__hasCauses s0__outMany s0__overMany s0__isHalted s0__levelMany s0__rounds s0__stuck s0__onRounds s0__longest s0__loudest s0__reached s0__isAnyOver s0__taped s0__at s0__ran s0_tape) (wm_X9_feed cA h0 h0_tape h0_g h0_kept h0_changed h0_p h0_causes h0_rows h0_sorts h0_sizes h0_moved h0_outs h0_losses h0_levelOf h0_levelOften h0_to h0_round h0_tail h0_path h0_leastOn h0_period h0_amplitude h0_basin h0_numbered h0_isReached h0_told h0_traced s0__isKept s0__done s0__undoable s0__redoable s0__all s0__v s0__loss s0__isOver s0__hasCauses s0__outMany s0__overMany s0__isHalted s0__levelMany s0__rounds s0__stuck s0__onRounds s0__longest s0__loudest s0__reached s0__isAnyOver s0__taped o0__at s0__ran s0_tape) (some (.int r)) := by
  refine Ct.intro (cc := cX9_isSign) (maxL := 3) (ret := some .boolean) (by decide +kernel) rfl (Nat.le_of_ble_eq_true rfl) ?_
  intro p e s m ar below meth c A Q hx hb hr hml hown hlocks hts hK hZ hA hQ hP hD hS ls hl
  have hown : s.vm.findClass RX9 = some m.cls := hown
  have hinX9 : ∀ w ∈ wsX90, w ∈ wsX9_isSign := fun _ h => List.mem_cons_of_mem _ (List.mem_append_right _ (h))
  have hl : lv_has ls 3 [(0, .ref h0), (1, .int x1)] := hl
  have hP : va_P G vwCl (wm_X9_feed cA h0 h0_tape h0_g h0_kept h0_changed h0_p h0_causes h0_rows h0_sorts h0_sizes h0_moved h0_outs h0_losses h0_levelOf h0_levelOften h0_to h0_round h0_tail h0_path h0_leastOn h0_period h0_amplitude h0_basin h0_numbered h0_isReached h0_told h0_traced s0__isKept s0__done s0__undoable s0__redoable s0__all s0__v s0__loss s0__isOver s0__hasCauses s0__outMany s0__overMany s0__isHalted s0__levelMany s0__rounds s0__stuck s0__onRounds s0__longest s0__loudest s0__reached s0__isAnyOver s0__taped s0__at s0__ran s0_tape) s.heap := hP
  have hD : va_D A (wm_X9_feed cA h0 h0_tape h0_g h0_kept h0_changed h0_p h0_causes h0_rows h0_sorts h0_sizes h0_moved h0_outs h0_losses h0_levelOf h0_levelOften h0_to h0_round h0_tail h0_path h0_leastOn h0_period h0_amplitude h0_basin h0_numbered h0_isReached h0_told h0_traced s0__isKept s0__done s0__undoable s0__redoable s0__all s0__v s0__loss s0__isOver s0__hasCauses s0__outMany s0__overMany s0__isHalted s0__levelMany s0__rounds s0__stuck s0__onRounds s0__longest s0__loudest s0__reached s0__isAnyOver s0__taped s0__at s0__ran s0_tape) := hD
  have J_13 : ∀ (z0 : Int32) (c0__at : Int32) (H : Heap) (locs : List Loc) (ls : Array Slot), va_P G vwCl (wm_X9_feed cA h0 h0_tape h0_g h0_kept h0_changed h0_p h0_causes h0_rows h0_sorts h0_sizes h0_moved h0_outs h0_losses h0_levelOf h0_levelOften h0_to h0_round h0_tail h0_path h0_leastOn h0_period h0_amplitude h0_basin h0_numbered h0_isReached h0_told h0_traced s0__isKept s0__done s0__undoable s0__redoable s0__all s0__v s0__loss s0__isOver s0__hasCauses s0__outMany s0__overMany s0__isHalted s0__levelMany s0__rounds s0__stuck s0__onRounds s0__longest s0__loudest s0__reached s0__isAnyOver s0__taped c0__at s0__ran s0_tape) H → va_D A (wm_X9_feed cA h0 h0_tape h0_g h0_kept h0_changed h0_p h0_causes h0_rows h0_sorts h0_sizes h0_moved h0_outs h0_losses h0_levelOf h0_levelOften h0_to h0_round h0_tail h0_path h0_leastOn h0_period h0_amplitude h0_basin h0_numbered h0_isReached h0_told h0_traced s0__isKept s0__done s0__undoable s0__redoable s0__all s0__v s0__loss s0__isOver s0__hasCauses s0__outMany s0__overMany s0__isHalted s0__levelMany s0__rounds s0__stuck s0__onRounds s0__longest s0__loudest s0__reached s0__isAnyOver s0__taped c0__at s0__ran s0_tape) → va_S A s.heap H locs → lv_has ls 3 [(0, .ref h0)] → fX9_isSign_j13 x1 s0__taped s0_tape z0 c0__at = some (r, o0__at) → W p l e (rmX 2 60) s m ar below meth c H locs 0 0 Q (F0 m 13 ls [.int z0]) := by
    intro z0 c0__at H locs ls hP hD hS hl hok
    unfold fX9_isSign_j13 at hok
    refine lv_istore_n (lv' := [(2, .int z0), (0, .ref h0)]) hx hb dX9_isSign_13 rfl hl (by decide) rfl (fun ls hl => ?_)
    refine lv_aload_n hx hb dX9_isSign_14 rfl (lv_at hl 1 rfl) ?_
    refine lv_dup hx hb dX9_isSign_15 rfl ?_
    refine va_get (ci := 9) (v := .int c0__at) (C := RX9) (T := TX9) (N := 49) hx hb hts hinX9 hown hK hP 0 rfl rfl 45 (by decide) (hts _ (List.mem_of_getElem? (i := 1) rfl)) (fun _ h9 => h9) rfl dX9_isSign_16 ?_
    refine lv_iload_n hx hb dX9_isSign_19 rfl (lv_at hl 0 rfl) ?_
    refine lv_if_eq (tgt := 27) hx hb dX9_isSign_20 (by decide) (fun c => ?_) (fun c => ?_)
    · replace hok := g_pos hok c
      refine lv_iconst (v := 0) hx hb dX9_isSign_27 (by decide) ?_
      refine lv_iadd hx hb dX9_isSign_28 ?_
      refine va_put (D := G) (ci := 9) (v := .int (c0__at + (0:Int32))) (ty := .int) (C := RX9) (T := TX9) (N := 49) hx hb hts hinX9 tyX9 tyX9_ok nmX9 hown hK hP hD hS 0 rfl rfl 45 (by decide) (hts _ (List.mem_of_getElem? (i := 1) rfl)) (fun _ h9 => h9) rfl (by decide +kernel) rfl rfl (Nat.le_of_ble_eq_true rfl) dX9_isSign_29 (fun H locs hP hD hS => ?_)
      have hP : va_P G vwCl (wm_X9_feed cA h0 h0_tape h0_g h0_kept h0_changed h0_p h0_causes h0_rows h0_sorts h0_sizes h0_moved h0_outs h0_losses h0_levelOf h0_levelOften h0_to h0_round h0_tail h0_path h0_leastOn h0_period h0_amplitude h0_basin h0_numbered h0_isReached h0_told h0_traced s0__isKept s0__done s0__undoable s0__redoable s0__all s0__v s0__loss s0__isOver s0__hasCauses s0__outMany s0__overMany s0__isHalted s0__levelMany s0__rounds s0__stuck s0__onRounds s0__longest s0__loudest s0__reached s0__isAnyOver s0__taped (c0__at + (0:Int32)) s0__ran s0_tape) H := hP
      have hD : va_D A (wm_X9_feed cA h0 h0_tape h0_g h0_kept h0_changed h0_p h0_causes h0_rows h0_sorts h0_sizes h0_moved h0_outs h0_losses h0_levelOf h0_levelOften h0_to h0_round h0_tail h0_path h0_leastOn h0_period h0_amplitude h0_basin h0_numbered h0_isReached h0_told h0_traced s0__isKept s0__done s0__undoable s0__redoable s0__all s0__v s0__loss s0__isOver s0__hasCauses s0__outMany s0__overMany s0__isHalted s0__levelMany s0__rounds s0__stuck s0__onRounds s0__longest s0__loudest s0__reached s0__isAnyOver s0__taped (c0__at + (0:Int32)) s0__ran s0_tape) := hD
      refine lv_iload_n hx hb dX9_isSign_32 rfl (lv_at hl 0 rfl) ?_
      obtain ⟨hin, hok⟩ := g_no hok
      cases hok
      exact cr_z (ty := .boolean) (nar_z hin) hx hb hr hlocks hQ dX9_isSign_33 hP hS
    replace hok := g_neg hok c
    refine lv_iconst (v := 1) hx hb dX9_isSign_23 (by decide) ?_
    refine lv_goto (tgt := 28) hx hb dX9_isSign_24 (by decide) ?_
    refine lv_iadd hx hb dX9_isSign_28 ?_
    refine va_put (D := G) (ci := 9) (v := .int (c0__at + (1:Int32))) (ty := .int) (C := RX9) (T := TX9) (N := 49) hx hb hts hinX9 tyX9 tyX9_ok nmX9 hown hK hP hD hS 0 rfl rfl 45 (by decide) (hts _ (List.mem_of_getElem? (i := 1) rfl)) (fun _ h9 => h9) rfl (by decide +kernel) rfl rfl (Nat.le_of_ble_eq_true rfl) dX9_isSign_29 (fun H locs hP hD hS => ?_)
    have hP : va_P G vwCl (wm_X9_feed cA h0 h0_tape h0_g h0_kept h0_changed h0_p h0_causes h0_rows h0_sorts h0_sizes h0_moved h0_outs h0_losses h0_levelOf h0_levelOften h0_to h0_round h0_tail h0_path h0_leastOn h0_period h0_amplitude h0_basin h0_numbered h0_isReached h0_told h0_traced s0__isKept s0__done s0__undoable s0__redoable s0__all s0__v s0__loss s0__isOver s0__hasCauses s0__outMany s0__overMany s0__isHalted s0__levelMany s0__rounds s0__stuck s0__onRounds s0__longest s0__loudest s0__reached s0__isAnyOver s0__taped (c0__at + (1:Int32)) s0__ran s0_tape) H := hP
    have hD : va_D A (wm_X9_feed cA h0 h0_tape h0_g h0_kept h0_changed h0_p h0_causes h0_rows h0_sorts h0_sizes h0_moved h0_outs h0_losses h0_levelOf h0_levelOften h0_to h0_round h0_tail h0_path h0_leastOn h0_period h0_amplitude h0_basin h0_numbered h0_isReached h0_told h0_traced s0__isKept s0__done s0__undoable s0__redoable s0__all s0__v s0__loss s0__isOver s0__hasCauses s0__outMany s0__overMany s0__isHalted s0__levelMany s0__rounds s0__stuck s0__onRounds s0__longest s0__loudest s0__reached s0__isAnyOver s0__taped (c0__at + (1:Int32)) s0__ran s0_tape) := hD
    refine lv_iload_n hx hb dX9_isSign_32 rfl (lv_at hl 0 rfl) ?_
    obtain ⟨hin, hok⟩ := g_no hok
    cases hok
    exact cr_z (ty := .boolean) (nar_z hin) hx hb hr hlocks hQ dX9_isSign_33 hP hS
  unfold fX9_isSign at hok
  refine lv_aload_n hx hb dX9_isSign_0 rfl (lv_at hl 0 rfl) ?_
  obtain ⟨r1, hq, hok⟩ := g_bnd1 hok
  refine cG (is := [0, 1]) (wc := (wm_X9_feed cA h0 h0_tape h0_g h0_kept h0_changed h0_p h0_causes h0_rows h0_sorts h0_sizes h0_moved h0_outs h0_losses h0_levelOf h0_levelOften h0_to h0_round h0_tail h0_path h0_leastOn h0_period h0_amplitude h0_basin h0_numbered h0_isReached h0_told h0_traced s0__isKept s0__done s0__undoable s0__redoable s0__all s0__v s0__loss s0__isOver s0__hasCauses s0__outMany s0__overMany s0__isHalted s0__levelMany s0__rounds s0__stuck s0__onRounds s0__longest s0__loudest s0__reached s0__isAnyOver s0__taped s0__at s0__ran s0_tape)) (w1 := (wm_X9_feed cA h0 h0_tape h0_g h0_kept h0_changed h0_p h0_causes h0_rows h0_sorts h0_sizes h0_moved h0_outs h0_losses h0_levelOf h0_levelOften h0_to h0_round h0_tail h0_path h0_leastOn h0_period h0_amplitude h0_basin h0_numbered h0_isReached h0_told h0_traced s0__isKept s0__done s0__undoable s0__redoable s0__all s0__v s0__loss s0__isOver s0__hasCauses s0__outMany s0__overMany s0__isHalted s0__levelMany s0__rounds s0__stuck s0__onRounds s0__longest s0__loudest s0__reached s0__isAnyOver s0__taped s0__at s0__ran s0_tape)) (rv := (some (.int r1))) (st1 := [.int r1]) (va_runV (Ts := wsX9_isSign) (As := []) (rest := []) ⟨hx, hb, hml, hown, hts⟩ (c_X9_here l G cA ts h0 h0_tape h0_g h0_kept h0_changed h0_p h0_causes h0_rows h0_sorts h0_sizes h0_moved h0_outs h0_losses h0_levelOf h0_levelOften h0_to h0_round h0_tail h0_path h0_leastOn h0_period h0_amplitude h0_basin h0_numbered h0_isReached h0_told h0_traced s0__isKept s0__done s0__undoable s0__redoable s0__all s0__v s0__loss s0__isOver s0__hasCauses s0__outMany s0__overMany s0__isHalted s0__levelMany s0__rounds s0__stuck s0__onRounds s0__longest s0__loudest s0__reached s0__isAnyOver s0__taped s0__at s0__ran s0_tape r1 hq s.heap.size) (cwV 0 hts gX9_isSign_X9_here rfl rfl rfl (by decide +kernel) ⟨Nat.le_of_ble_eq_true rfl, Nat.le_of_ble_eq_true rfl⟩) (pre_V (ci := 9) (q0 := 0) (is := [0, 1]) rfl rfl hP hD hS hA hK hZ (by decide +kernel) (by rfl)) rfl rfl hl.1 rfl (by exact lv_room (Nat.le_of_ble_eq_true rfl)) dX9_isSign_1 ⟨Nat.le_refl _, Nat.le_refl _⟩) hP hD hS hA (by decide +kernel) (by rfl) (by rfl) rfl (fun H locs hP hD hS => ?_)
  have hP : va_P G vwCl (wm_X9_feed cA h0 h0_tape h0_g h0_kept h0_changed h0_p h0_causes h0_rows h0_sorts h0_sizes h0_moved h0_outs h0_losses h0_levelOf h0_levelOften h0_to h0_round h0_tail h0_path h0_leastOn h0_period h0_amplitude h0_basin h0_numbered h0_isReached h0_told h0_traced s0__isKept s0__done s0__undoable s0__redoable s0__all s0__v s0__loss s0__isOver s0__hasCauses s0__outMany s0__overMany s0__isHalted s0__levelMany s0__rounds s0__stuck s0__onRounds s0__longest s0__loudest s0__reached s0__isAnyOver s0__taped s0__at s0__ran s0_tape) H := hP
  have hD : va_D A (wm_X9_feed cA h0 h0_tape h0_g h0_kept h0_changed h0_p h0_causes h0_rows h0_sorts h0_sizes h0_moved h0_outs h0_losses h0_levelOf h0_levelOften h0_to h0_round h0_tail h0_path h0_leastOn h0_period h0_amplitude h0_basin h0_numbered h0_isReached h0_told h0_traced s0__isKept s0__done s0__undoable s0__redoable s0__all s0__v s0__loss s0__isOver s0__hasCauses s0__outMany s0__overMany s0__isHalted s0__levelMany s0__rounds s0__stuck s0__onRounds s0__longest s0__loudest s0__reached s0__isAnyOver s0__taped s0__at s0__ran s0_tape) := hD
  refine lv_iload_n hx hb dX9_isSign_4 rfl (lv_at hl 1 rfl) ?_
  refine lv_icmp_ne (tgt := 12) hx hb dX9_isSign_5 (by decide) (fun c => ?_) (fun c => ?_)
  · replace hok := g_neg hok c
    refine lv_iconst (v := 0) hx hb dX9_isSign_12 (by decide) ?_
    exact J_13 (0:Int32) s0__at _ _ _ hP hD hS (lv_sub hl [0] rfl) hok
  replace hok := g_pos hok c
  refine lv_iconst (v := 1) hx hb dX9_isSign_8 (by decide) ?_
  refine lv_goto (tgt := 13) hx hb dX9_isSign_9 (by decide) ?_
  exact J_13 (1:Int32) s0__at _ _ _ hP hD hS (lv_sub hl [0] rfl) hok
set_option maxHeartbeats 40000000 in
set_option maxRecDepth 100000 in
theorem c_X9_isFigure (l : Launch) (G : va_G) (cA : Nat → ClassId) (ts : Nat → Nat) (h0 : Nat) (h0_tape : Nat) (h0_g : Nat) (h0_kept : Nat) (h0_changed : Nat) (h0_p : Nat) (h0_causes : Nat) (h0_rows : Nat) (h0_sorts : Nat) (h0_sizes : Nat) (h0_moved : Nat) (h0_outs : Nat) (h0_losses : Nat) (h0_levelOf : Nat) (h0_levelOften : Nat) (h0_to : Nat) (h0_round : Nat) (h0_tail : Nat) (h0_path : Nat) (h0_leastOn : Nat) (h0_period : Nat) (h0_amplitude : Nat) (h0_basin : Nat) (h0_numbered : Nat) (h0_isReached : Nat) (h0_told : Nat) (h0_traced : Nat) (s0__isKept : Int32) (s0__done : Int32) (s0__undoable : Int32) (s0__redoable : Int32) (s0__all : Int32) (s0__v : Int32) (s0__loss : Int32) (s0__isOver : Int32) (s0__hasCauses : Int32) (s0__outMany : Int32) (s0__overMany : Int32) (s0__isHalted : Int32) (s0__levelMany : Int32) (s0__rounds : Int32) (s0__stuck : Int32) (s0__onRounds : Int32) (s0__longest : Int32) (s0__loudest : Int32) (s0__reached : Int32) (s0__isAnyOver : Int32) (s0__taped : Int32) (s0__at : Int32) (s0__ran : Int32) (s0_tape : Nat → Int32) (r : Int32) (hok : fX9_isFigure s0__taped s0__at s0_tape = some r) : Ct l G cA ts yX9_isFigure wsX9_isFigure 2 65 [.ref h0] (wm_X9_feed cA h0 h0_tape h0_g h0_kept h0_changed h0_p h0_causes h0_rows h0_sorts h0_sizes h0_moved h0_outs h0_losses h0_levelOf h0_levelOften h0_to h0_round h0_tail h0_path h0_leastOn h0_period h0_amplitude h0_basin h0_numbered h0_isReached h0_told h0_traced s0__isKept s0__done s0__undoable s0__redoable s0__all s0__v s0__loss s0__isOver s0__hasCauses s0__outMany s0__overMany s0__isHalted s0__levelMany s0__rounds s0__stuck s0__onRounds s0__longest s0__loudest s0__reached s0__isAnyOver s0__taped s0__at s0__ran s0_tape) (wm_X9_feed cA h0 h0_tape h0_g h0_kept h0_changed h0_p h0_causes h0_rows h0_sorts h0_sizes h0_moved h0_outs h0_losses h0_levelOf h0_levelOften h0_to h0_round h0_tail h0_path h0_leastOn h0_period h0_amplitude h0_basin h0_numbered h0_isReached h0_told h0_traced s0__isKept s0__done s0__undoable s0__redoable s0__all s0__v s0__loss s0__isOver s0__hasCauses s0__outMany s0__overMany s0__isHalted s0__levelMany s0__rounds s0__stuck s0__onRounds s0__longest s0__loudest s0__reached s0__isAnyOver s0__taped s0__at s0__ran s0_tape) (some (.int r)) := by
  refine Ct.intro (cc := cX9_isFigure) (maxL := 1) (ret := some .boolean) (by decide +kernel) rfl (Nat.le_of_ble_eq_true rfl) ?_
  intro p e s m ar below meth c A Q hx hb hr hml hown hlocks hts hK hZ hA hQ hP hD hS ls hl
  have hown : s.vm.findClass RX9 = some m.cls := hown
  have hl : lv_has ls 1 [(0, .ref h0)] := hl
  have hP : va_P G vwCl (wm_X9_feed cA h0 h0_tape h0_g h0_kept h0_changed h0_p h0_causes h0_rows h0_sorts h0_sizes h0_moved h0_outs h0_losses h0_levelOf h0_levelOften h0_to h0_round h0_tail h0_path h0_leastOn h0_period h0_amplitude h0_basin h0_numbered h0_isReached h0_told h0_traced s0__isKept s0__done s0__undoable s0__redoable s0__all s0__v s0__loss s0__isOver s0__hasCauses s0__outMany s0__overMany s0__isHalted s0__levelMany s0__rounds s0__stuck s0__onRounds s0__longest s0__loudest s0__reached s0__isAnyOver s0__taped s0__at s0__ran s0_tape) s.heap := hP
  have hD : va_D A (wm_X9_feed cA h0 h0_tape h0_g h0_kept h0_changed h0_p h0_causes h0_rows h0_sorts h0_sizes h0_moved h0_outs h0_losses h0_levelOf h0_levelOften h0_to h0_round h0_tail h0_path h0_leastOn h0_period h0_amplitude h0_basin h0_numbered h0_isReached h0_told h0_traced s0__isKept s0__done s0__undoable s0__redoable s0__all s0__v s0__loss s0__isOver s0__hasCauses s0__outMany s0__overMany s0__isHalted s0__levelMany s0__rounds s0__stuck s0__onRounds s0__longest s0__loudest s0__reached s0__isAnyOver s0__taped s0__at s0__ran s0_tape) := hD
  unfold fX9_isFigure at hok
  refine lv_aload_n hx hb dX9_isFigure_0 rfl (lv_at hl 0 rfl) ?_
  obtain ⟨r1, hq, hok⟩ := g_bnd1 hok
  refine cG (is := [0, 1]) (wc := (wm_X9_feed cA h0 h0_tape h0_g h0_kept h0_changed h0_p h0_causes h0_rows h0_sorts h0_sizes h0_moved h0_outs h0_losses h0_levelOf h0_levelOften h0_to h0_round h0_tail h0_path h0_leastOn h0_period h0_amplitude h0_basin h0_numbered h0_isReached h0_told h0_traced s0__isKept s0__done s0__undoable s0__redoable s0__all s0__v s0__loss s0__isOver s0__hasCauses s0__outMany s0__overMany s0__isHalted s0__levelMany s0__rounds s0__stuck s0__onRounds s0__longest s0__loudest s0__reached s0__isAnyOver s0__taped s0__at s0__ran s0_tape)) (w1 := (wm_X9_feed cA h0 h0_tape h0_g h0_kept h0_changed h0_p h0_causes h0_rows h0_sorts h0_sizes h0_moved h0_outs h0_losses h0_levelOf h0_levelOften h0_to h0_round h0_tail h0_path h0_leastOn h0_period h0_amplitude h0_basin h0_numbered h0_isReached h0_told h0_traced s0__isKept s0__done s0__undoable s0__redoable s0__all s0__v s0__loss s0__isOver s0__hasCauses s0__outMany s0__overMany s0__isHalted s0__levelMany s0__rounds s0__stuck s0__onRounds s0__longest s0__loudest s0__reached s0__isAnyOver s0__taped s0__at s0__ran s0_tape)) (rv := (some (.int r1))) (st1 := [.int r1]) (va_runV (Ts := wsX9_isFigure) (As := []) (rest := []) ⟨hx, hb, hml, hown, hts⟩ (c_X9_here l G cA ts h0 h0_tape h0_g h0_kept h0_changed h0_p h0_causes h0_rows h0_sorts h0_sizes h0_moved h0_outs h0_losses h0_levelOf h0_levelOften h0_to h0_round h0_tail h0_path h0_leastOn h0_period h0_amplitude h0_basin h0_numbered h0_isReached h0_told h0_traced s0__isKept s0__done s0__undoable s0__redoable s0__all s0__v s0__loss s0__isOver s0__hasCauses s0__outMany s0__overMany s0__isHalted s0__levelMany s0__rounds s0__stuck s0__onRounds s0__longest s0__loudest s0__reached s0__isAnyOver s0__taped s0__at s0__ran s0_tape r1 hq s.heap.size) (cwV 0 hts gX9_isFigure_X9_here rfl rfl rfl (by decide +kernel) ⟨Nat.le_of_ble_eq_true rfl, Nat.le_of_ble_eq_true rfl⟩) (pre_V (ci := 9) (q0 := 0) (is := [0, 1]) rfl rfl hP hD hS hA hK hZ (by decide +kernel) (by rfl)) rfl rfl hl.1 rfl (by exact lv_room (Nat.le_of_ble_eq_true rfl)) dX9_isFigure_1 ⟨Nat.le_refl _, Nat.le_refl _⟩) hP hD hS hA (by decide +kernel) (by rfl) (by rfl) rfl (fun H locs hP hD hS => ?_)
  have hP : va_P G vwCl (wm_X9_feed cA h0 h0_tape h0_g h0_kept h0_changed h0_p h0_causes h0_rows h0_sorts h0_sizes h0_moved h0_outs h0_losses h0_levelOf h0_levelOften h0_to h0_round h0_tail h0_path h0_leastOn h0_period h0_amplitude h0_basin h0_numbered h0_isReached h0_told h0_traced s0__isKept s0__done s0__undoable s0__redoable s0__all s0__v s0__loss s0__isOver s0__hasCauses s0__outMany s0__overMany s0__isHalted s0__levelMany s0__rounds s0__stuck s0__onRounds s0__longest s0__loudest s0__reached s0__isAnyOver s0__taped s0__at s0__ran s0_tape) H := hP
  have hD : va_D A (wm_X9_feed cA h0 h0_tape h0_g h0_kept h0_changed h0_p h0_causes h0_rows h0_sorts h0_sizes h0_moved h0_outs h0_losses h0_levelOf h0_levelOften h0_to h0_round h0_tail h0_path h0_leastOn h0_period h0_amplitude h0_basin h0_numbered h0_isReached h0_told h0_traced s0__isKept s0__done s0__undoable s0__redoable s0__all s0__v s0__loss s0__isOver s0__hasCauses s0__outMany s0__overMany s0__isHalted s0__levelMany s0__rounds s0__stuck s0__onRounds s0__longest s0__loudest s0__reached s0__isAnyOver s0__taped s0__at s0__ran s0_tape) := hD
  refine lv_i2l (v := (r1.toInt64)) hx hb dX9_isFigure_4 rfl ?_
  refine lv_ldc2 (v := 48) hx hb hown (hts _ (List.mem_of_getElem? (i := 1) rfl)) dX9_isFigure_5 ?_
  refine lv_ldc2 (v := 57) hx hb hown (hts _ (List.mem_of_getElem? (i := 2) rfl)) dX9_isFigure_8 ?_
  obtain ⟨r2, hq, hok⟩ := g_bnd1 hok
  refine cG (is := []) (wc := (wm_X0_find cA)) (w1 := (wm_X0_find cA)) (rv := (some (.int r2))) (st1 := [.int r2]) (va_runS (Ts := wsX9_isFigure) (As := [.long (r1.toInt64), .long (48:Int64), .long (57:Int64)]) (rest := []) ⟨hx, hb, hml, hown, hts⟩ (c_X9_in l G cA ts (r1.toInt64) (48:Int64) (57:Int64) r2 hq H.size) (va_cwS 3 hts gX9_isFigure_X9_in rfl rfl rfl (by decide +kernel) ⟨Nat.le_of_ble_eq_true rfl, Nat.le_of_ble_eq_true rfl⟩) (pre_S (is := []) hP hD hS hA hK hZ (by decide +kernel) (by rfl)) rfl rfl hl.1 rfl (by exact lv_room (Nat.le_of_ble_eq_true rfl)) dX9_isFigure_11 ⟨Nat.le_refl _, Nat.le_refl _⟩) hP hD hS hA (by decide +kernel) (by rfl) (by rfl) rfl (fun H locs hP hD hS => ?_)
  have hP : va_P G vwCl (wm_X9_feed cA h0 h0_tape h0_g h0_kept h0_changed h0_p h0_causes h0_rows h0_sorts h0_sizes h0_moved h0_outs h0_losses h0_levelOf h0_levelOften h0_to h0_round h0_tail h0_path h0_leastOn h0_period h0_amplitude h0_basin h0_numbered h0_isReached h0_told h0_traced s0__isKept s0__done s0__undoable s0__redoable s0__all s0__v s0__loss s0__isOver s0__hasCauses s0__outMany s0__overMany s0__isHalted s0__levelMany s0__rounds s0__stuck s0__onRounds s0__longest s0__loudest s0__reached s0__isAnyOver s0__taped s0__at s0__ran s0_tape) H := hP
  have hD : va_D A (wm_X9_feed cA h0 h0_tape h0_g h0_kept h0_changed h0_p h0_causes h0_rows h0_sorts h0_sizes h0_moved h0_outs h0_losses h0_levelOf h0_levelOften h0_to h0_round h0_tail h0_path h0_leastOn h0_period h0_amplitude h0_basin h0_numbered h0_isReached h0_told h0_traced s0__isKept s0__done s0__undoable s0__redoable s0__all s0__v s0__loss s0__isOver s0__hasCauses s0__outMany s0__overMany s0__isHalted s0__levelMany s0__rounds s0__stuck s0__onRounds s0__longest s0__loudest s0__reached s0__isAnyOver s0__taped s0__at s0__ran s0_tape) := hD
  obtain ⟨hin, hok⟩ := g_no hok
  cases hok
  exact cr_z (ty := .boolean) (nar_z hin) hx hb hr hlocks hQ dX9_isFigure_14 hP hS
set_option maxHeartbeats 40000000 in
set_option maxRecDepth 100000 in
theorem c_X9_isTold (l : Launch) (G : va_G) (cA : Nat → ClassId) (ts : Nat → Nat) (h0 : Nat) (h0_tape : Nat) (h0_told : Nat) (h0_g : Nat) (h0_kept : Nat) (h0_changed : Nat) (h0_p : Nat) (h0_causes : Nat) (h0_rows : Nat) (h0_sorts : Nat) (h0_sizes : Nat) (h0_moved : Nat) (h0_outs : Nat) (h0_losses : Nat) (h0_levelOf : Nat) (h0_levelOften : Nat) (h0_to : Nat) (h0_round : Nat) (h0_tail : Nat) (h0_path : Nat) (h0_leastOn : Nat) (h0_period : Nat) (h0_amplitude : Nat) (h0_basin : Nat) (h0_numbered : Nat) (h0_isReached : Nat) (h0_traced : Nat) (x1 : Int32) (s0__isKept : Int32) (s0__done : Int32) (s0__undoable : Int32) (s0__redoable : Int32) (s0__all : Int32) (s0__v : Int32) (s0__loss : Int32) (s0__isOver : Int32) (s0__hasCauses : Int32) (s0__outMany : Int32) (s0__overMany : Int32) (s0__isHalted : Int32) (s0__levelMany : Int32) (s0__rounds : Int32) (s0__stuck : Int32) (s0__onRounds : Int32) (s0__longest : Int32) (s0__loudest : Int32) (s0__reached : Int32) (s0__isAnyOver : Int32) (s0__taped : Int32) (s0__at : Int32) (s0__ran : Int32) (s0_tape : Nat → Int32) (s0_told : Nat → Int32) (r : Int32) (o0__at : Int32) (o0_told : Nat → Int32) (hok : fX9_isTold x1 s0__taped s0__at s0_tape s0_told = some (r, o0__at, o0_told)) : Ct l G cA ts yX9_isTold wsX9_isTold 3 85 [.ref h0, .int x1] (wm_X9_isTold cA h0 h0_tape h0_told h0_g h0_kept h0_changed h0_p h0_causes h0_rows h0_sorts h0_sizes h0_moved h0_outs h0_losses h0_levelOf h0_levelOften h0_to h0_round h0_tail h0_path h0_leastOn h0_period h0_amplitude h0_basin h0_numbered h0_isReached h0_traced s0__isKept s0__done s0__undoable s0__redoable s0__all s0__v s0__loss s0__isOver s0__hasCauses s0__outMany s0__overMany s0__isHalted s0__levelMany s0__rounds s0__stuck s0__onRounds s0__longest s0__loudest s0__reached s0__isAnyOver s0__taped s0__at s0__ran s0_tape s0_told) (wm_X9_isTold cA h0 h0_tape h0_told h0_g h0_kept h0_changed h0_p h0_causes h0_rows h0_sorts h0_sizes h0_moved h0_outs h0_losses h0_levelOf h0_levelOften h0_to h0_round h0_tail h0_path h0_leastOn h0_period h0_amplitude h0_basin h0_numbered h0_isReached h0_traced s0__isKept s0__done s0__undoable s0__redoable s0__all s0__v s0__loss s0__isOver s0__hasCauses s0__outMany s0__overMany s0__isHalted s0__levelMany s0__rounds s0__stuck s0__onRounds s0__longest s0__loudest s0__reached s0__isAnyOver s0__taped o0__at s0__ran s0_tape o0_told) (some (.int r)) := by
  refine Ct.intro (cc := cX9_isTold) (maxL := 3) (ret := some .boolean) (by decide +kernel) rfl (Nat.le_of_ble_eq_true rfl) ?_
  intro p e s m ar below meth c A Q hx hb hr hml hown hlocks hts hK hZ hA hQ hP hD hS ls hl
  have hown : s.vm.findClass RX9 = some m.cls := hown
  have hinX9 : ∀ w ∈ wsX90, w ∈ wsX9_isTold := fun _ h => List.mem_cons_of_mem _ (List.mem_append_right _ (h))
  have hl : lv_has ls 3 [(0, .ref h0), (1, .int x1)] := hl
  have hP : va_P G vwCl (wm_X9_isTold cA h0 h0_tape h0_told h0_g h0_kept h0_changed h0_p h0_causes h0_rows h0_sorts h0_sizes h0_moved h0_outs h0_losses h0_levelOf h0_levelOften h0_to h0_round h0_tail h0_path h0_leastOn h0_period h0_amplitude h0_basin h0_numbered h0_isReached h0_traced s0__isKept s0__done s0__undoable s0__redoable s0__all s0__v s0__loss s0__isOver s0__hasCauses s0__outMany s0__overMany s0__isHalted s0__levelMany s0__rounds s0__stuck s0__onRounds s0__longest s0__loudest s0__reached s0__isAnyOver s0__taped s0__at s0__ran s0_tape s0_told) s.heap := hP
  have hD : va_D A (wm_X9_isTold cA h0 h0_tape h0_told h0_g h0_kept h0_changed h0_p h0_causes h0_rows h0_sorts h0_sizes h0_moved h0_outs h0_losses h0_levelOf h0_levelOften h0_to h0_round h0_tail h0_path h0_leastOn h0_period h0_amplitude h0_basin h0_numbered h0_isReached h0_traced s0__isKept s0__done s0__undoable s0__redoable s0__all s0__v s0__loss s0__isOver s0__hasCauses s0__outMany s0__overMany s0__isHalted s0__levelMany s0__rounds s0__stuck s0__onRounds s0__longest s0__loudest s0__reached s0__isAnyOver s0__taped s0__at s0__ran s0_tape s0_told) := hD
  have J_79 : ∀ (y2 : Int32) (c0__at : Int32) (c0_told : Nat → Int32) (H : Heap) (locs : List Loc) (ls : Array Slot), va_P G vwCl (wm_X9_isTold cA h0 h0_tape h0_told h0_g h0_kept h0_changed h0_p h0_causes h0_rows h0_sorts h0_sizes h0_moved h0_outs h0_losses h0_levelOf h0_levelOften h0_to h0_round h0_tail h0_path h0_leastOn h0_period h0_amplitude h0_basin h0_numbered h0_isReached h0_traced s0__isKept s0__done s0__undoable s0__redoable s0__all s0__v s0__loss s0__isOver s0__hasCauses s0__outMany s0__overMany s0__isHalted s0__levelMany s0__rounds s0__stuck s0__onRounds s0__longest s0__loudest s0__reached s0__isAnyOver s0__taped c0__at s0__ran s0_tape c0_told) H → va_D A (wm_X9_isTold cA h0 h0_tape h0_told h0_g h0_kept h0_changed h0_p h0_causes h0_rows h0_sorts h0_sizes h0_moved h0_outs h0_losses h0_levelOf h0_levelOften h0_to h0_round h0_tail h0_path h0_leastOn h0_period h0_amplitude h0_basin h0_numbered h0_isReached h0_traced s0__isKept s0__done s0__undoable s0__redoable s0__all s0__v s0__loss s0__isOver s0__hasCauses s0__outMany s0__overMany s0__isHalted s0__levelMany s0__rounds s0__stuck s0__onRounds s0__longest s0__loudest s0__reached s0__isAnyOver s0__taped c0__at s0__ran s0_tape c0_told) → va_S A s.heap H locs → lv_has ls 3 [(0, .ref h0), (1, .int x1), (2, .int y2)] → fX9_isTold_j79 x1 s0__taped s0_tape y2 c0__at c0_told = some (r, o0__at, o0_told) → W p l e (rmX 3 85) s m ar below meth c H locs 0 0 Q (F0 m 79 ls []) := by
    intro y2 c0__at c0_told H locs ls hP hD hS hl hok
    unfold fX9_isTold_j79 at hok
    refine lv_aload_n hx hb dX9_isTold_79 rfl (lv_at hl 0 rfl) ?_
    refine va_get (ci := 9) (v := .ref h0_told) (C := RX9) (T := TX9) (N := 49) hx hb hts hinX9 hown hK hP 0 rfl rfl 46 (by decide) (hts _ (List.mem_of_getElem? (i := 1) rfl)) (fun _ h9 => h9) rfl dX9_isTold_80 ?_
    refine lv_iload_n hx hb dX9_isTold_83 rfl (lv_at hl 1 rfl) ?_
    refine lv_iload_n hx hb dX9_isTold_84 rfl (lv_at hl 2 rfl) ?_
    refine lv_if_eq (tgt := 98) hx hb dX9_isTold_85 (by decide) (fun c => ?_) (fun c => ?_)
    · replace hok := g_pos hok c
      refine lv_aload_n hx hb dX9_isTold_98 rfl (lv_at hl 0 rfl) ?_
      refine va_get (ci := 9) (v := .ref h0_told) (C := RX9) (T := TX9) (N := 49) hx hb hts hinX9 hown hK hP 0 rfl rfl 46 (by decide) (hts _ (List.mem_of_getElem? (i := 1) rfl)) (fun _ h9 => h9) rfl dX9_isTold_99 ?_
      refine lv_iload_n hx hb dX9_isTold_102 rfl (lv_at hl 1 rfl) ?_
      obtain ⟨hin, hok⟩ := g_no hok
      refine x_iald (k := x1.toNatClampNeg) hx hb hK hP 2 0 rfl rfl hin rfl dX9_isTold_103 ?_
      obtain ⟨hin, hok⟩ := g_no hok
      refine x_iast (k := x1.toNatClampNeg) hx hb hK hP hD hS 2 0 rfl rfl hin rfl dX9_isTold_104 (fun H locs hP hD hS => ?_)
      have hP : va_P G vwCl (wm_X9_isTold cA h0 h0_tape h0_told h0_g h0_kept h0_changed h0_p h0_causes h0_rows h0_sorts h0_sizes h0_moved h0_outs h0_losses h0_levelOf h0_levelOften h0_to h0_round h0_tail h0_path h0_leastOn h0_period h0_amplitude h0_basin h0_numbered h0_isReached h0_traced s0__isKept s0__done s0__undoable s0__redoable s0__all s0__v s0__loss s0__isOver s0__hasCauses s0__outMany s0__overMany s0__isHalted s0__levelMany s0__rounds s0__stuck s0__onRounds s0__longest s0__loudest s0__reached s0__isAnyOver s0__taped c0__at s0__ran s0_tape (upd c0_told x1.toNatClampNeg (c0_told x1.toNatClampNeg))) H := hP
      have hD : va_D A (wm_X9_isTold cA h0 h0_tape h0_told h0_g h0_kept h0_changed h0_p h0_causes h0_rows h0_sorts h0_sizes h0_moved h0_outs h0_losses h0_levelOf h0_levelOften h0_to h0_round h0_tail h0_path h0_leastOn h0_period h0_amplitude h0_basin h0_numbered h0_isReached h0_traced s0__isKept s0__done s0__undoable s0__redoable s0__all s0__v s0__loss s0__isOver s0__hasCauses s0__outMany s0__overMany s0__isHalted s0__levelMany s0__rounds s0__stuck s0__onRounds s0__longest s0__loudest s0__reached s0__isAnyOver s0__taped c0__at s0__ran s0_tape (upd c0_told x1.toNatClampNeg (c0_told x1.toNatClampNeg))) := hD
      refine lv_iconst (v := 1) hx hb dX9_isTold_105 (by decide) ?_
      cases hok
      exact cr_z (ty := .boolean) (by decide +kernel) hx hb hr hlocks hQ dX9_isTold_106 hP hS
    replace hok := g_neg hok c
    refine lv_aload_n hx hb dX9_isTold_88 rfl (lv_at hl 0 rfl) ?_
    refine va_get (ci := 9) (v := .ref h0_told) (C := RX9) (T := TX9) (N := 49) hx hb hts hinX9 hown hK hP 0 rfl rfl 46 (by decide) (hts _ (List.mem_of_getElem? (i := 1) rfl)) (fun _ h9 => h9) rfl dX9_isTold_89 ?_
    refine lv_iload_n hx hb dX9_isTold_92 rfl (lv_at hl 1 rfl) ?_
    obtain ⟨hin, hok⟩ := g_no hok
    refine x_iald (k := x1.toNatClampNeg) hx hb hK hP 2 0 rfl rfl hin rfl dX9_isTold_93 ?_
    refine lv_ineg hx hb dX9_isTold_94 ?_
    refine lv_goto (tgt := 104) hx hb dX9_isTold_95 (by decide) ?_
    obtain ⟨hin, hok⟩ := g_no hok
    refine x_iast (k := x1.toNatClampNeg) hx hb hK hP hD hS 2 0 rfl rfl hin rfl dX9_isTold_104 (fun H locs hP hD hS => ?_)
    have hP : va_P G vwCl (wm_X9_isTold cA h0 h0_tape h0_told h0_g h0_kept h0_changed h0_p h0_causes h0_rows h0_sorts h0_sizes h0_moved h0_outs h0_losses h0_levelOf h0_levelOften h0_to h0_round h0_tail h0_path h0_leastOn h0_period h0_amplitude h0_basin h0_numbered h0_isReached h0_traced s0__isKept s0__done s0__undoable s0__redoable s0__all s0__v s0__loss s0__isOver s0__hasCauses s0__outMany s0__overMany s0__isHalted s0__levelMany s0__rounds s0__stuck s0__onRounds s0__longest s0__loudest s0__reached s0__isAnyOver s0__taped c0__at s0__ran s0_tape (upd c0_told x1.toNatClampNeg (-(c0_told x1.toNatClampNeg)))) H := hP
    have hD : va_D A (wm_X9_isTold cA h0 h0_tape h0_told h0_g h0_kept h0_changed h0_p h0_causes h0_rows h0_sorts h0_sizes h0_moved h0_outs h0_losses h0_levelOf h0_levelOften h0_to h0_round h0_tail h0_path h0_leastOn h0_period h0_amplitude h0_basin h0_numbered h0_isReached h0_traced s0__isKept s0__done s0__undoable s0__redoable s0__all s0__v s0__loss s0__isOver s0__hasCauses s0__outMany s0__overMany s0__isHalted s0__levelMany s0__rounds s0__stuck s0__onRounds s0__longest s0__loudest s0__reached s0__isAnyOver s0__taped c0__at s0__ran s0_tape (upd c0_told x1.toNatClampNeg (-(c0_told x1.toNatClampNeg)))) := hD
    refine lv_iconst (v := 1) hx hb dX9_isTold_105 (by decide) ?_
    cases hok
    exact cr_z (ty := .boolean) (by decide +kernel) hx hb hr hlocks hQ dX9_isTold_106 hP hS
  unfold fX9_isTold at hok
  refine lv_aload_n hx hb dX9_isTold_0 rfl (lv_at hl 0 rfl) ?_
  refine lv_bipush (v := 45) hx hb dX9_isTold_1 (by decide) ?_
  obtain ⟨r1, o2, hq, hok⟩ := g_bnd2 hok
  refine cG (is := [0, 1]) (wc := (wm_X9_feed cA h0 h0_tape h0_g h0_kept h0_changed h0_p h0_causes h0_rows h0_sorts h0_sizes h0_moved h0_outs h0_losses h0_levelOf h0_levelOften h0_to h0_round h0_tail h0_path h0_leastOn h0_period h0_amplitude h0_basin h0_numbered h0_isReached h0_told h0_traced s0__isKept s0__done s0__undoable s0__redoable s0__all s0__v s0__loss s0__isOver s0__hasCauses s0__outMany s0__overMany s0__isHalted s0__levelMany s0__rounds s0__stuck s0__onRounds s0__longest s0__loudest s0__reached s0__isAnyOver s0__taped s0__at s0__ran s0_tape)) (w1 := (wm_X9_feed cA h0 h0_tape h0_g h0_kept h0_changed h0_p h0_causes h0_rows h0_sorts h0_sizes h0_moved h0_outs h0_losses h0_levelOf h0_levelOften h0_to h0_round h0_tail h0_path h0_leastOn h0_period h0_amplitude h0_basin h0_numbered h0_isReached h0_told h0_traced s0__isKept s0__done s0__undoable s0__redoable s0__all s0__v s0__loss s0__isOver s0__hasCauses s0__outMany s0__overMany s0__isHalted s0__levelMany s0__rounds s0__stuck s0__onRounds s0__longest s0__loudest s0__reached s0__isAnyOver s0__taped o2 s0__ran s0_tape)) (rv := (some (.int r1))) (st1 := [.int r1]) (va_runV (Ts := wsX9_isTold) (As := [.int (45:Int32)]) (rest := []) ⟨hx, hb, hml, hown, hts⟩ (c_X9_isSign l G cA ts h0 h0_tape h0_g h0_kept h0_changed h0_p h0_causes h0_rows h0_sorts h0_sizes h0_moved h0_outs h0_losses h0_levelOf h0_levelOften h0_to h0_round h0_tail h0_path h0_leastOn h0_period h0_amplitude h0_basin h0_numbered h0_isReached h0_told h0_traced (45:Int32) s0__isKept s0__done s0__undoable s0__redoable s0__all s0__v s0__loss s0__isOver s0__hasCauses s0__outMany s0__overMany s0__isHalted s0__levelMany s0__rounds s0__stuck s0__onRounds s0__longest s0__loudest s0__reached s0__isAnyOver s0__taped s0__at s0__ran s0_tape r1 o2 hq s.heap.size) (cwV 1 hts gX9_isTold_X9_isSign rfl rfl rfl (by decide +kernel) ⟨Nat.le_of_ble_eq_true rfl, Nat.le_of_ble_eq_true rfl⟩) (pre_V (ci := 9) (q0 := 0) (is := [0, 1]) rfl rfl hP hD hS hA hK hZ (by decide +kernel) (by rfl)) rfl rfl hl.1 rfl (by exact lv_room (Nat.le_of_ble_eq_true rfl)) dX9_isTold_3 ⟨Nat.le_refl _, Nat.le_refl _⟩) hP hD hS hA (by decide +kernel) (by rfl) (by rfl) rfl (fun H locs hP hD hS => ?_)
  have hP : va_P G vwCl (wm_X9_isTold cA h0 h0_tape h0_told h0_g h0_kept h0_changed h0_p h0_causes h0_rows h0_sorts h0_sizes h0_moved h0_outs h0_losses h0_levelOf h0_levelOften h0_to h0_round h0_tail h0_path h0_leastOn h0_period h0_amplitude h0_basin h0_numbered h0_isReached h0_traced s0__isKept s0__done s0__undoable s0__redoable s0__all s0__v s0__loss s0__isOver s0__hasCauses s0__outMany s0__overMany s0__isHalted s0__levelMany s0__rounds s0__stuck s0__onRounds s0__longest s0__loudest s0__reached s0__isAnyOver s0__taped o2 s0__ran s0_tape s0_told) H := hP
  have hD : va_D A (wm_X9_isTold cA h0 h0_tape h0_told h0_g h0_kept h0_changed h0_p h0_causes h0_rows h0_sorts h0_sizes h0_moved h0_outs h0_losses h0_levelOf h0_levelOften h0_to h0_round h0_tail h0_path h0_leastOn h0_period h0_amplitude h0_basin h0_numbered h0_isReached h0_traced s0__isKept s0__done s0__undoable s0__redoable s0__all s0__v s0__loss s0__isOver s0__hasCauses s0__outMany s0__overMany s0__isHalted s0__levelMany s0__rounds s0__stuck s0__onRounds s0__longest s0__loudest s0__reached s0__isAnyOver s0__taped o2 s0__ran s0_tape s0_told) := hD
  refine lv_istore_n (lv' := [(2, .int r1), (0, .ref h0), (1, .int x1)]) hx hb dX9_isTold_6 rfl hl (by decide) rfl (fun ls hl => ?_)
  refine lv_aload_n hx hb dX9_isTold_7 rfl (lv_at hl 1 rfl) ?_
  obtain ⟨r3, hq, hok⟩ := g_bnd1 hok
  refine cG (is := [0, 1]) (wc := (wm_X9_feed cA h0 h0_tape h0_g h0_kept h0_changed h0_p h0_causes h0_rows h0_sorts h0_sizes h0_moved h0_outs h0_losses h0_levelOf h0_levelOften h0_to h0_round h0_tail h0_path h0_leastOn h0_period h0_amplitude h0_basin h0_numbered h0_isReached h0_told h0_traced s0__isKept s0__done s0__undoable s0__redoable s0__all s0__v s0__loss s0__isOver s0__hasCauses s0__outMany s0__overMany s0__isHalted s0__levelMany s0__rounds s0__stuck s0__onRounds s0__longest s0__loudest s0__reached s0__isAnyOver s0__taped o2 s0__ran s0_tape)) (w1 := (wm_X9_feed cA h0 h0_tape h0_g h0_kept h0_changed h0_p h0_causes h0_rows h0_sorts h0_sizes h0_moved h0_outs h0_losses h0_levelOf h0_levelOften h0_to h0_round h0_tail h0_path h0_leastOn h0_period h0_amplitude h0_basin h0_numbered h0_isReached h0_told h0_traced s0__isKept s0__done s0__undoable s0__redoable s0__all s0__v s0__loss s0__isOver s0__hasCauses s0__outMany s0__overMany s0__isHalted s0__levelMany s0__rounds s0__stuck s0__onRounds s0__longest s0__loudest s0__reached s0__isAnyOver s0__taped o2 s0__ran s0_tape)) (rv := (some (.int r3))) (st1 := [.int r3]) (va_runV (Ts := wsX9_isTold) (As := []) (rest := []) ⟨hx, hb, hml, hown, hts⟩ (c_X9_isFigure l G cA ts h0 h0_tape h0_g h0_kept h0_changed h0_p h0_causes h0_rows h0_sorts h0_sizes h0_moved h0_outs h0_losses h0_levelOf h0_levelOften h0_to h0_round h0_tail h0_path h0_leastOn h0_period h0_amplitude h0_basin h0_numbered h0_isReached h0_told h0_traced s0__isKept s0__done s0__undoable s0__redoable s0__all s0__v s0__loss s0__isOver s0__hasCauses s0__outMany s0__overMany s0__isHalted s0__levelMany s0__rounds s0__stuck s0__onRounds s0__longest s0__loudest s0__reached s0__isAnyOver s0__taped o2 s0__ran s0_tape r3 hq H.size) (cwV 0 hts gX9_isTold_X9_isFigure rfl rfl rfl (by decide +kernel) ⟨Nat.le_of_ble_eq_true rfl, Nat.le_of_ble_eq_true rfl⟩) (pre_V (ci := 9) (q0 := 0) (is := [0, 1]) rfl rfl hP hD hS hA hK hZ (by decide +kernel) (by rfl)) rfl rfl hl.1 rfl (by exact lv_room (Nat.le_of_ble_eq_true rfl)) dX9_isTold_8 ⟨Nat.le_refl _, Nat.le_refl _⟩) hP hD hS hA (by decide +kernel) (by rfl) (by rfl) rfl (fun H locs hP hD hS => ?_)
  have hP : va_P G vwCl (wm_X9_isTold cA h0 h0_tape h0_told h0_g h0_kept h0_changed h0_p h0_causes h0_rows h0_sorts h0_sizes h0_moved h0_outs h0_losses h0_levelOf h0_levelOften h0_to h0_round h0_tail h0_path h0_leastOn h0_period h0_amplitude h0_basin h0_numbered h0_isReached h0_traced s0__isKept s0__done s0__undoable s0__redoable s0__all s0__v s0__loss s0__isOver s0__hasCauses s0__outMany s0__overMany s0__isHalted s0__levelMany s0__rounds s0__stuck s0__onRounds s0__longest s0__loudest s0__reached s0__isAnyOver s0__taped o2 s0__ran s0_tape s0_told) H := hP
  have hD : va_D A (wm_X9_isTold cA h0 h0_tape h0_told h0_g h0_kept h0_changed h0_p h0_causes h0_rows h0_sorts h0_sizes h0_moved h0_outs h0_losses h0_levelOf h0_levelOften h0_to h0_round h0_tail h0_path h0_leastOn h0_period h0_amplitude h0_basin h0_numbered h0_isReached h0_traced s0__isKept s0__done s0__undoable s0__redoable s0__all s0__v s0__loss s0__isOver s0__hasCauses s0__outMany s0__overMany s0__isHalted s0__levelMany s0__rounds s0__stuck s0__onRounds s0__longest s0__loudest s0__reached s0__isAnyOver s0__taped o2 s0__ran s0_tape s0_told) := hD
  refine lv_if_ne (tgt := 16) hx hb dX9_isTold_11 (by decide) (fun c => ?_) (fun c => ?_)
  · replace hok := g_neg hok c
    refine lv_aload_n hx hb dX9_isTold_16 rfl (lv_at hl 1 rfl) ?_
    refine va_get (ci := 9) (v := .ref h0_told) (C := RX9) (T := TX9) (N := 49) hx hb hts hinX9 hown hK hP 0 rfl rfl 46 (by decide) (hts _ (List.mem_of_getElem? (i := 1) rfl)) (fun _ h9 => h9) rfl dX9_isTold_17 ?_
    refine lv_iload_n hx hb dX9_isTold_20 rfl (lv_at hl 2 rfl) ?_
    refine lv_aload_n hx hb dX9_isTold_21 rfl (lv_at hl 1 rfl) ?_
    obtain ⟨r4, hq, hok⟩ := g_bnd1 hok
    refine cG (is := [0, 1]) (wc := (wm_X9_feed cA h0 h0_tape h0_g h0_kept h0_changed h0_p h0_causes h0_rows h0_sorts h0_sizes h0_moved h0_outs h0_losses h0_levelOf h0_levelOften h0_to h0_round h0_tail h0_path h0_leastOn h0_period h0_amplitude h0_basin h0_numbered h0_isReached h0_told h0_traced s0__isKept s0__done s0__undoable s0__redoable s0__all s0__v s0__loss s0__isOver s0__hasCauses s0__outMany s0__overMany s0__isHalted s0__levelMany s0__rounds s0__stuck s0__onRounds s0__longest s0__loudest s0__reached s0__isAnyOver s0__taped o2 s0__ran s0_tape)) (w1 := (wm_X9_feed cA h0 h0_tape h0_g h0_kept h0_changed h0_p h0_causes h0_rows h0_sorts h0_sizes h0_moved h0_outs h0_losses h0_levelOf h0_levelOften h0_to h0_round h0_tail h0_path h0_leastOn h0_period h0_amplitude h0_basin h0_numbered h0_isReached h0_told h0_traced s0__isKept s0__done s0__undoable s0__redoable s0__all s0__v s0__loss s0__isOver s0__hasCauses s0__outMany s0__overMany s0__isHalted s0__levelMany s0__rounds s0__stuck s0__onRounds s0__longest s0__loudest s0__reached s0__isAnyOver s0__taped o2 s0__ran s0_tape)) (rv := (some (.int r4))) (st1 := [.int r4, .int x1, .ref h0_told]) (va_runV (Ts := wsX9_isTold) (As := []) (rest := [.int x1, .ref h0_told]) ⟨hx, hb, hml, hown, hts⟩ (c_X9_here l G cA ts h0 h0_tape h0_g h0_kept h0_changed h0_p h0_causes h0_rows h0_sorts h0_sizes h0_moved h0_outs h0_losses h0_levelOf h0_levelOften h0_to h0_round h0_tail h0_path h0_leastOn h0_period h0_amplitude h0_basin h0_numbered h0_isReached h0_told h0_traced s0__isKept s0__done s0__undoable s0__redoable s0__all s0__v s0__loss s0__isOver s0__hasCauses s0__outMany s0__overMany s0__isHalted s0__levelMany s0__rounds s0__stuck s0__onRounds s0__longest s0__loudest s0__reached s0__isAnyOver s0__taped o2 s0__ran s0_tape r4 hq H.size) (cwV 0 hts gX9_isTold_X9_here rfl rfl rfl (by decide +kernel) ⟨Nat.le_of_ble_eq_true rfl, Nat.le_of_ble_eq_true rfl⟩) (pre_V (ci := 9) (q0 := 0) (is := [0, 1]) rfl rfl hP hD hS hA hK hZ (by decide +kernel) (by rfl)) rfl rfl hl.1 rfl (by exact lv_room (Nat.le_of_ble_eq_true rfl)) dX9_isTold_22 ⟨Nat.le_refl _, Nat.le_refl _⟩) hP hD hS hA (by decide +kernel) (by rfl) (by rfl) rfl (fun H locs hP hD hS => ?_)
    have hP : va_P G vwCl (wm_X9_isTold cA h0 h0_tape h0_told h0_g h0_kept h0_changed h0_p h0_causes h0_rows h0_sorts h0_sizes h0_moved h0_outs h0_losses h0_levelOf h0_levelOften h0_to h0_round h0_tail h0_path h0_leastOn h0_period h0_amplitude h0_basin h0_numbered h0_isReached h0_traced s0__isKept s0__done s0__undoable s0__redoable s0__all s0__v s0__loss s0__isOver s0__hasCauses s0__outMany s0__overMany s0__isHalted s0__levelMany s0__rounds s0__stuck s0__onRounds s0__longest s0__loudest s0__reached s0__isAnyOver s0__taped o2 s0__ran s0_tape s0_told) H := hP
    have hD : va_D A (wm_X9_isTold cA h0 h0_tape h0_told h0_g h0_kept h0_changed h0_p h0_causes h0_rows h0_sorts h0_sizes h0_moved h0_outs h0_losses h0_levelOf h0_levelOften h0_to h0_round h0_tail h0_path h0_leastOn h0_period h0_amplitude h0_basin h0_numbered h0_isReached h0_traced s0__isKept s0__done s0__undoable s0__redoable s0__all s0__v s0__loss s0__isOver s0__hasCauses s0__outMany s0__overMany s0__isHalted s0__levelMany s0__rounds s0__stuck s0__onRounds s0__longest s0__loudest s0__reached s0__isAnyOver s0__taped o2 s0__ran s0_tape s0_told) := hD
    refine lv_bipush (v := 48) hx hb dX9_isTold_25 (by decide) ?_
    refine lv_isub hx hb dX9_isTold_27 ?_
    obtain ⟨hin, hok⟩ := g_no hok
    refine x_iast (k := x1.toNatClampNeg) hx hb hK hP hD hS 2 0 rfl rfl hin rfl dX9_isTold_28 (fun H locs hP hD hS => ?_)
    have hP : va_P G vwCl (wm_X9_isTold cA h0 h0_tape h0_told h0_g h0_kept h0_changed h0_p h0_causes h0_rows h0_sorts h0_sizes h0_moved h0_outs h0_losses h0_levelOf h0_levelOften h0_to h0_round h0_tail h0_path h0_leastOn h0_period h0_amplitude h0_basin h0_numbered h0_isReached h0_traced s0__isKept s0__done s0__undoable s0__redoable s0__all s0__v s0__loss s0__isOver s0__hasCauses s0__outMany s0__overMany s0__isHalted s0__levelMany s0__rounds s0__stuck s0__onRounds s0__longest s0__loudest s0__reached s0__isAnyOver s0__taped o2 s0__ran s0_tape (upd s0_told x1.toNatClampNeg (r4 - (48:Int32)))) H := hP
    have hD : va_D A (wm_X9_isTold cA h0 h0_tape h0_told h0_g h0_kept h0_changed h0_p h0_causes h0_rows h0_sorts h0_sizes h0_moved h0_outs h0_losses h0_levelOf h0_levelOften h0_to h0_round h0_tail h0_path h0_leastOn h0_period h0_amplitude h0_basin h0_numbered h0_isReached h0_traced s0__isKept s0__done s0__undoable s0__redoable s0__all s0__v s0__loss s0__isOver s0__hasCauses s0__outMany s0__overMany s0__isHalted s0__levelMany s0__rounds s0__stuck s0__onRounds s0__longest s0__loudest s0__reached s0__isAnyOver s0__taped o2 s0__ran s0_tape (upd s0_told x1.toNatClampNeg (r4 - (48:Int32)))) := hD
    refine lv_aload_n hx hb dX9_isTold_29 rfl (lv_at hl 1 rfl) ?_
    refine lv_dup hx hb dX9_isTold_30 rfl ?_
    refine va_get (ci := 9) (v := .int o2) (C := RX9) (T := TX9) (N := 49) hx hb hts hinX9 hown hK hP 0 rfl rfl 45 (by decide) (hts _ (List.mem_of_getElem? (i := 2) rfl)) (fun _ h9 => h9) rfl dX9_isTold_31 ?_
    refine lv_iconst (v := 1) hx hb dX9_isTold_34 (by decide) ?_
    refine lv_iadd hx hb dX9_isTold_35 ?_
    refine va_put (D := G) (ci := 9) (v := .int (o2 + (1:Int32))) (ty := .int) (C := RX9) (T := TX9) (N := 49) hx hb hts hinX9 tyX9 tyX9_ok nmX9 hown hK hP hD hS 0 rfl rfl 45 (by decide) (hts _ (List.mem_of_getElem? (i := 2) rfl)) (fun _ h9 => h9) rfl (by decide +kernel) rfl rfl (Nat.le_of_ble_eq_true rfl) dX9_isTold_36 (fun H locs hP hD hS => ?_)
    have hP : va_P G vwCl (wm_X9_isTold cA h0 h0_tape h0_told h0_g h0_kept h0_changed h0_p h0_causes h0_rows h0_sorts h0_sizes h0_moved h0_outs h0_losses h0_levelOf h0_levelOften h0_to h0_round h0_tail h0_path h0_leastOn h0_period h0_amplitude h0_basin h0_numbered h0_isReached h0_traced s0__isKept s0__done s0__undoable s0__redoable s0__all s0__v s0__loss s0__isOver s0__hasCauses s0__outMany s0__overMany s0__isHalted s0__levelMany s0__rounds s0__stuck s0__onRounds s0__longest s0__loudest s0__reached s0__isAnyOver s0__taped (o2 + (1:Int32)) s0__ran s0_tape (upd s0_told x1.toNatClampNeg (r4 - (48:Int32)))) H := hP
    have hD : va_D A (wm_X9_isTold cA h0 h0_tape h0_told h0_g h0_kept h0_changed h0_p h0_causes h0_rows h0_sorts h0_sizes h0_moved h0_outs h0_losses h0_levelOf h0_levelOften h0_to h0_round h0_tail h0_path h0_leastOn h0_period h0_amplitude h0_basin h0_numbered h0_isReached h0_traced s0__isKept s0__done s0__undoable s0__redoable s0__all s0__v s0__loss s0__isOver s0__hasCauses s0__outMany s0__overMany s0__isHalted s0__levelMany s0__rounds s0__stuck s0__onRounds s0__longest s0__loudest s0__reached s0__isAnyOver s0__taped (o2 + (1:Int32)) s0__ran s0_tape (upd s0_told x1.toNatClampNeg (r4 - (48:Int32)))) := hD
    refine lv_aload_n hx hb dX9_isTold_39 rfl (lv_at hl 1 rfl) ?_
    obtain ⟨r5, hq, hok⟩ := g_bnd1 hok
    refine cG (is := [0, 1]) (wc := (wm_X9_feed cA h0 h0_tape h0_g h0_kept h0_changed h0_p h0_causes h0_rows h0_sorts h0_sizes h0_moved h0_outs h0_losses h0_levelOf h0_levelOften h0_to h0_round h0_tail h0_path h0_leastOn h0_period h0_amplitude h0_basin h0_numbered h0_isReached h0_told h0_traced s0__isKept s0__done s0__undoable s0__redoable s0__all s0__v s0__loss s0__isOver s0__hasCauses s0__outMany s0__overMany s0__isHalted s0__levelMany s0__rounds s0__stuck s0__onRounds s0__longest s0__loudest s0__reached s0__isAnyOver s0__taped (o2 + (1:Int32)) s0__ran s0_tape)) (w1 := (wm_X9_feed cA h0 h0_tape h0_g h0_kept h0_changed h0_p h0_causes h0_rows h0_sorts h0_sizes h0_moved h0_outs h0_losses h0_levelOf h0_levelOften h0_to h0_round h0_tail h0_path h0_leastOn h0_period h0_amplitude h0_basin h0_numbered h0_isReached h0_told h0_traced s0__isKept s0__done s0__undoable s0__redoable s0__all s0__v s0__loss s0__isOver s0__hasCauses s0__outMany s0__overMany s0__isHalted s0__levelMany s0__rounds s0__stuck s0__onRounds s0__longest s0__loudest s0__reached s0__isAnyOver s0__taped (o2 + (1:Int32)) s0__ran s0_tape)) (rv := (some (.int r5))) (st1 := [.int r5]) (va_runV (Ts := wsX9_isTold) (As := []) (rest := []) ⟨hx, hb, hml, hown, hts⟩ (c_X9_isFigure l G cA ts h0 h0_tape h0_g h0_kept h0_changed h0_p h0_causes h0_rows h0_sorts h0_sizes h0_moved h0_outs h0_losses h0_levelOf h0_levelOften h0_to h0_round h0_tail h0_path h0_leastOn h0_period h0_amplitude h0_basin h0_numbered h0_isReached h0_told h0_traced s0__isKept s0__done s0__undoable s0__redoable s0__all s0__v s0__loss s0__isOver s0__hasCauses s0__outMany s0__overMany s0__isHalted s0__levelMany s0__rounds s0__stuck s0__onRounds s0__longest s0__loudest s0__reached s0__isAnyOver s0__taped (o2 + (1:Int32)) s0__ran s0_tape r5 hq H.size) (cwV 0 hts gX9_isTold_X9_isFigure rfl rfl rfl (by decide +kernel) ⟨Nat.le_of_ble_eq_true rfl, Nat.le_of_ble_eq_true rfl⟩) (pre_V (ci := 9) (q0 := 0) (is := [0, 1]) rfl rfl hP hD hS hA hK hZ (by decide +kernel) (by rfl)) rfl rfl hl.1 rfl (by exact lv_room (Nat.le_of_ble_eq_true rfl)) dX9_isTold_40 ⟨Nat.le_refl _, Nat.le_refl _⟩) hP hD hS hA (by decide +kernel) (by rfl) (by rfl) rfl (fun H locs hP hD hS => ?_)
    have hP : va_P G vwCl (wm_X9_isTold cA h0 h0_tape h0_told h0_g h0_kept h0_changed h0_p h0_causes h0_rows h0_sorts h0_sizes h0_moved h0_outs h0_losses h0_levelOf h0_levelOften h0_to h0_round h0_tail h0_path h0_leastOn h0_period h0_amplitude h0_basin h0_numbered h0_isReached h0_traced s0__isKept s0__done s0__undoable s0__redoable s0__all s0__v s0__loss s0__isOver s0__hasCauses s0__outMany s0__overMany s0__isHalted s0__levelMany s0__rounds s0__stuck s0__onRounds s0__longest s0__loudest s0__reached s0__isAnyOver s0__taped (o2 + (1:Int32)) s0__ran s0_tape (upd s0_told x1.toNatClampNeg (r4 - (48:Int32)))) H := hP
    have hD : va_D A (wm_X9_isTold cA h0 h0_tape h0_told h0_g h0_kept h0_changed h0_p h0_causes h0_rows h0_sorts h0_sizes h0_moved h0_outs h0_losses h0_levelOf h0_levelOften h0_to h0_round h0_tail h0_path h0_leastOn h0_period h0_amplitude h0_basin h0_numbered h0_isReached h0_traced s0__isKept s0__done s0__undoable s0__redoable s0__all s0__v s0__loss s0__isOver s0__hasCauses s0__outMany s0__overMany s0__isHalted s0__levelMany s0__rounds s0__stuck s0__onRounds s0__longest s0__loudest s0__reached s0__isAnyOver s0__taped (o2 + (1:Int32)) s0__ran s0_tape (upd s0_told x1.toNatClampNeg (r4 - (48:Int32)))) := hD
    refine lv_if_eq (tgt := 79) hx hb dX9_isTold_43 (by decide) (fun c => ?_) (fun c => ?_)
    · replace hok := g_pos hok c
      exact J_79 r1 (o2 + (1:Int32)) (upd s0_told x1.toNatClampNeg (r4 - (48:Int32))) _ _ _ hP hD hS (lv_sub hl [1, 2, 0] rfl) hok
    replace hok := g_neg hok c
    refine lv_aload_n hx hb dX9_isTold_46 rfl (lv_at hl 1 rfl) ?_
    refine va_get (ci := 9) (v := .ref h0_told) (C := RX9) (T := TX9) (N := 49) hx hb hts hinX9 hown hK hP 0 rfl rfl 46 (by decide) (hts _ (List.mem_of_getElem? (i := 1) rfl)) (fun _ h9 => h9) rfl dX9_isTold_47 ?_
    refine lv_iload_n hx hb dX9_isTold_50 rfl (lv_at hl 2 rfl) ?_
    refine lv_bipush (v := 10) hx hb dX9_isTold_51 (by decide) ?_
    refine lv_aload_n hx hb dX9_isTold_53 rfl (lv_at hl 1 rfl) ?_
    refine va_get (ci := 9) (v := .ref h0_told) (C := RX9) (T := TX9) (N := 49) hx hb hts hinX9 hown hK hP 0 rfl rfl 46 (by decide) (hts _ (List.mem_of_getElem? (i := 1) rfl)) (fun _ h9 => h9) rfl dX9_isTold_54 ?_
    refine lv_iload_n hx hb dX9_isTold_57 rfl (lv_at hl 2 rfl) ?_
    obtain ⟨hin, hok⟩ := g_no hok
    refine x_iald (k := x1.toNatClampNeg) hx hb hK hP 2 0 rfl rfl hin rfl dX9_isTold_58 ?_
    refine lv_imul hx hb dX9_isTold_59 ?_
    refine lv_aload_n hx hb dX9_isTold_60 rfl (lv_at hl 1 rfl) ?_
    obtain ⟨r6, hq, hok⟩ := g_bnd1 hok
    refine cG (is := [0, 1]) (wc := (wm_X9_feed cA h0 h0_tape h0_g h0_kept h0_changed h0_p h0_causes h0_rows h0_sorts h0_sizes h0_moved h0_outs h0_losses h0_levelOf h0_levelOften h0_to h0_round h0_tail h0_path h0_leastOn h0_period h0_amplitude h0_basin h0_numbered h0_isReached h0_told h0_traced s0__isKept s0__done s0__undoable s0__redoable s0__all s0__v s0__loss s0__isOver s0__hasCauses s0__outMany s0__overMany s0__isHalted s0__levelMany s0__rounds s0__stuck s0__onRounds s0__longest s0__loudest s0__reached s0__isAnyOver s0__taped (o2 + (1:Int32)) s0__ran s0_tape)) (w1 := (wm_X9_feed cA h0 h0_tape h0_g h0_kept h0_changed h0_p h0_causes h0_rows h0_sorts h0_sizes h0_moved h0_outs h0_losses h0_levelOf h0_levelOften h0_to h0_round h0_tail h0_path h0_leastOn h0_period h0_amplitude h0_basin h0_numbered h0_isReached h0_told h0_traced s0__isKept s0__done s0__undoable s0__redoable s0__all s0__v s0__loss s0__isOver s0__hasCauses s0__outMany s0__overMany s0__isHalted s0__levelMany s0__rounds s0__stuck s0__onRounds s0__longest s0__loudest s0__reached s0__isAnyOver s0__taped (o2 + (1:Int32)) s0__ran s0_tape)) (rv := (some (.int r6))) (st1 := [.int r6, .int ((10:Int32) * ((upd s0_told x1.toNatClampNeg (r4 - (48:Int32))) x1.toNatClampNeg)), .int x1, .ref h0_told]) (va_runV (Ts := wsX9_isTold) (As := []) (rest := [.int ((10:Int32) * ((upd s0_told x1.toNatClampNeg (r4 - (48:Int32))) x1.toNatClampNeg)), .int x1, .ref h0_told]) ⟨hx, hb, hml, hown, hts⟩ (c_X9_here l G cA ts h0 h0_tape h0_g h0_kept h0_changed h0_p h0_causes h0_rows h0_sorts h0_sizes h0_moved h0_outs h0_losses h0_levelOf h0_levelOften h0_to h0_round h0_tail h0_path h0_leastOn h0_period h0_amplitude h0_basin h0_numbered h0_isReached h0_told h0_traced s0__isKept s0__done s0__undoable s0__redoable s0__all s0__v s0__loss s0__isOver s0__hasCauses s0__outMany s0__overMany s0__isHalted s0__levelMany s0__rounds s0__stuck s0__onRounds s0__longest s0__loudest s0__reached s0__isAnyOver s0__taped (o2 + (1:Int32)) s0__ran s0_tape r6 hq H.size) (cwV 0 hts gX9_isTold_X9_here rfl rfl rfl (by decide +kernel) ⟨Nat.le_of_ble_eq_true rfl, Nat.le_of_ble_eq_true rfl⟩) (pre_V (ci := 9) (q0 := 0) (is := [0, 1]) rfl rfl hP hD hS hA hK hZ (by decide +kernel) (by rfl)) rfl rfl hl.1 rfl (by exact lv_room (Nat.le_of_ble_eq_true rfl)) dX9_isTold_61 ⟨Nat.le_refl _, Nat.le_refl _⟩) hP hD hS hA (by decide +kernel) (by rfl) (by rfl) rfl (fun H locs hP hD hS => ?_)
    have hP : va_P G vwCl (wm_X9_isTold cA h0 h0_tape h0_told h0_g h0_kept h0_changed h0_p h0_causes h0_rows h0_sorts h0_sizes h0_moved h0_outs h0_losses h0_levelOf h0_levelOften h0_to h0_round h0_tail h0_path h0_leastOn h0_period h0_amplitude h0_basin h0_numbered h0_isReached h0_traced s0__isKept s0__done s0__undoable s0__redoable s0__all s0__v s0__loss s0__isOver s0__hasCauses s0__outMany s0__overMany s0__isHalted s0__levelMany s0__rounds s0__stuck s0__onRounds s0__longest s0__loudest s0__reached s0__isAnyOver s0__taped (o2 + (1:Int32)) s0__ran s0_tape (upd s0_told x1.toNatClampNeg (r4 - (48:Int32)))) H := hP
    have hD : va_D A (wm_X9_isTold cA h0 h0_tape h0_told h0_g h0_kept h0_changed h0_p h0_causes h0_rows h0_sorts h0_sizes h0_moved h0_outs h0_losses h0_levelOf h0_levelOften h0_to h0_round h0_tail h0_path h0_leastOn h0_period h0_amplitude h0_basin h0_numbered h0_isReached h0_traced s0__isKept s0__done s0__undoable s0__redoable s0__all s0__v s0__loss s0__isOver s0__hasCauses s0__outMany s0__overMany s0__isHalted s0__levelMany s0__rounds s0__stuck s0__onRounds s0__longest s0__loudest s0__reached s0__isAnyOver s0__taped (o2 + (1:Int32)) s0__ran s0_tape (upd s0_told x1.toNatClampNeg (r4 - (48:Int32)))) := hD
    refine lv_iadd hx hb dX9_isTold_64 ?_
    refine lv_bipush (v := 48) hx hb dX9_isTold_65 (by decide) ?_
    refine lv_isub hx hb dX9_isTold_67 ?_
    obtain ⟨hin, hok⟩ := g_no hok
    refine x_iast (k := x1.toNatClampNeg) hx hb hK hP hD hS 2 0 rfl rfl hin rfl dX9_isTold_68 (fun H locs hP hD hS => ?_)
    have hP : va_P G vwCl (wm_X9_isTold cA h0 h0_tape h0_told h0_g h0_kept h0_changed h0_p h0_causes h0_rows h0_sorts h0_sizes h0_moved h0_outs h0_losses h0_levelOf h0_levelOften h0_to h0_round h0_tail h0_path h0_leastOn h0_period h0_amplitude h0_basin h0_numbered h0_isReached h0_traced s0__isKept s0__done s0__undoable s0__redoable s0__all s0__v s0__loss s0__isOver s0__hasCauses s0__outMany s0__overMany s0__isHalted s0__levelMany s0__rounds s0__stuck s0__onRounds s0__longest s0__loudest s0__reached s0__isAnyOver s0__taped (o2 + (1:Int32)) s0__ran s0_tape (upd (upd s0_told x1.toNatClampNeg (r4 - (48:Int32))) x1.toNatClampNeg ((((10:Int32) * ((upd s0_told x1.toNatClampNeg (r4 - (48:Int32))) x1.toNatClampNeg)) + r6) - (48:Int32)))) H := hP
    have hD : va_D A (wm_X9_isTold cA h0 h0_tape h0_told h0_g h0_kept h0_changed h0_p h0_causes h0_rows h0_sorts h0_sizes h0_moved h0_outs h0_losses h0_levelOf h0_levelOften h0_to h0_round h0_tail h0_path h0_leastOn h0_period h0_amplitude h0_basin h0_numbered h0_isReached h0_traced s0__isKept s0__done s0__undoable s0__redoable s0__all s0__v s0__loss s0__isOver s0__hasCauses s0__outMany s0__overMany s0__isHalted s0__levelMany s0__rounds s0__stuck s0__onRounds s0__longest s0__loudest s0__reached s0__isAnyOver s0__taped (o2 + (1:Int32)) s0__ran s0_tape (upd (upd s0_told x1.toNatClampNeg (r4 - (48:Int32))) x1.toNatClampNeg ((((10:Int32) * ((upd s0_told x1.toNatClampNeg (r4 - (48:Int32))) x1.toNatClampNeg)) + r6) - (48:Int32)))) := hD
    refine lv_aload_n hx hb dX9_isTold_69 rfl (lv_at hl 1 rfl) ?_
    refine lv_dup hx hb dX9_isTold_70 rfl ?_
    refine va_get (ci := 9) (v := .int (o2 + (1:Int32))) (C := RX9) (T := TX9) (N := 49) hx hb hts hinX9 hown hK hP 0 rfl rfl 45 (by decide) (hts _ (List.mem_of_getElem? (i := 2) rfl)) (fun _ h9 => h9) rfl dX9_isTold_71 ?_
    refine lv_iconst (v := 1) hx hb dX9_isTold_74 (by decide) ?_
    refine lv_iadd hx hb dX9_isTold_75 ?_
    refine va_put (D := G) (ci := 9) (v := .int ((o2 + (1:Int32)) + (1:Int32))) (ty := .int) (C := RX9) (T := TX9) (N := 49) hx hb hts hinX9 tyX9 tyX9_ok nmX9 hown hK hP hD hS 0 rfl rfl 45 (by decide) (hts _ (List.mem_of_getElem? (i := 2) rfl)) (fun _ h9 => h9) rfl (by decide +kernel) rfl rfl (Nat.le_of_ble_eq_true rfl) dX9_isTold_76 (fun H locs hP hD hS => ?_)
    have hP : va_P G vwCl (wm_X9_isTold cA h0 h0_tape h0_told h0_g h0_kept h0_changed h0_p h0_causes h0_rows h0_sorts h0_sizes h0_moved h0_outs h0_losses h0_levelOf h0_levelOften h0_to h0_round h0_tail h0_path h0_leastOn h0_period h0_amplitude h0_basin h0_numbered h0_isReached h0_traced s0__isKept s0__done s0__undoable s0__redoable s0__all s0__v s0__loss s0__isOver s0__hasCauses s0__outMany s0__overMany s0__isHalted s0__levelMany s0__rounds s0__stuck s0__onRounds s0__longest s0__loudest s0__reached s0__isAnyOver s0__taped ((o2 + (1:Int32)) + (1:Int32)) s0__ran s0_tape (upd (upd s0_told x1.toNatClampNeg (r4 - (48:Int32))) x1.toNatClampNeg ((((10:Int32) * ((upd s0_told x1.toNatClampNeg (r4 - (48:Int32))) x1.toNatClampNeg)) + r6) - (48:Int32)))) H := hP
    have hD : va_D A (wm_X9_isTold cA h0 h0_tape h0_told h0_g h0_kept h0_changed h0_p h0_causes h0_rows h0_sorts h0_sizes h0_moved h0_outs h0_losses h0_levelOf h0_levelOften h0_to h0_round h0_tail h0_path h0_leastOn h0_period h0_amplitude h0_basin h0_numbered h0_isReached h0_traced s0__isKept s0__done s0__undoable s0__redoable s0__all s0__v s0__loss s0__isOver s0__hasCauses s0__outMany s0__overMany s0__isHalted s0__levelMany s0__rounds s0__stuck s0__onRounds s0__longest s0__loudest s0__reached s0__isAnyOver s0__taped ((o2 + (1:Int32)) + (1:Int32)) s0__ran s0_tape (upd (upd s0_told x1.toNatClampNeg (r4 - (48:Int32))) x1.toNatClampNeg ((((10:Int32) * ((upd s0_told x1.toNatClampNeg (r4 - (48:Int32))) x1.toNatClampNeg)) + r6) - (48:Int32)))) := hD
    exact J_79 r1 ((o2 + (1:Int32)) + (1:Int32)) (upd (upd s0_told x1.toNatClampNeg (r4 - (48:Int32))) x1.toNatClampNeg ((((10:Int32) * ((upd s0_told x1.toNatClampNeg (r4 - (48:Int32))) x1.toNatClampNeg)) + r6) - (48:Int32))) _ _ _ hP hD hS (lv_sub hl [1, 2, 0] rfl) hok
  replace hok := g_pos hok c
  refine lv_iconst (v := 0) hx hb dX9_isTold_14 (by decide) ?_
  cases hok
  exact cr_z (ty := .boolean) (by decide +kernel) hx hb hr hlocks hQ dX9_isTold_15 hP hS
set_option maxHeartbeats 40000000 in
set_option maxRecDepth 100000 in
theorem c_X9_numbersOf (l : Launch) (G : va_G) (cA : Nat → ClassId) (ts : Nat → Nat) (x0 : Int32) (r : Int32) (hok : fX9_numbersOf x0 = some r) : Ct l G cA ts yX9_numbersOf wsX9_numbersOf 1 40 [.int x0] (wm_X0_find cA) (wm_X0_find cA) (some (.int r)) := by
  refine Ct.intro (cc := cX9_numbersOf) (maxL := 1) (ret := some .int) (by decide +kernel) rfl (Nat.le_of_ble_eq_true rfl) ?_
  intro p e s m ar below meth c A Q hx hb hr hml hown hlocks hts hK hZ hA hQ hP hD hS ls hl
  have hown : s.vm.findClass RX9 = some m.cls := hown
  have hl : lv_has ls 1 [(0, .int x0)] := hl
  have hP : va_P G vwCl (wm_X0_find cA) s.heap := hP
  have hD : va_D A (wm_X0_find cA) := hD
  unfold fX9_numbersOf at hok
  refine lv_iload_n hx hb dX9_numbersOf_0 rfl (lv_at hl 0 rfl) ?_
  by_cases c0 : x0 = 98
  · replace hok := g_pos hok c0
    have e9 : (x0).toInt = 98 := by rw [c0]; rfl
    refine lv_tableIn (tgt := 114) (off := 113) hx hb dX9_numbersOf_1 (by rw [e9]; decide) (by rw [e9]; decide) (by rw [e9]; rfl) (by decide) ?_
    refine lv_iconst (v := 1) hx hb dX9_numbersOf_114 (by decide) ?_
    cases hok
    exact cr_i hx hb hr hlocks hQ dX9_numbersOf_115 hP hS
  replace hok := g_neg hok c0
  by_cases c1 : x0 = 99
  · replace hok := g_pos hok c1
    have e9 : (x0).toInt = 99 := by rw [c1]; rfl
    refine lv_tableIn (tgt := 112) (off := 111) hx hb dX9_numbersOf_1 (by rw [e9]; decide) (by rw [e9]; decide) (by rw [e9]; rfl) (by decide) ?_
    refine lv_iconst (v := 2) hx hb dX9_numbersOf_112 (by decide) ?_
    cases hok
    exact cr_i hx hb hr hlocks hQ dX9_numbersOf_113 hP hS
  replace hok := g_neg hok c1
  by_cases c2 : x0 = 100
  · replace hok := g_pos hok c2
    have e9 : (x0).toInt = 100 := by rw [c2]; rfl
    refine lv_tableIn (tgt := 116) (off := 115) hx hb dX9_numbersOf_1 (by rw [e9]; decide) (by rw [e9]; decide) (by rw [e9]; rfl) (by decide) ?_
    refine lv_iconst (v := 0) hx hb dX9_numbersOf_116 (by decide) ?_
    cases hok
    exact cr_i hx hb hr hlocks hQ dX9_numbersOf_117 hP hS
  replace hok := g_neg hok c2
  by_cases c3 : x0 = 101
  · replace hok := g_pos hok c3
    have e9 : (x0).toInt = 101 := by rw [c3]; rfl
    refine lv_tableIn (tgt := 116) (off := 115) hx hb dX9_numbersOf_1 (by rw [e9]; decide) (by rw [e9]; decide) (by rw [e9]; rfl) (by decide) ?_
    refine lv_iconst (v := 0) hx hb dX9_numbersOf_116 (by decide) ?_
    cases hok
    exact cr_i hx hb hr hlocks hQ dX9_numbersOf_117 hP hS
  replace hok := g_neg hok c3
  by_cases c4 : x0 = 102
  · replace hok := g_pos hok c4
    have e9 : (x0).toInt = 102 := by rw [c4]; rfl
    refine lv_tableIn (tgt := 116) (off := 115) hx hb dX9_numbersOf_1 (by rw [e9]; decide) (by rw [e9]; decide) (by rw [e9]; rfl) (by decide) ?_
    refine lv_iconst (v := 0) hx hb dX9_numbersOf_116 (by decide) ?_
    cases hok
    exact cr_i hx hb hr hlocks hQ dX9_numbersOf_117 hP hS
  replace hok := g_neg hok c4
  by_cases c5 : x0 = 103
  · replace hok := g_pos hok c5
    have e9 : (x0).toInt = 103 := by rw [c5]; rfl
    refine lv_tableIn (tgt := 116) (off := 115) hx hb dX9_numbersOf_1 (by rw [e9]; decide) (by rw [e9]; decide) (by rw [e9]; rfl) (by decide) ?_
    refine lv_iconst (v := 0) hx hb dX9_numbersOf_116 (by decide) ?_
    cases hok
    exact cr_i hx hb hr hlocks hQ dX9_numbersOf_117 hP hS
  replace hok := g_neg hok c5
  by_cases c6 : x0 = 104
  · replace hok := g_pos hok c6
    have e9 : (x0).toInt = 104 := by rw [c6]; rfl
    refine lv_tableIn (tgt := 116) (off := 115) hx hb dX9_numbersOf_1 (by rw [e9]; decide) (by rw [e9]; decide) (by rw [e9]; rfl) (by decide) ?_
    refine lv_iconst (v := 0) hx hb dX9_numbersOf_116 (by decide) ?_
    cases hok
    exact cr_i hx hb hr hlocks hQ dX9_numbersOf_117 hP hS
  replace hok := g_neg hok c6
  by_cases c7 : x0 = 105
  · replace hok := g_pos hok c7
    have e9 : (x0).toInt = 105 := by rw [c7]; rfl
    refine lv_tableIn (tgt := 114) (off := 113) hx hb dX9_numbersOf_1 (by rw [e9]; decide) (by rw [e9]; decide) (by rw [e9]; rfl) (by decide) ?_
    refine lv_iconst (v := 1) hx hb dX9_numbersOf_114 (by decide) ?_
    cases hok
    exact cr_i hx hb hr hlocks hQ dX9_numbersOf_115 hP hS
  replace hok := g_neg hok c7
  by_cases c8 : x0 = 106
  · replace hok := g_pos hok c8
    have e9 : (x0).toInt = 106 := by rw [c8]; rfl
    refine lv_tableIn (tgt := 116) (off := 115) hx hb dX9_numbersOf_1 (by rw [e9]; decide) (by rw [e9]; decide) (by rw [e9]; rfl) (by decide) ?_
    refine lv_iconst (v := 0) hx hb dX9_numbersOf_116 (by decide) ?_
    cases hok
    exact cr_i hx hb hr hlocks hQ dX9_numbersOf_117 hP hS
  replace hok := g_neg hok c8
  by_cases c9 : x0 = 107
  · replace hok := g_pos hok c9
    have e9 : (x0).toInt = 107 := by rw [c9]; rfl
    refine lv_tableIn (tgt := 116) (off := 115) hx hb dX9_numbersOf_1 (by rw [e9]; decide) (by rw [e9]; decide) (by rw [e9]; rfl) (by decide) ?_
    refine lv_iconst (v := 0) hx hb dX9_numbersOf_116 (by decide) ?_
    cases hok
    exact cr_i hx hb hr hlocks hQ dX9_numbersOf_117 hP hS
  replace hok := g_neg hok c9
  by_cases c10 : x0 = 108
  · replace hok := g_pos hok c10
    have e9 : (x0).toInt = 108 := by rw [c10]; rfl
    refine lv_tableIn (tgt := 116) (off := 115) hx hb dX9_numbersOf_1 (by rw [e9]; decide) (by rw [e9]; decide) (by rw [e9]; rfl) (by decide) ?_
    refine lv_iconst (v := 0) hx hb dX9_numbersOf_116 (by decide) ?_
    cases hok
    exact cr_i hx hb hr hlocks hQ dX9_numbersOf_117 hP hS
  replace hok := g_neg hok c10
  by_cases c11 : x0 = 109
  · replace hok := g_pos hok c11
    have e9 : (x0).toInt = 109 := by rw [c11]; rfl
    refine lv_tableIn (tgt := 116) (off := 115) hx hb dX9_numbersOf_1 (by rw [e9]; decide) (by rw [e9]; decide) (by rw [e9]; rfl) (by decide) ?_
    refine lv_iconst (v := 0) hx hb dX9_numbersOf_116 (by decide) ?_
    cases hok
    exact cr_i hx hb hr hlocks hQ dX9_numbersOf_117 hP hS
  replace hok := g_neg hok c11
  by_cases c12 : x0 = 110
  · replace hok := g_pos hok c12
    have e9 : (x0).toInt = 110 := by rw [c12]; rfl
    refine lv_tableIn (tgt := 114) (off := 113) hx hb dX9_numbersOf_1 (by rw [e9]; decide) (by rw [e9]; decide) (by rw [e9]; rfl) (by decide) ?_
    refine lv_iconst (v := 1) hx hb dX9_numbersOf_114 (by decide) ?_
    cases hok
    exact cr_i hx hb hr hlocks hQ dX9_numbersOf_115 hP hS
  replace hok := g_neg hok c12
  by_cases c13 : x0 = 111
  · replace hok := g_pos hok c13
    have e9 : (x0).toInt = 111 := by rw [c13]; rfl
    refine lv_tableIn (tgt := 114) (off := 113) hx hb dX9_numbersOf_1 (by rw [e9]; decide) (by rw [e9]; decide) (by rw [e9]; rfl) (by decide) ?_
    refine lv_iconst (v := 1) hx hb dX9_numbersOf_114 (by decide) ?_
    cases hok
    exact cr_i hx hb hr hlocks hQ dX9_numbersOf_115 hP hS
  replace hok := g_neg hok c13
  by_cases c14 : x0 = 112
  · replace hok := g_pos hok c14
    have e9 : (x0).toInt = 112 := by rw [c14]; rfl
    refine lv_tableIn (tgt := 114) (off := 113) hx hb dX9_numbersOf_1 (by rw [e9]; decide) (by rw [e9]; decide) (by rw [e9]; rfl) (by decide) ?_
    refine lv_iconst (v := 1) hx hb dX9_numbersOf_114 (by decide) ?_
    cases hok
    exact cr_i hx hb hr hlocks hQ dX9_numbersOf_115 hP hS
  replace hok := g_neg hok c14
  by_cases c15 : x0 = 113
  · replace hok := g_pos hok c15
    have e9 : (x0).toInt = 113 := by rw [c15]; rfl
    refine lv_tableIn (tgt := 116) (off := 115) hx hb dX9_numbersOf_1 (by rw [e9]; decide) (by rw [e9]; decide) (by rw [e9]; rfl) (by decide) ?_
    refine lv_iconst (v := 0) hx hb dX9_numbersOf_116 (by decide) ?_
    cases hok
    exact cr_i hx hb hr hlocks hQ dX9_numbersOf_117 hP hS
  replace hok := g_neg hok c15
  by_cases c16 : x0 = 114
  · replace hok := g_pos hok c16
    have e9 : (x0).toInt = 114 := by rw [c16]; rfl
    refine lv_tableIn (tgt := 114) (off := 113) hx hb dX9_numbersOf_1 (by rw [e9]; decide) (by rw [e9]; decide) (by rw [e9]; rfl) (by decide) ?_
    refine lv_iconst (v := 1) hx hb dX9_numbersOf_114 (by decide) ?_
    cases hok
    exact cr_i hx hb hr hlocks hQ dX9_numbersOf_115 hP hS
  replace hok := g_neg hok c16
  by_cases c17 : x0 = 115
  · replace hok := g_pos hok c17
    have e9 : (x0).toInt = 115 := by rw [c17]; rfl
    refine lv_tableIn (tgt := 114) (off := 113) hx hb dX9_numbersOf_1 (by rw [e9]; decide) (by rw [e9]; decide) (by rw [e9]; rfl) (by decide) ?_
    refine lv_iconst (v := 1) hx hb dX9_numbersOf_114 (by decide) ?_
    cases hok
    exact cr_i hx hb hr hlocks hQ dX9_numbersOf_115 hP hS
  replace hok := g_neg hok c17
  by_cases c18 : x0 = 116
  · replace hok := g_pos hok c18
    have e9 : (x0).toInt = 116 := by rw [c18]; rfl
    refine lv_tableIn (tgt := 116) (off := 115) hx hb dX9_numbersOf_1 (by rw [e9]; decide) (by rw [e9]; decide) (by rw [e9]; rfl) (by decide) ?_
    refine lv_iconst (v := 0) hx hb dX9_numbersOf_116 (by decide) ?_
    cases hok
    exact cr_i hx hb hr hlocks hQ dX9_numbersOf_117 hP hS
  replace hok := g_neg hok c18
  by_cases c19 : x0 = 117
  · replace hok := g_pos hok c19
    have e9 : (x0).toInt = 117 := by rw [c19]; rfl
    refine lv_tableIn (tgt := 116) (off := 115) hx hb dX9_numbersOf_1 (by rw [e9]; decide) (by rw [e9]; decide) (by rw [e9]; rfl) (by decide) ?_
    refine lv_iconst (v := 0) hx hb dX9_numbersOf_116 (by decide) ?_
    cases hok
    exact cr_i hx hb hr hlocks hQ dX9_numbersOf_117 hP hS
  replace hok := g_neg hok c19
  by_cases c20 : x0 = 118
  · replace hok := g_pos hok c20
    have e9 : (x0).toInt = 118 := by rw [c20]; rfl
    refine lv_tableIn (tgt := 116) (off := 115) hx hb dX9_numbersOf_1 (by rw [e9]; decide) (by rw [e9]; decide) (by rw [e9]; rfl) (by decide) ?_
    refine lv_iconst (v := 0) hx hb dX9_numbersOf_116 (by decide) ?_
    cases hok
    exact cr_i hx hb hr hlocks hQ dX9_numbersOf_117 hP hS
  replace hok := g_neg hok c20
  by_cases c21 : x0 = 119
  · replace hok := g_pos hok c21
    have e9 : (x0).toInt = 119 := by rw [c21]; rfl
    refine lv_tableIn (tgt := 116) (off := 115) hx hb dX9_numbersOf_1 (by rw [e9]; decide) (by rw [e9]; decide) (by rw [e9]; rfl) (by decide) ?_
    refine lv_iconst (v := 0) hx hb dX9_numbersOf_116 (by decide) ?_
    cases hok
    exact cr_i hx hb hr hlocks hQ dX9_numbersOf_117 hP hS
  replace hok := g_neg hok c21
  by_cases c22 : x0 = 120
  · replace hok := g_pos hok c22
    have e9 : (x0).toInt = 120 := by rw [c22]; rfl
    refine lv_tableIn (tgt := 114) (off := 113) hx hb dX9_numbersOf_1 (by rw [e9]; decide) (by rw [e9]; decide) (by rw [e9]; rfl) (by decide) ?_
    refine lv_iconst (v := 1) hx hb dX9_numbersOf_114 (by decide) ?_
    cases hok
    exact cr_i hx hb hr hlocks hQ dX9_numbersOf_115 hP hS
  replace hok := g_neg hok c22
  by_cases c23 : x0 = 121
  · replace hok := g_pos hok c23
    have e9 : (x0).toInt = 121 := by rw [c23]; rfl
    refine lv_tableIn (tgt := 112) (off := 111) hx hb dX9_numbersOf_1 (by rw [e9]; decide) (by rw [e9]; decide) (by rw [e9]; rfl) (by decide) ?_
    refine lv_iconst (v := 2) hx hb dX9_numbersOf_112 (by decide) ?_
    cases hok
    exact cr_i hx hb hr hlocks hQ dX9_numbersOf_113 hP hS
  replace hok := g_neg hok c23
  refine lv_tableOut (tgt := 116) hx hb dX9_numbersOf_1 (by have b0 := lv_neT (a := 98) c0 rfl; have b1 := lv_neT (a := 99) c1 rfl; have b2 := lv_neT (a := 100) c2 rfl; have b3 := lv_neT (a := 101) c3 rfl; have b4 := lv_neT (a := 102) c4 rfl; have b5 := lv_neT (a := 103) c5 rfl; have b6 := lv_neT (a := 104) c6 rfl; have b7 := lv_neT (a := 105) c7 rfl; have b8 := lv_neT (a := 106) c8 rfl; have b9 := lv_neT (a := 107) c9 rfl; have b10 := lv_neT (a := 108) c10 rfl; have b11 := lv_neT (a := 109) c11 rfl; have b12 := lv_neT (a := 110) c12 rfl; have b13 := lv_neT (a := 111) c13 rfl; have b14 := lv_neT (a := 112) c14 rfl; have b15 := lv_neT (a := 113) c15 rfl; have b16 := lv_neT (a := 114) c16 rfl; have b17 := lv_neT (a := 115) c17 rfl; have b18 := lv_neT (a := 116) c18 rfl; have b19 := lv_neT (a := 117) c19 rfl; have b20 := lv_neT (a := 118) c20 rfl; have b21 := lv_neT (a := 119) c21 rfl; have b22 := lv_neT (a := 120) c22 rfl; have b23 := lv_neT (a := 121) c23 rfl; omega) (by decide) ?_
  refine lv_iconst (v := 0) hx hb dX9_numbersOf_116 (by decide) ?_
  cases hok
  exact cr_i hx hb hr hlocks hQ dX9_numbersOf_117 hP hS
