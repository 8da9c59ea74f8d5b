set_option maxHeartbeats 40000000 in
set_option maxRecDepth 100000 in
theorem c_X9_in (l : Launch) (G : va_G) (cA : Nat → ClassId) (ts : Nat → Nat) (x0 : Int64) (x1 : Int64) (x2 : Int64) (r : Int32) (hok : fX9_in x0 x1 x2 = some r) : Ct l G cA ts yX9_in wsX9_in 1 40 [.long x0, .long x1, .long x2] (wm_X0_find cA) (wm_X0_find cA) (some (.int r)) := by
  refine Ct.intro (cc := cX9_in) (maxL := 6) (ret := some .boolean) (by decide +kernel) rfl (Nat.le_of_ble_eq_true rfl) ?_
  intro p e s m ar below meth c A Q hx hb hr hml hown hlocks hts hK hZ hA hQ hP hD hS ls hl
  have hown : s.vm.findClass RX9 = some m.cls := hown
  have hl : lv_has ls 6 [(0, .long x0), (2, .long x1), (4, .long x2)] := hl
  have hP : va_P G vwCl (wm_X0_find cA) s.heap := hP
  have hD : va_D A (wm_X0_find cA) := hD
  unfold fX9_in at hok
  refine lv_lload_n hx hb dX9_in_0 rfl (lv_at hl 0 rfl) ?_
  refine lv_lload_n hx hb dX9_in_1 rfl (lv_at hl 1 rfl) ?_
  refine W.lcmp hx hb dX9_in_2 ?_
  refine lv_if_lt (tgt := 17) hx hb dX9_in_3 (by decide) (fun c => ?_) (fun c => ?_)
  · replace hok := g_pos hok c
    refine lv_iconst (v := 0) hx hb dX9_in_17 (by decide) ?_
    cases hok
    exact cr_z (ty := .boolean) (by decide +kernel) hx hb hr hlocks hQ dX9_in_18 hP hS
  replace hok := g_neg hok c
  refine lv_lload_n hx hb dX9_in_6 rfl (lv_at hl 0 rfl) ?_
  refine lv_lload hx hb dX9_in_7 (lv_at hl 2 rfl) ?_
  refine W.lcmp hx hb dX9_in_9 ?_
  refine lv_if_gt (tgt := 17) hx hb dX9_in_10 (by decide) (fun c => ?_) (fun c => ?_)
  · replace hok := g_pos hok c
    refine lv_iconst (v := 0) hx hb dX9_in_17 (by decide) ?_
    cases hok
    exact cr_z (ty := .boolean) (by decide +kernel) hx hb hr hlocks hQ dX9_in_18 hP hS
  replace hok := g_neg hok c
  refine lv_iconst (v := 1) hx hb dX9_in_13 (by decide) ?_
  refine lv_goto (tgt := 18) hx hb dX9_in_14 (by decide) ?_
  cases hok
  exact cr_z (ty := .boolean) (by decide +kernel) hx hb hr hlocks hQ dX9_in_18 hP hS
set_option maxHeartbeats 40000000 in
set_option maxRecDepth 100000 in
theorem c_X9_isInput (l : Launch) (G : va_G) (cA : Nat → ClassId) (ts : Nat → Nat) (x0 : Int32) (r : Int32) (hok : fX9_isInput x0 = some r) : Ct l G cA ts yX9_isInput wsX9_isInput 2 65 [.int x0] (wm_X0_find cA) (wm_X0_find cA) (some (.int r)) := by
  refine Ct.intro (cc := cX9_isInput) (maxL := 1) (ret := some .boolean) (by decide +kernel) rfl (Nat.le_of_ble_eq_true rfl) ?_
  intro p e s m ar below meth c A Q hx hb hr hml hown hlocks hts hK hZ hA hQ hP hD hS ls hl
  have hown : s.vm.findClass RX9 = some m.cls := hown
  have hl : lv_has ls 1 [(0, .int x0)] := hl
  have hP : va_P G vwCl (wm_X0_find cA) s.heap := hP
  have hD : va_D A (wm_X0_find cA) := hD
  unfold fX9_isInput at hok
  refine lv_iload_n hx hb dX9_isInput_0 rfl (lv_at hl 0 rfl) ?_
  refine lv_i2l (v := (x0.toInt64)) hx hb dX9_isInput_1 rfl ?_
  refine lv_ldc2 (v := -99) hx hb hown (hts _ (List.mem_of_getElem? (i := 1) rfl)) dX9_isInput_2 ?_
  refine lv_ldc2 (v := 99) hx hb hown (hts _ (List.mem_of_getElem? (i := 2) rfl)) dX9_isInput_5 ?_
  obtain ⟨r1, hq, hok⟩ := g_bnd1 hok
  refine cG (is := []) (wc := (wm_X0_find cA)) (w1 := (wm_X0_find cA)) (rv := (some (.int r1))) (st1 := [.int r1]) (va_runS (Ts := wsX9_isInput) (As := [.long (x0.toInt64), .long (-99:Int64), .long (99:Int64)]) (rest := []) ⟨hx, hb, hml, hown, hts⟩ (c_X9_in l G cA ts (x0.toInt64) (-99:Int64) (99:Int64) r1 hq s.heap.size) (va_cwS 3 hts gX9_isInput_X9_in rfl rfl rfl (by decide +kernel) ⟨Nat.le_of_ble_eq_true rfl, Nat.le_of_ble_eq_true rfl⟩) (pre_S (is := []) hP hD hS hA hK hZ (by decide +kernel) (by rfl)) rfl rfl hl.1 rfl (by exact lv_room (Nat.le_of_ble_eq_true rfl)) dX9_isInput_8 ⟨Nat.le_refl _, Nat.le_refl _⟩) hP hD hS hA (by decide +kernel) (by rfl) (by rfl) rfl (fun H locs hP hD hS => ?_)
  have hP : va_P G vwCl (wm_X0_find cA) H := hP
  have hD : va_D A (wm_X0_find cA) := hD
  obtain ⟨hin, hok⟩ := g_no hok
  cases hok
  exact cr_z (ty := .boolean) (nar_z hin) hx hb hr hlocks hQ dX9_isInput_11 hP hS
set_option maxHeartbeats 40000000 in
set_option maxRecDepth 100000 in
theorem c_X9_half (l : Launch) (G : va_G) (cA : Nat → ClassId) (ts : Nat → Nat) (h0 : Nat) (h0_g : Nat) (h0_kept : Nat) (h0_changed : Nat) (h0_p : Nat) (h0_causes : Nat) (h0_rows : Nat) (h0_sorts : Nat) (h0_sizes : Nat) (h0_moved : Nat) (h0_outs : Nat) (h0_losses : Nat) (h0_levelOf : Nat) (h0_levelOften : Nat) (h0_to : Nat) (h0_round : Nat) (h0_tail : Nat) (h0_path : Nat) (h0_leastOn : Nat) (h0_period : Nat) (h0_amplitude : Nat) (h0_basin : Nat) (h0_numbered : Nat) (h0_isReached : Nat) (h0_tape : Nat) (h0_told : Nat) (h0_traced : Nat) (s0__isKept : Int32) (s0__done : Int32) (s0__undoable : Int32) (s0__redoable : Int32) (s0__all : Int32) (s0__v : Int32) (s0__loss : Int32) (s0__isOver : Int32) (s0__hasCauses : Int32) (s0__outMany : Int32) (s0__overMany : Int32) (s0__isHalted : Int32) (s0__levelMany : Int32) (s0__rounds : Int32) (s0__stuck : Int32) (s0__onRounds : Int32) (s0__longest : Int32) (s0__loudest : Int32) (s0__reached : Int32) (s0__isAnyOver : Int32) (s0__taped : Int32) (s0__at : Int32) (s0__ran : Int32) (s0_g : Nat → Int32) (r : Int32) (hok : fX9_half s0_g = some r) : Ct l G cA ts yX9_half wsX9_half 1 40 [.ref h0] (wm_X9_half cA h0 h0_g h0_kept h0_changed h0_p h0_causes h0_rows h0_sorts h0_sizes h0_moved h0_outs h0_losses h0_levelOf h0_levelOften h0_to h0_round h0_tail h0_path h0_leastOn h0_period h0_amplitude h0_basin h0_numbered h0_isReached h0_tape h0_told h0_traced s0__isKept s0__done s0__undoable s0__redoable s0__all s0__v s0__loss s0__isOver s0__hasCauses s0__outMany s0__overMany s0__isHalted s0__levelMany s0__rounds s0__stuck s0__onRounds s0__longest s0__loudest s0__reached s0__isAnyOver s0__taped s0__at s0__ran s0_g) (wm_X9_half cA h0 h0_g h0_kept h0_changed h0_p h0_causes h0_rows h0_sorts h0_sizes h0_moved h0_outs h0_losses h0_levelOf h0_levelOften h0_to h0_round h0_tail h0_path h0_leastOn h0_period h0_amplitude h0_basin h0_numbered h0_isReached h0_tape h0_told h0_traced s0__isKept s0__done s0__undoable s0__redoable s0__all s0__v s0__loss s0__isOver s0__hasCauses s0__outMany s0__overMany s0__isHalted s0__levelMany s0__rounds s0__stuck s0__onRounds s0__longest s0__loudest s0__reached s0__isAnyOver s0__taped s0__at s0__ran s0_g) (some (.int r)) := by
  refine Ct.intro (cc := cX9_half) (maxL := 1) (ret := some .int) (by decide +kernel) rfl (Nat.le_of_ble_eq_true rfl) ?_
  intro p e s m ar below meth c A Q hx hb hr hml hown hlocks hts hK hZ hA hQ hP hD hS ls hl
  have hown : s.vm.findClass RX9 = some m.cls := hown
  have hinX9 : ∀ w ∈ wsX90, w ∈ wsX9_half := fun _ h => List.mem_cons_of_mem _ (List.mem_append_right _ (h))
  have hl : lv_has ls 1 [(0, .ref h0)] := hl
  have hP : va_P G vwCl (wm_X9_half cA h0 h0_g h0_kept h0_changed h0_p h0_causes h0_rows h0_sorts h0_sizes h0_moved h0_outs h0_losses h0_levelOf h0_levelOften h0_to h0_round h0_tail h0_path h0_leastOn h0_period h0_amplitude h0_basin h0_numbered h0_isReached h0_tape h0_told h0_traced s0__isKept s0__done s0__undoable s0__redoable s0__all s0__v s0__loss s0__isOver s0__hasCauses s0__outMany s0__overMany s0__isHalted s0__levelMany s0__rounds s0__stuck s0__onRounds s0__longest s0__loudest s0__reached s0__isAnyOver s0__taped s0__at s0__ran s0_g) s.heap := hP
  have hD : va_D A (wm_X9_half cA h0 h0_g h0_kept h0_changed h0_p h0_causes h0_rows h0_sorts h0_sizes h0_moved h0_outs h0_losses h0_levelOf h0_levelOften h0_to h0_round h0_tail h0_path h0_leastOn h0_period h0_amplitude h0_basin h0_numbered h0_isReached h0_tape h0_told h0_traced s0__isKept s0__done s0__undoable s0__redoable s0__all s0__v s0__loss s0__isOver s0__hasCauses s0__outMany s0__overMany s0__isHalted s0__levelMany s0__rounds s0__stuck s0__onRounds s0__longest s0__loudest s0__reached s0__isAnyOver s0__taped s0__at s0__ran s0_g) := hD
  unfold fX9_half at hok
  refine lv_iconst (v := 1) hx hb dX9_half_0 (by decide) ?_
  refine lv_aload_n hx hb dX9_half_1 rfl (lv_at hl 0 rfl) ?_
  refine va_get (ci := 9) (v := .ref h0_g) (C := RX9) (T := TX9) (N := 49) hx hb hts hinX9 hown hK hP 0 rfl rfl 0 (by decide) (hts _ (List.mem_of_getElem? (i := 1) rfl)) (fun _ h9 => h9) rfl dX9_half_2 ?_
  refine lv_iconst (v := 1) hx hb dX9_half_5 (by decide) ?_
  refine x_iald (k := 1) hx hb hK hP 1 0 rfl rfl (show ¬ ((1:Int32) < 0 ∨ 13 ≤ (1:Int32).toNatClampNeg) by decide) (by decide) dX9_half_6 ?_
  refine lv_iconst (v := 1) hx hb dX9_half_7 (by decide) ?_
  refine lv_isub hx hb dX9_half_8 ?_
  refine lv_ishl hx hb dX9_half_9 ?_
  cases hok
  exact cr_i hx hb hr hlocks hQ dX9_half_10 hP hS
set_option maxHeartbeats 40000000 in
set_option maxRecDepth 100000 in
theorem c_X9_isWord (l : Launch) (G : va_G) (cA : Nat → ClassId) (ts : Nat → Nat) (h0 : Nat) (h0_g : Nat) (h0_kept : Nat) (h0_changed : Nat) (h0_p : Nat) (h0_causes : Nat) (h0_rows : Nat) (h0_sorts : Nat) (h0_sizes : Nat) (h0_moved : Nat) (h0_outs : Nat) (h0_losses : Nat) (h0_levelOf : Nat) (h0_levelOften : Nat) (h0_to : Nat) (h0_round : Nat) (h0_tail : Nat) (h0_path : Nat) (h0_leastOn : Nat) (h0_period : Nat) (h0_amplitude : Nat) (h0_basin : Nat) (h0_numbered : Nat) (h0_isReached : Nat) (h0_tape : Nat) (h0_told : Nat) (h0_traced : Nat) (x1 : Int64) (s0__isKept : Int32) (s0__done : Int32) (s0__undoable : Int32) (s0__redoable : Int32) (s0__all : Int32) (s0__v : Int32) (s0__loss : Int32) (s0__isOver : Int32) (s0__hasCauses : Int32) (s0__outMany : Int32) (s0__overMany : Int32) (s0__isHalted : Int32) (s0__levelMany : Int32) (s0__rounds : Int32) (s0__stuck : Int32) (s0__onRounds : Int32) (s0__longest : Int32) (s0__loudest : Int32) (s0__reached : Int32) (s0__isAnyOver : Int32) (s0__taped : Int32) (s0__at : Int32) (s0__ran : Int32) (s0_g : Nat → Int32) (r : Int32) (hok : fX9_isWord x1 s0_g = some r) : Ct l G cA ts yX9_isWord wsX9_isWord 2 65 [.ref h0, .long x1] (wm_X9_half cA h0 h0_g h0_kept h0_changed h0_p h0_causes h0_rows h0_sorts h0_sizes h0_moved h0_outs h0_losses h0_levelOf h0_levelOften h0_to h0_round h0_tail h0_path h0_leastOn h0_period h0_amplitude h0_basin h0_numbered h0_isReached h0_tape h0_told h0_traced s0__isKept s0__done s0__undoable s0__redoable s0__all s0__v s0__loss s0__isOver s0__hasCauses s0__outMany s0__overMany s0__isHalted s0__levelMany s0__rounds s0__stuck s0__onRounds s0__longest s0__loudest s0__reached s0__isAnyOver s0__taped s0__at s0__ran s0_g) (wm_X9_half cA h0 h0_g h0_kept h0_changed h0_p h0_causes h0_rows h0_sorts h0_sizes h0_moved h0_outs h0_losses h0_levelOf h0_levelOften h0_to h0_round h0_tail h0_path h0_leastOn h0_period h0_amplitude h0_basin h0_numbered h0_isReached h0_tape h0_told h0_traced s0__isKept s0__done s0__undoable s0__redoable s0__all s0__v s0__loss s0__isOver s0__hasCauses s0__outMany s0__overMany s0__isHalted s0__levelMany s0__rounds s0__stuck s0__onRounds s0__longest s0__loudest s0__reached s0__isAnyOver s0__taped s0__at s0__ran s0_g) (some (.int r)) := by
  refine Ct.intro (cc := cX9_isWord) (maxL := 3) (ret := some .boolean) (by decide +kernel) rfl (Nat.le_of_ble_eq_true rfl) ?_
  intro p e s m ar below meth c A Q hx hb hr hml hown hlocks hts hK hZ hA hQ hP hD hS ls hl
  have hown : s.vm.findClass RX9 = some m.cls := hown
  have hl : lv_has ls 3 [(0, .ref h0), (1, .long x1)] := hl
  have hP : va_P G vwCl (wm_X9_half cA h0 h0_g h0_kept h0_changed h0_p h0_causes h0_rows h0_sorts h0_sizes h0_moved h0_outs h0_losses h0_levelOf h0_levelOften h0_to h0_round h0_tail h0_path h0_leastOn h0_period h0_amplitude h0_basin h0_numbered h0_isReached h0_tape h0_told h0_traced s0__isKept s0__done s0__undoable s0__redoable s0__all s0__v s0__loss s0__isOver s0__hasCauses s0__outMany s0__overMany s0__isHalted s0__levelMany s0__rounds s0__stuck s0__onRounds s0__longest s0__loudest s0__reached s0__isAnyOver s0__taped s0__at s0__ran s0_g) s.heap := hP
  have hD : va_D A (wm_X9_half cA h0 h0_g h0_kept h0_changed h0_p h0_causes h0_rows h0_sorts h0_sizes h0_moved h0_outs h0_losses h0_levelOf h0_levelOften h0_to h0_round h0_tail h0_path h0_leastOn h0_period h0_amplitude h0_basin h0_numbered h0_isReached h0_tape h0_told h0_traced s0__isKept s0__done s0__undoable s0__redoable s0__all s0__v s0__loss s0__isOver s0__hasCauses s0__outMany s0__overMany s0__isHalted s0__levelMany s0__rounds s0__stuck s0__onRounds s0__longest s0__loudest s0__reached s0__isAnyOver s0__taped s0__at s0__ran s0_g) := hD
  unfold fX9_isWord at hok
  refine lv_lload_n hx hb dX9_isWord_0 rfl (lv_at hl 1 rfl) ?_
  refine lv_aload_n hx hb dX9_isWord_1 rfl (lv_at hl 0 rfl) ?_
  obtain ⟨r1, hq, hok⟩ := g_bnd1 hok
  refine cG (is := [0, 1]) (wc := (wm_X9_half cA h0 h0_g h0_kept h0_changed h0_p h0_causes h0_rows h0_sorts h0_sizes h0_moved h0_outs h0_losses h0_levelOf h0_levelOften h0_to h0_round h0_tail h0_path h0_leastOn h0_period h0_amplitude h0_basin h0_numbered h0_isReached h0_tape h0_told h0_traced s0__isKept s0__done s0__undoable s0__redoable s0__all s0__v s0__loss s0__isOver s0__hasCauses s0__outMany s0__overMany s0__isHalted s0__levelMany s0__rounds s0__stuck s0__onRounds s0__longest s0__loudest s0__reached s0__isAnyOver s0__taped s0__at s0__ran s0_g)) (w1 := (wm_X9_half cA h0 h0_g h0_kept h0_changed h0_p h0_causes h0_rows h0_sorts h0_sizes h0_moved h0_outs h0_losses h0_levelOf h0_levelOften h0_to h0_round h0_tail h0_path h0_leastOn h0_period h0_amplitude h0_basin h0_numbered h0_isReached h0_tape h0_told h0_traced s0__isKept s0__done s0__undoable s0__redoable s0__all s0__v s0__loss s0__isOver s0__hasCauses s0__outMany s0__overMany s0__isHalted s0__levelMany s0__rounds s0__stuck s0__onRounds s0__longest s0__loudest s0__reached s0__isAnyOver s0__taped s0__at s0__ran s0_g)) (rv := (some (.int r1))) (st1 := [.int r1, .long x1]) (va_runV (Ts := wsX9_isWord) (As := []) (rest := [.long x1]) ⟨hx, hb, hml, hown, hts⟩ (c_X9_half l G cA ts h0 h0_g h0_kept h0_changed h0_p h0_causes h0_rows h0_sorts h0_sizes h0_moved h0_outs h0_losses h0_levelOf h0_levelOften h0_to h0_round h0_tail h0_path h0_leastOn h0_period h0_amplitude h0_basin h0_numbered h0_isReached h0_tape h0_told h0_traced s0__isKept s0__done s0__undoable s0__redoable s0__all s0__v s0__loss s0__isOver s0__hasCauses s0__outMany s0__overMany s0__isHalted s0__levelMany s0__rounds s0__stuck s0__onRounds s0__longest s0__loudest s0__reached s0__isAnyOver s0__taped s0__at s0__ran s0_g r1 hq s.heap.size) (cwV 0 hts gX9_isWord_X9_half rfl rfl rfl (by decide +kernel) ⟨Nat.le_of_ble_eq_true rfl, Nat.le_of_ble_eq_true rfl⟩) (pre_V (ci := 9) (q0 := 0) (is := [0, 1]) rfl rfl hP hD hS hA hK hZ (by decide +kernel) (by rfl)) rfl rfl hl.1 rfl (by exact lv_room (Nat.le_of_ble_eq_true rfl)) dX9_isWord_2 ⟨Nat.le_refl _, Nat.le_refl _⟩) hP hD hS hA (by decide +kernel) (by rfl) (by rfl) rfl (fun H locs hP hD hS => ?_)
  have hP : va_P G vwCl (wm_X9_half cA h0 h0_g h0_kept h0_changed h0_p h0_causes h0_rows h0_sorts h0_sizes h0_moved h0_outs h0_losses h0_levelOf h0_levelOften h0_to h0_round h0_tail h0_path h0_leastOn h0_period h0_amplitude h0_basin h0_numbered h0_isReached h0_tape h0_told h0_traced s0__isKept s0__done s0__undoable s0__redoable s0__all s0__v s0__loss s0__isOver s0__hasCauses s0__outMany s0__overMany s0__isHalted s0__levelMany s0__rounds s0__stuck s0__onRounds s0__longest s0__loudest s0__reached s0__isAnyOver s0__taped s0__at s0__ran s0_g) H := hP
  have hD : va_D A (wm_X9_half cA h0 h0_g h0_kept h0_changed h0_p h0_causes h0_rows h0_sorts h0_sizes h0_moved h0_outs h0_losses h0_levelOf h0_levelOften h0_to h0_round h0_tail h0_path h0_leastOn h0_period h0_amplitude h0_basin h0_numbered h0_isReached h0_tape h0_told h0_traced s0__isKept s0__done s0__undoable s0__redoable s0__all s0__v s0__loss s0__isOver s0__hasCauses s0__outMany s0__overMany s0__isHalted s0__levelMany s0__rounds s0__stuck s0__onRounds s0__longest s0__loudest s0__reached s0__isAnyOver s0__taped s0__at s0__ran s0_g) := hD
  refine lv_ineg hx hb dX9_isWord_5 ?_
  refine lv_i2l (v := ((-r1).toInt64)) hx hb dX9_isWord_6 rfl ?_
  refine lv_aload_n hx hb dX9_isWord_7 rfl (lv_at hl 0 rfl) ?_
  obtain ⟨r2, hq, hok⟩ := g_bnd1 hok
  refine cG (is := [0, 1]) (wc := (wm_X9_half cA h0 h0_g h0_kept h0_changed h0_p h0_causes h0_rows h0_sorts h0_sizes h0_moved h0_outs h0_losses h0_levelOf h0_levelOften h0_to h0_round h0_tail h0_path h0_leastOn h0_period h0_amplitude h0_basin h0_numbered h0_isReached h0_tape h0_told h0_traced s0__isKept s0__done s0__undoable s0__redoable s0__all s0__v s0__loss s0__isOver s0__hasCauses s0__outMany s0__overMany s0__isHalted s0__levelMany s0__rounds s0__stuck s0__onRounds s0__longest s0__loudest s0__reached s0__isAnyOver s0__taped s0__at s0__ran s0_g)) (w1 := (wm_X9_half cA h0 h0_g h0_kept h0_changed h0_p h0_causes h0_rows h0_sorts h0_sizes h0_moved h0_outs h0_losses h0_levelOf h0_levelOften h0_to h0_round h0_tail h0_path h0_leastOn h0_period h0_amplitude h0_basin h0_numbered h0_isReached h0_tape h0_told h0_traced s0__isKept s0__done s0__undoable s0__redoable s0__all s0__v s0__loss s0__isOver s0__hasCauses s0__outMany s0__overMany s0__isHalted s0__levelMany s0__rounds s0__stuck s0__onRounds s0__longest s0__loudest s0__reached s0__isAnyOver s0__taped s0__at s0__ran s0_g)) (rv := (some (.int r2))) (st1 := [.int r2, .long ((-r1).toInt64), .long x1]) (va_runV (Ts := wsX9_isWord) (As := []) (rest := [.long ((-r1).toInt64), .long x1]) ⟨hx, hb, hml, hown, hts⟩ (c_X9_half l G cA ts h0 h0_g h0_kept h0_changed h0_p h0_causes h0_rows h0_sorts h0_sizes h0_moved h0_outs h0_losses h0_levelOf h0_levelOften h0_to h0_round h0_tail h0_path h0_leastOn h0_period h0_amplitude h0_basin h0_numbered h0_isReached h0_tape h0_told h0_traced s0__isKept s0__done s0__undoable s0__redoable s0__all s0__v s0__loss s0__isOver s0__hasCauses s0__outMany s0__overMany s0__isHalted s0__levelMany s0__rounds s0__stuck s0__onRounds s0__longest s0__loudest s0__reached s0__isAnyOver s0__taped s0__at s0__ran s0_g r2 hq H.size) (cwV 0 hts gX9_isWord_X9_half rfl rfl rfl (by decide +kernel) ⟨Nat.le_of_ble_eq_true rfl, Nat.le_of_ble_eq_true rfl⟩) (pre_V (ci := 9) (q0 := 0) (is := [0, 1]) rfl rfl hP hD hS hA hK hZ (by decide +kernel) (by rfl)) rfl rfl hl.1 rfl (by exact lv_room (Nat.le_of_ble_eq_true rfl)) dX9_isWord_8 ⟨Nat.le_refl _, Nat.le_refl _⟩) hP hD hS hA (by decide +kernel) (by rfl) (by rfl) rfl (fun H locs hP hD hS => ?_)
  have hP : va_P G vwCl (wm_X9_half cA h0 h0_g h0_kept h0_changed h0_p h0_causes h0_rows h0_sorts h0_sizes h0_moved h0_outs h0_losses h0_levelOf h0_levelOften h0_to h0_round h0_tail h0_path h0_leastOn h0_period h0_amplitude h0_basin h0_numbered h0_isReached h0_tape h0_told h0_traced s0__isKept s0__done s0__undoable s0__redoable s0__all s0__v s0__loss s0__isOver s0__hasCauses s0__outMany s0__overMany s0__isHalted s0__levelMany s0__rounds s0__stuck s0__onRounds s0__longest s0__loudest s0__reached s0__isAnyOver s0__taped s0__at s0__ran s0_g) H := hP
  have hD : va_D A (wm_X9_half cA h0 h0_g h0_kept h0_changed h0_p h0_causes h0_rows h0_sorts h0_sizes h0_moved h0_outs h0_losses h0_levelOf h0_levelOften h0_to h0_round h0_tail h0_path h0_leastOn h0_period h0_amplitude h0_basin h0_numbered h0_isReached h0_tape h0_told h0_traced s0__isKept s0__done s0__undoable s0__redoable s0__all s0__v s0__loss s0__isOver s0__hasCauses s0__outMany s0__overMany s0__isHalted s0__levelMany s0__rounds s0__stuck s0__onRounds s0__longest s0__loudest s0__reached s0__isAnyOver s0__taped s0__at s0__ran s0_g) := hD
  refine lv_iconst (v := 1) hx hb dX9_isWord_11 (by decide) ?_
  refine lv_isub hx hb dX9_isWord_12 ?_
  refine lv_i2l (v := ((r2 - (1:Int32)).toInt64)) hx hb dX9_isWord_13 rfl ?_
  obtain ⟨r3, hq, hok⟩ := g_bnd1 hok
  refine cG (is := []) (wc := (wm_X0_find cA)) (w1 := (wm_X0_find cA)) (rv := (some (.int r3))) (st1 := [.int r3]) (va_runS (Ts := wsX9_isWord) (As := [.long x1, .long ((-r1).toInt64), .long ((r2 - (1:Int32)).toInt64)]) (rest := []) ⟨hx, hb, hml, hown, hts⟩ (c_X9_in l G cA ts x1 ((-r1).toInt64) ((r2 - (1:Int32)).toInt64) r3 hq H.size) (va_cwS 3 hts gX9_isWord_X9_in rfl rfl rfl (by decide +kernel) ⟨Nat.le_of_ble_eq_true rfl, Nat.le_of_ble_eq_true rfl⟩) (pre_S (is := []) hP hD hS hA hK hZ (by decide +kernel) (by rfl)) rfl rfl hl.1 rfl (by exact lv_room (Nat.le_of_ble_eq_true rfl)) dX9_isWord_14 ⟨Nat.le_refl _, Nat.le_refl _⟩) hP hD hS hA (by decide +kernel) (by rfl) (by rfl) rfl (fun H locs hP hD hS => ?_)
  have hP : va_P G vwCl (wm_X9_half cA h0 h0_g h0_kept h0_changed h0_p h0_causes h0_rows h0_sorts h0_sizes h0_moved h0_outs h0_losses h0_levelOf h0_levelOften h0_to h0_round h0_tail h0_path h0_leastOn h0_period h0_amplitude h0_basin h0_numbered h0_isReached h0_tape h0_told h0_traced s0__isKept s0__done s0__undoable s0__redoable s0__all s0__v s0__loss s0__isOver s0__hasCauses s0__outMany s0__overMany s0__isHalted s0__levelMany s0__rounds s0__stuck s0__onRounds s0__longest s0__loudest s0__reached s0__isAnyOver s0__taped s0__at s0__ran s0_g) H := hP
  have hD : va_D A (wm_X9_half cA h0 h0_g h0_kept h0_changed h0_p h0_causes h0_rows h0_sorts h0_sizes h0_moved h0_outs h0_losses h0_levelOf h0_levelOften h0_to h0_round h0_tail h0_path h0_leastOn h0_period h0_amplitude h0_basin h0_numbered h0_isReached h0_tape h0_told h0_traced s0__isKept s0__done s0__undoable s0__redoable s0__all s0__v s0__loss s0__isOver s0__hasCauses s0__outMany s0__overMany s0__isHalted s0__levelMany s0__rounds s0__stuck s0__onRounds s0__longest s0__loudest s0__reached s0__isAnyOver s0__taped s0__at s0__ran s0_g) := hD
  obtain ⟨hin, hok⟩ := g_no hok
  cases hok
  exact cr_z (ty := .boolean) (nar_z hin) hx hb hr hlocks hQ dX9_isWord_17 hP hS
set_option maxHeartbeats 40000000 in
set_option maxRecDepth 100000 in
theorem c_X9_isNumber (l : Launch) (G : va_G) (cA : Nat → ClassId) (ts : Nat → Nat) (x0 : Int32) (x1 : Int32) (r : Int32) (hok : fX9_isNumber x0 x1 = some r) : Ct l G cA ts yX9_isNumber wsX9_isNumber 2 65 [.int x0, .int x1] (wm_X0_find cA) (wm_X0_find cA) (some (.int r)) := by
  refine Ct.intro (cc := cX9_isNumber) (maxL := 2) (ret := some .boolean) (by decide +kernel) rfl (Nat.le_of_ble_eq_true rfl) ?_
  intro p e s m ar below meth c A Q hx hb hr hml hown hlocks hts hK hZ hA hQ hP hD hS ls hl
  have hown : s.vm.findClass RX9 = some m.cls := hown
  have hl : lv_has ls 2 [(0, .int x0), (1, .int x1)] := hl
  have hP : va_P G vwCl (wm_X0_find cA) s.heap := hP
  have hD : va_D A (wm_X0_find cA) := hD
  unfold fX9_isNumber at hok
  refine lv_iload_n hx hb dX9_isNumber_0 rfl (lv_at hl 0 rfl) ?_
  refine lv_i2l (v := (x0.toInt64)) hx hb dX9_isNumber_1 rfl ?_
  refine lv_lconst (v := 0) hx hb dX9_isNumber_2 (by decide) ?_
  refine lv_ldc2 (v := 7) hx hb hown (hts _ (List.mem_of_getElem? (i := 1) rfl)) dX9_isNumber_3 ?_
  obtain ⟨r1, hq, hok⟩ := g_bnd1 hok
  refine cG (is := []) (wc := (wm_X0_find cA)) (w1 := (wm_X0_find cA)) (rv := (some (.int r1))) (st1 := [.int r1]) (va_runS (Ts := wsX9_isNumber) (As := [.long (x0.toInt64), .long (0:Int64), .long (7:Int64)]) (rest := []) ⟨hx, hb, hml, hown, hts⟩ (c_X9_in l G cA ts (x0.toInt64) (0:Int64) (7:Int64) r1 hq s.heap.size) (va_cwS 3 hts gX9_isNumber_X9_in rfl rfl rfl (by decide +kernel) ⟨Nat.le_of_ble_eq_true rfl, Nat.le_of_ble_eq_true rfl⟩) (pre_S (is := []) hP hD hS hA hK hZ (by decide +kernel) (by rfl)) rfl rfl hl.1 rfl (by exact lv_room (Nat.le_of_ble_eq_true rfl)) dX9_isNumber_6 ⟨Nat.le_refl _, Nat.le_refl _⟩) hP hD hS hA (by decide +kernel) (by rfl) (by rfl) rfl (fun H locs hP hD hS => ?_)
  have hP : va_P G vwCl (wm_X0_find cA) H := hP
  have hD : va_D A (wm_X0_find cA) := hD
  refine lv_if_eq (tgt := 33) hx hb dX9_isNumber_9 (by decide) (fun c => ?_) (fun c => ?_)
  · replace hok := g_pos hok c
    refine lv_iconst (v := 0) hx hb dX9_isNumber_33 (by decide) ?_
    cases hok
    exact cr_z (ty := .boolean) (by decide +kernel) hx hb hr hlocks hQ dX9_isNumber_34 hP hS
  replace hok := g_neg hok c
  refine lv_iload_n hx hb dX9_isNumber_12 rfl (lv_at hl 0 rfl) ?_
  refine lv_iconst (v := 2) hx hb dX9_isNumber_13 (by decide) ?_
  refine lv_icmp_ne (tgt := 29) hx hb dX9_isNumber_14 (by decide) (fun c => ?_) (fun c => ?_)
  · replace hok := g_neg hok c
    refine lv_iconst (v := 1) hx hb dX9_isNumber_29 (by decide) ?_
    refine lv_goto (tgt := 34) hx hb dX9_isNumber_30 (by decide) ?_
    cases hok
    exact cr_z (ty := .boolean) (by decide +kernel) hx hb hr hlocks hQ dX9_isNumber_34 hP hS
  replace hok := g_pos hok c
  refine lv_iload_n hx hb dX9_isNumber_17 rfl (lv_at hl 1 rfl) ?_
  refine lv_i2l (v := (x1.toInt64)) hx hb dX9_isNumber_18 rfl ?_
  refine lv_lconst (v := 1) hx hb dX9_isNumber_19 (by decide) ?_
  refine lv_ldc2 (v := 3) hx hb hown (hts _ (List.mem_of_getElem? (i := 2) rfl)) dX9_isNumber_20 ?_
  obtain ⟨r2, hq, hok⟩ := g_bnd1 hok
  refine cG (is := []) (wc := (wm_X0_find cA)) (w1 := (wm_X0_find cA)) (rv := (some (.int r2))) (st1 := [.int r2]) (va_runS (Ts := wsX9_isNumber) (As := [.long (x1.toInt64), .long (1:Int64), .long (3:Int64)]) (rest := []) ⟨hx, hb, hml, hown, hts⟩ (c_X9_in l G cA ts (x1.toInt64) (1:Int64) (3:Int64) r2 hq H.size) (va_cwS 3 hts gX9_isNumber_X9_in rfl rfl rfl (by decide +kernel) ⟨Nat.le_of_ble_eq_true rfl, Nat.le_of_ble_eq_true rfl⟩) (pre_S (is := []) hP hD hS hA hK hZ (by decide +kernel) (by rfl)) rfl rfl hl.1 rfl (by exact lv_room (Nat.le_of_ble_eq_true rfl)) dX9_isNumber_23 ⟨Nat.le_refl _, Nat.le_refl _⟩) hP hD hS hA (by decide +kernel) (by rfl) (by rfl) rfl (fun H locs hP hD hS => ?_)
  have hP : va_P G vwCl (wm_X0_find cA) H := hP
  have hD : va_D A (wm_X0_find cA) := hD
  refine lv_if_eq (tgt := 33) hx hb dX9_isNumber_26 (by decide) (fun c => ?_) (fun c => ?_)
  · replace hok := g_pos hok c
    refine lv_iconst (v := 0) hx hb dX9_isNumber_33 (by decide) ?_
    cases hok
    exact cr_z (ty := .boolean) (by decide +kernel) hx hb hr hlocks hQ dX9_isNumber_34 hP hS
  replace hok := g_neg hok c
  refine lv_iconst (v := 1) hx hb dX9_isNumber_29 (by decide) ?_
  refine lv_goto (tgt := 34) hx hb dX9_isNumber_30 (by decide) ?_
  cases hok
  exact cr_z (ty := .boolean) (by decide +kernel) hx hb hr hlocks hQ dX9_isNumber_34 hP hS
set_option maxHeartbeats 40000000 in
set_option maxRecDepth 100000 in
theorem c_X9_placeOf (l : Launch) (G : va_G) (cA : Nat → ClassId) (ts : Nat → Nat) (x0 : Int32) (x1 : Int32) (r : Int32) (hok : fX9_placeOf x0 x1 = some r) : Ct l G cA ts yX9_placeOf wsX9_placeOf 1 40 [.int x0, .int x1] (wm_X0_find cA) (wm_X0_find cA) (some (.int r)) := by
  refine Ct.intro (cc := cX9_placeOf) (maxL := 2) (ret := some .int) (by decide +kernel) rfl (Nat.le_of_ble_eq_true rfl) ?_
  intro p e s m ar below meth c A Q hx hb hr hml hown hlocks hts hK hZ hA hQ hP hD hS ls hl
  have hown : s.vm.findClass RX9 = some m.cls := hown
  have hl : lv_has ls 2 [(0, .int x0), (1, .int x1)] := hl
  have hP : va_P G vwCl (wm_X0_find cA) s.heap := hP
  have hD : va_D A (wm_X0_find cA) := hD
  unfold fX9_placeOf at hok
  refine lv_iload_n hx hb dX9_placeOf_0 rfl (lv_at hl 0 rfl) ?_
  refine lv_iconst (v := 2) hx hb dX9_placeOf_1 (by decide) ?_
  refine lv_icmp_ge (tgt := 9) hx hb dX9_placeOf_2 (by decide) (fun c => ?_) (fun c => ?_)
  · replace hok := g_pos hok c
    refine lv_iload_n hx hb dX9_placeOf_9 rfl (lv_at hl 0 rfl) ?_
    refine lv_iconst (v := 2) hx hb dX9_placeOf_10 (by decide) ?_
    refine lv_icmp_ne (tgt := 22) hx hb dX9_placeOf_11 (by decide) (fun c => ?_) (fun c => ?_)
    · replace hok := g_neg hok c
      refine lv_iload_n hx hb dX9_placeOf_22 rfl (lv_at hl 0 rfl) ?_
      refine lv_iconst (v := 2) hx hb dX9_placeOf_23 (by decide) ?_
      refine lv_iadd hx hb dX9_placeOf_24 ?_
      cases hok
      exact cr_i hx hb hr hlocks hQ dX9_placeOf_25 hP hS
    replace hok := g_pos hok c
    refine lv_iconst (v := 2) hx hb dX9_placeOf_14 (by decide) ?_
    refine lv_iload_n hx hb dX9_placeOf_15 rfl (lv_at hl 1 rfl) ?_
    refine lv_iadd hx hb dX9_placeOf_16 ?_
    refine lv_iconst (v := 1) hx hb dX9_placeOf_17 (by decide) ?_
    refine lv_isub hx hb dX9_placeOf_18 ?_
    refine lv_goto (tgt := 25) hx hb dX9_placeOf_19 (by decide) ?_
    cases hok
    exact cr_i hx hb hr hlocks hQ dX9_placeOf_25 hP hS
  replace hok := g_neg hok c
  refine lv_iload_n hx hb dX9_placeOf_5 rfl (lv_at hl 0 rfl) ?_
  refine lv_goto (tgt := 25) hx hb dX9_placeOf_6 (by decide) ?_
  cases hok
  exact cr_i hx hb hr hlocks hQ dX9_placeOf_25 hP hS
set_option maxHeartbeats 40000000 in
set_option maxRecDepth 100000 in
theorem c_X9_leastOf (l : Launch) (G : va_G) (cA : Nat → ClassId) (ts : Nat → Nat) (x0 : Int32) (r : Int32) (hok : fX9_leastOf x0 = some r) : Ct l G cA ts yX9_leastOf wsX9_leastOf 1 40 [.int x0] (wm_X0_find cA) (wm_X0_find cA) (some (.int r)) := by
  refine Ct.intro (cc := cX9_leastOf) (maxL := 1) (ret := some .int) (by decide +kernel) rfl (Nat.le_of_ble_eq_true rfl) ?_
  intro p e s m ar below meth c A Q hx hb hr hml hown hlocks hts hK hZ hA hQ hP hD hS ls hl
  have hown : s.vm.findClass RX9 = some m.cls := hown
  have hl : lv_has ls 1 [(0, .int x0)] := hl
  have hP : va_P G vwCl (wm_X0_find cA) s.heap := hP
  have hD : va_D A (wm_X0_find cA) := hD
  unfold fX9_leastOf at hok
  refine lv_iload_n hx hb dX9_leastOf_0 rfl (lv_at hl 0 rfl) ?_
  refine lv_if_ne (tgt := 8) hx hb dX9_leastOf_1 (by decide) (fun c => ?_) (fun c => ?_)
  · replace hok := g_neg hok c
    refine lv_iload_n hx hb dX9_leastOf_8 rfl (lv_at hl 0 rfl) ?_
    refine lv_iconst (v := 1) hx hb dX9_leastOf_9 (by decide) ?_
    refine lv_icmp_ne (tgt := 17) hx hb dX9_leastOf_10 (by decide) (fun c => ?_) (fun c => ?_)
    · replace hok := g_neg hok c
      refine lv_iload_n hx hb dX9_leastOf_17 rfl (lv_at hl 0 rfl) ?_
      refine lv_iconst (v := 2) hx hb dX9_leastOf_18 (by decide) ?_
      refine lv_icmp_eq (tgt := 27) hx hb dX9_leastOf_19 (by decide) (fun c => ?_) (fun c => ?_)
      · replace hok := g_pos hok c
        refine lv_bipush (v := -99) hx hb dX9_leastOf_27 (by decide) ?_
        refine lv_goto (tgt := 33) hx hb dX9_leastOf_29 (by decide) ?_
        cases hok
        exact cr_i hx hb hr hlocks hQ dX9_leastOf_33 hP hS
      replace hok := g_neg hok c
      refine lv_iload_n hx hb dX9_leastOf_22 rfl (lv_at hl 0 rfl) ?_
      refine lv_iconst (v := 3) hx hb dX9_leastOf_23 (by decide) ?_
      refine lv_icmp_ne (tgt := 32) hx hb dX9_leastOf_24 (by decide) (fun c => ?_) (fun c => ?_)
      · replace hok := g_neg hok c
        refine lv_iconst (v := 0) hx hb dX9_leastOf_32 (by decide) ?_
        cases hok
        exact cr_i hx hb hr hlocks hQ dX9_leastOf_33 hP hS
      replace hok := g_pos hok c
      refine lv_bipush (v := -99) hx hb dX9_leastOf_27 (by decide) ?_
      refine lv_goto (tgt := 33) hx hb dX9_leastOf_29 (by decide) ?_
      cases hok
      exact cr_i hx hb hr hlocks hQ dX9_leastOf_33 hP hS
    replace hok := g_pos hok c
    refine lv_iconst (v := 2) hx hb dX9_leastOf_13 (by decide) ?_
    refine lv_goto (tgt := 33) hx hb dX9_leastOf_14 (by decide) ?_
    cases hok
    exact cr_i hx hb hr hlocks hQ dX9_leastOf_33 hP hS
  replace hok := g_pos hok c
  refine lv_iconst (v := 1) hx hb dX9_leastOf_4 (by decide) ?_
  refine lv_goto (tgt := 33) hx hb dX9_leastOf_5 (by decide) ?_
  cases hok
  exact cr_i hx hb hr hlocks hQ dX9_leastOf_33 hP hS
set_option maxHeartbeats 40000000 in
set_option maxRecDepth 100000 in
theorem c_X9_mostOf (l : Launch) (G : va_G) (cA : Nat → ClassId) (ts : Nat → Nat) (x0 : Int32) (r : Int32) (hok : fX9_mostOf x0 = some r) : Ct l G cA ts yX9_mostOf wsX9_mostOf 1 40 [.int x0] (wm_X0_find cA) (wm_X0_find cA) (some (.int r)) := by
  refine Ct.intro (cc := cX9_mostOf) (maxL := 1) (ret := some .int) (by decide +kernel) rfl (Nat.le_of_ble_eq_true rfl) ?_
  intro p e s m ar below meth c A Q hx hb hr hml hown hlocks hts hK hZ hA hQ hP hD hS ls hl
  have hown : s.vm.findClass RX9 = some m.cls := hown
  have hl : lv_has ls 1 [(0, .int x0)] := hl
  have hP : va_P G vwCl (wm_X0_find cA) s.heap := hP
  have hD : va_D A (wm_X0_find cA) := hD
  unfold fX9_mostOf at hok
  refine lv_iload_n hx hb dX9_mostOf_0 rfl (lv_at hl 0 rfl) ?_
  by_cases c0 : x0 = 0
  · replace hok := g_pos hok c0
    have e9 : (x0).toInt = 0 := by rw [c0]; rfl
    refine lv_tableIn (tgt := 48) (off := 47) hx hb dX9_mostOf_1 (by rw [e9]; decide) (by rw [e9]; decide) (by rw [e9]; rfl) (by decide) ?_
    refine lv_iconst (v := 3) hx hb dX9_mostOf_48 (by decide) ?_
    cases hok
    exact cr_i hx hb hr hlocks hQ dX9_mostOf_49 hP hS
  replace hok := g_neg hok c0
  by_cases c1 : x0 = 1
  · replace hok := g_pos hok c1
    have e9 : (x0).toInt = 1 := by rw [c1]; rfl
    refine lv_tableIn (tgt := 50) (off := 49) hx hb dX9_mostOf_1 (by rw [e9]; decide) (by rw [e9]; decide) (by rw [e9]; rfl) (by decide) ?_
    refine lv_iconst (v := 5) hx hb dX9_mostOf_50 (by decide) ?_
    cases hok
    exact cr_i hx hb hr hlocks hQ dX9_mostOf_51 hP hS
  replace hok := g_neg hok c1
  by_cases c2 : x0 = 2
  · replace hok := g_pos hok c2
    have e9 : (x0).toInt = 2 := by rw [c2]; rfl
    refine lv_tableIn (tgt := 52) (off := 51) hx hb dX9_mostOf_1 (by rw [e9]; decide) (by rw [e9]; decide) (by rw [e9]; rfl) (by decide) ?_
    refine lv_bipush (v := 99) hx hb dX9_mostOf_52 (by decide) ?_
    cases hok
    exact cr_i hx hb hr hlocks hQ dX9_mostOf_54 hP hS
  replace hok := g_neg hok c2
  by_cases c3 : x0 = 3
  · replace hok := g_pos hok c3
    have e9 : (x0).toInt = 3 := by rw [c3]; rfl
    refine lv_tableIn (tgt := 52) (off := 51) hx hb dX9_mostOf_1 (by rw [e9]; decide) (by rw [e9]; decide) (by rw [e9]; rfl) (by decide) ?_
    refine lv_bipush (v := 99) hx hb dX9_mostOf_52 (by decide) ?_
    cases hok
    exact cr_i hx hb hr hlocks hQ dX9_mostOf_54 hP hS
  replace hok := g_neg hok c3
  by_cases c4 : x0 = 4
  · replace hok := g_pos hok c4
    have e9 : (x0).toInt = 4 := by rw [c4]; rfl
    refine lv_tableIn (tgt := 55) (off := 54) hx hb dX9_mostOf_1 (by rw [e9]; decide) (by rw [e9]; decide) (by rw [e9]; rfl) (by decide) ?_
    refine lv_bipush (v := 6) hx hb dX9_mostOf_55 (by decide) ?_
    cases hok
    exact cr_i hx hb hr hlocks hQ dX9_mostOf_57 hP hS
  replace hok := g_neg hok c4
  by_cases c5 : x0 = 5
  · replace hok := g_pos hok c5
    have e9 : (x0).toInt = 5 := by rw [c5]; rfl
    refine lv_tableIn (tgt := 60) (off := 59) hx hb dX9_mostOf_1 (by rw [e9]; decide) (by rw [e9]; decide) (by rw [e9]; rfl) (by decide) ?_
    refine lv_iconst (v := 4) hx hb dX9_mostOf_60 (by decide) ?_
    cases hok
    exact cr_i hx hb hr hlocks hQ dX9_mostOf_61 hP hS
  replace hok := g_neg hok c5
  by_cases c6 : x0 = 6
  · replace hok := g_pos hok c6
    have e9 : (x0).toInt = 6 := by rw [c6]; rfl
    refine lv_tableIn (tgt := 60) (off := 59) hx hb dX9_mostOf_1 (by rw [e9]; decide) (by rw [e9]; decide) (by rw [e9]; rfl) (by decide) ?_
    refine lv_iconst (v := 4) hx hb dX9_mostOf_60 (by decide) ?_
    cases hok
    exact cr_i hx hb hr hlocks hQ dX9_mostOf_61 hP hS
  replace hok := g_neg hok c6
  by_cases c7 : x0 = 7
  · replace hok := g_pos hok c7
    have e9 : (x0).toInt = 7 := by rw [c7]; rfl
    refine lv_tableIn (tgt := 58) (off := 57) hx hb dX9_mostOf_1 (by rw [e9]; decide) (by rw [e9]; decide) (by rw [e9]; rfl) (by decide) ?_
    refine lv_iconst (v := 1) hx hb dX9_mostOf_58 (by decide) ?_
    cases hok
    exact cr_i hx hb hr hlocks hQ dX9_mostOf_59 hP hS
  replace hok := g_neg hok c7
  refine lv_tableOut (tgt := 60) hx hb dX9_mostOf_1 (by have b0 := lv_neT (a := 0) c0 rfl; have b1 := lv_neT (a := 1) c1 rfl; have b2 := lv_neT (a := 2) c2 rfl; have b3 := lv_neT (a := 3) c3 rfl; have b4 := lv_neT (a := 4) c4 rfl; have b5 := lv_neT (a := 5) c5 rfl; have b6 := lv_neT (a := 6) c6 rfl; have b7 := lv_neT (a := 7) c7 rfl; omega) (by decide) ?_
  refine lv_iconst (v := 4) hx hb dX9_mostOf_60 (by decide) ?_
  cases hok
  exact cr_i hx hb hr hlocks hQ dX9_mostOf_61 hP hS
set_option maxHeartbeats 40000000 in
set_option maxRecDepth 100000 in
theorem c_X9_becomes (l : Launch) (G : va_G) (cA : Nat → ClassId) (ts : Nat → Nat) (h0 : Nat) (h0_g : Nat) (h0_kept : Nat) (h0_changed : Nat) (h0_p : Nat) (h0_causes : Nat) (h0_rows : Nat) (h0_sorts : Nat) (h0_sizes : Nat) (h0_moved : Nat) (h0_outs : Nat) (h0_losses : Nat) (h0_levelOf : Nat) (h0_levelOften : Nat) (h0_to : Nat) (h0_round : Nat) (h0_tail : Nat) (h0_path : Nat) (h0_leastOn : Nat) (h0_period : Nat) (h0_amplitude : Nat) (h0_basin : Nat) (h0_numbered : Nat) (h0_isReached : Nat) (h0_tape : Nat) (h0_told : Nat) (h0_traced : Nat) (x1 : Int32) (x2 : Int32) (s0__isKept : Int32) (s0__done : Int32) (s0__undoable : Int32) (s0__redoable : Int32) (s0__all : Int32) (s0__v : Int32) (s0__loss : Int32) (s0__isOver : Int32) (s0__hasCauses : Int32) (s0__outMany : Int32) (s0__overMany : Int32) (s0__isHalted : Int32) (s0__levelMany : Int32) (s0__rounds : Int32) (s0__stuck : Int32) (s0__onRounds : Int32) (s0__longest : Int32) (s0__loudest : Int32) (s0__reached : Int32) (s0__isAnyOver : Int32) (s0__taped : Int32) (s0__at : Int32) (s0__ran : Int32) (s0_g : Nat → Int32) (o0_g : Nat → Int32) (hok : fX9_becomes x1 x2 s0_g = some o0_g) : Ct l G cA ts yX9_becomes wsX9_becomes 1 40 [.ref h0, .int x1, .int x2] (wm_X9_half cA h0 h0_g h0_kept h0_changed h0_p h0_causes h0_rows h0_sorts h0_sizes h0_moved h0_outs h0_losses h0_levelOf h0_levelOften h0_to h0_round h0_tail h0_path h0_leastOn h0_period h0_amplitude h0_basin h0_numbered h0_isReached h0_tape h0_told h0_traced s0__isKept s0__done s0__undoable s0__redoable s0__all s0__v s0__loss s0__isOver s0__hasCauses s0__outMany s0__overMany s0__isHalted s0__levelMany s0__rounds s0__stuck s0__onRounds s0__longest s0__loudest s0__reached s0__isAnyOver s0__taped s0__at s0__ran s0_g) (wm_X9_half cA h0 h0_g h0_kept h0_changed h0_p h0_causes h0_rows h0_sorts h0_sizes h0_moved h0_outs h0_losses h0_levelOf h0_levelOften h0_to h0_round h0_tail h0_path h0_leastOn h0_period h0_amplitude h0_basin h0_numbered h0_isReached h0_tape h0_told h0_traced s0__isKept s0__done s0__undoable s0__redoable s0__all s0__v s0__loss s0__isOver s0__hasCauses s0__outMany s0__overMany s0__isHalted s0__levelMany s0__rounds s0__stuck s0__onRounds s0__longest s0__loudest s0__reached s0__isAnyOver s0__taped s0__at s0__ran o0_g) none := by
  refine Ct.intro (cc := cX9_becomes) (maxL := 4) (ret := none) (by decide +kernel) rfl (Nat.le_of_ble_eq_true rfl) ?_
  intro p e s m ar below meth c A Q hx hb hr hml hown hlocks hts hK hZ hA hQ hP hD hS ls hl
  have hown : s.vm.findClass RX9 = some m.cls := hown
  have hinX9 : ∀ w ∈ wsX90, w ∈ wsX9_becomes := fun _ h => List.mem_cons_of_mem _ (List.mem_append_right _ (h))
  have hl : lv_has ls 4 [(0, .ref h0), (1, .int x1), (2, .int x2)] := hl
  have hP : va_P G vwCl (wm_X9_half cA h0 h0_g h0_kept h0_changed h0_p h0_causes h0_rows h0_sorts h0_sizes h0_moved h0_outs h0_losses h0_levelOf h0_levelOften h0_to h0_round h0_tail h0_path h0_leastOn h0_period h0_amplitude h0_basin h0_numbered h0_isReached h0_tape h0_told h0_traced s0__isKept s0__done s0__undoable s0__redoable s0__all s0__v s0__loss s0__isOver s0__hasCauses s0__outMany s0__overMany s0__isHalted s0__levelMany s0__rounds s0__stuck s0__onRounds s0__longest s0__loudest s0__reached s0__isAnyOver s0__taped s0__at s0__ran s0_g) s.heap := hP
  have hD : va_D A (wm_X9_half cA h0 h0_g h0_kept h0_changed h0_p h0_causes h0_rows h0_sorts h0_sizes h0_moved h0_outs h0_losses h0_levelOf h0_levelOften h0_to h0_round h0_tail h0_path h0_leastOn h0_period h0_amplitude h0_basin h0_numbered h0_isReached h0_tape h0_told h0_traced s0__isKept s0__done s0__undoable s0__redoable s0__all s0__v s0__loss s0__isOver s0__hasCauses s0__outMany s0__overMany s0__isHalted s0__levelMany s0__rounds s0__stuck s0__onRounds s0__longest s0__loudest s0__reached s0__isAnyOver s0__taped s0__at s0__ran s0_g) := hD
  have L_17 : ∀ (n : Nat) (y3 : Int32) (c0_g : Nat → Int32) (p0_0 : Nat → Int32) (H : Heap) (locs : List Loc) (ls : Array Slot), va_P G vwCl (wm_X9_half cA h0 h0_g h0_kept h0_changed h0_p h0_causes h0_rows h0_sorts h0_sizes h0_moved h0_outs h0_losses h0_levelOf h0_levelOften h0_to h0_round h0_tail h0_path h0_leastOn h0_period h0_amplitude h0_basin h0_numbered h0_isReached h0_tape h0_told h0_traced s0__isKept s0__done s0__undoable s0__redoable s0__all s0__v s0__loss s0__isOver s0__hasCauses s0__outMany s0__overMany s0__isHalted s0__levelMany s0__rounds s0__stuck s0__onRounds s0__longest s0__loudest s0__reached s0__isAnyOver s0__taped s0__at s0__ran c0_g) H → va_D A (wm_X9_half cA h0 h0_g h0_kept h0_changed h0_p h0_causes h0_rows h0_sorts h0_sizes h0_moved h0_outs h0_losses h0_levelOf h0_levelOften h0_to h0_round h0_tail h0_path h0_leastOn h0_period h0_amplitude h0_basin h0_numbered h0_isReached h0_tape h0_told h0_traced s0__isKept s0__done s0__undoable s0__redoable s0__all s0__v s0__loss s0__isOver s0__hasCauses s0__outMany s0__overMany s0__isHalted s0__levelMany s0__rounds s0__stuck s0__onRounds s0__longest s0__loudest s0__reached s0__isAnyOver s0__taped s0__at s0__ran c0_g) → va_S A s.heap H locs → lv_has ls 4 [(0, .ref h0), (1, .int x1), (2, .int x2), (3, .int y3)] → fX9_becomes_L17 x1 x2 n y3 c0_g = some p0_0 → (∀ (H : Heap) (locs : List Loc) (ls : Array Slot), va_P G vwCl (wm_X9_half cA h0 h0_g h0_kept h0_changed h0_p h0_causes h0_rows h0_sorts h0_sizes h0_moved h0_outs h0_losses h0_levelOf h0_levelOften h0_to h0_round h0_tail h0_path h0_leastOn h0_period h0_amplitude h0_basin h0_numbered h0_isReached h0_tape h0_told h0_traced s0__isKept s0__done s0__undoable s0__redoable s0__all s0__v s0__loss s0__isOver s0__hasCauses s0__outMany s0__overMany s0__isHalted s0__levelMany s0__rounds s0__stuck s0__onRounds s0__longest s0__loudest s0__reached s0__isAnyOver s0__taped s0__at s0__ran p0_0) H → va_D A (wm_X9_half cA h0 h0_g h0_kept h0_changed h0_p h0_causes h0_rows h0_sorts h0_sizes h0_moved h0_outs h0_losses h0_levelOf h0_levelOften h0_to h0_round h0_tail h0_path h0_leastOn h0_period h0_amplitude h0_basin h0_numbered h0_isReached h0_tape h0_told h0_traced s0__isKept s0__done s0__undoable s0__redoable s0__all s0__v s0__loss s0__isOver s0__hasCauses s0__outMany s0__overMany s0__isHalted s0__levelMany s0__rounds s0__stuck s0__onRounds s0__longest s0__loudest s0__reached s0__isAnyOver s0__taped s0__at s0__ran p0_0) → va_S A s.heap H locs → lv_has ls 4 [(0, .ref h0), (1, .int x1), (2, .int x2)] → W p l e (rmX 1 40) s m ar below meth c H locs 0 0 Q (F0 m 38 ls [])) → W p l e (rmX 1 40) s m ar below meth c H locs 0 0 Q (F0 m 17 ls []) := by
    intro n
    induction n with
    | zero =>
      intro y3 c0_g p0_0 H locs ls hP hD hS hl hok
      rw [fX9_becomes_L17] at hok
      cases hok
    | succ n ih =>
      intro y3 c0_g p0_0 H locs ls hP hD hS hl hok K
      rw [fX9_becomes_L17] at hok
      refine lv_iload_n hx hb dX9_becomes_17 rfl (lv_at hl 3 rfl) ?_
      refine lv_iconst (v := 3) hx hb dX9_becomes_18 (by decide) ?_
      refine lv_icmp_ge (tgt := 38) hx hb dX9_becomes_19 (by decide) (fun c => ?_) (fun c => ?_)
      · replace hok := g_pos hok c
        cases hok
        exact K _ _ _ hP hD hS (lv_sub hl [0, 1, 2] rfl)
      replace hok := g_neg hok c
      refine lv_aload_n hx hb dX9_becomes_22 rfl (lv_at hl 0 rfl) ?_
      refine va_get (ci := 9) (v := .ref h0_g) (C := RX9) (T := TX9) (N := 49) hx hb hts hinX9 hown hK hP 0 rfl rfl 0 (by decide) (hts _ (List.mem_of_getElem? (i := 1) rfl)) (fun _ h9 => h9) rfl dX9_becomes_23 ?_
      refine lv_bipush (v := 10) hx hb dX9_becomes_26 (by decide) ?_
      refine lv_iload_n hx hb dX9_becomes_28 rfl (lv_at hl 3 rfl) ?_
      refine lv_iadd hx hb dX9_becomes_29 ?_
      refine lv_iconst (v := 0) hx hb dX9_becomes_30 (by decide) ?_
      obtain ⟨hin, hok⟩ := g_no hok
      refine x_iast (k := ((10:Int32) + y3).toNatClampNeg) hx hb hK hP hD hS 1 0 rfl rfl hin rfl dX9_becomes_31 (fun H locs hP hD hS => ?_)
      have hP : va_P G vwCl (wm_X9_half cA h0 h0_g h0_kept h0_changed h0_p h0_causes h0_rows h0_sorts h0_sizes h0_moved h0_outs h0_losses h0_levelOf h0_levelOften h0_to h0_round h0_tail h0_path h0_leastOn h0_period h0_amplitude h0_basin h0_numbered h0_isReached h0_tape h0_told h0_traced s0__isKept s0__done s0__undoable s0__redoable s0__all s0__v s0__loss s0__isOver s0__hasCauses s0__outMany s0__overMany s0__isHalted s0__levelMany s0__rounds s0__stuck s0__onRounds s0__longest s0__loudest s0__reached s0__isAnyOver s0__taped s0__at s0__ran (upd c0_g ((10:Int32) + y3).toNatClampNeg (0:Int32))) H := hP
      have hD : va_D A (wm_X9_half cA h0 h0_g h0_kept h0_changed h0_p h0_causes h0_rows h0_sorts h0_sizes h0_moved h0_outs h0_losses h0_levelOf h0_levelOften h0_to h0_round h0_tail h0_path h0_leastOn h0_period h0_amplitude h0_basin h0_numbered h0_isReached h0_tape h0_told h0_traced s0__isKept s0__done s0__undoable s0__redoable s0__all s0__v s0__loss s0__isOver s0__hasCauses s0__outMany s0__overMany s0__isHalted s0__levelMany s0__rounds s0__stuck s0__onRounds s0__longest s0__loudest s0__reached s0__isAnyOver s0__taped s0__at s0__ran (upd c0_g ((10:Int32) + y3).toNatClampNeg (0:Int32))) := hD
      refine lv_iinc (v := (y3 + 1)) (lv' := [(3, .int (y3 + 1)), (0, .ref h0), (1, .int x1), (2, .int x2)]) hx hb dX9_becomes_32 hl (k := 3) rfl rfl (by decide) rfl (fun ls hl => ?_)
      refine lv_goto (tgt := 17) hx hb dX9_becomes_35 (by decide) ?_
      exact ih (y3 + 1) (upd c0_g ((10:Int32) + y3).toNatClampNeg (0:Int32)) p0_0 _ _ _ hP hD hS (lv_sub hl [1, 2, 3, 0] rfl) hok K
  unfold fX9_becomes at hok
  refine lv_iload_n hx hb dX9_becomes_0 rfl (lv_at hl 1 rfl) ?_
  refine lv_iconst (v := 1) hx hb dX9_becomes_1 (by decide) ?_
  refine lv_icmp_gt (tgt := 38) hx hb dX9_becomes_2 (by decide) (fun c => ?_) (fun c => ?_)
  · replace hok := g_pos hok c
    refine lv_aload_n hx hb dX9_becomes_38 rfl (lv_at hl 0 rfl) ?_
    refine va_get (ci := 9) (v := .ref h0_g) (C := RX9) (T := TX9) (N := 49) hx hb hts hinX9 hown hK hP 0 rfl rfl 0 (by decide) (hts _ (List.mem_of_getElem? (i := 1) rfl)) (fun _ h9 => h9) rfl dX9_becomes_39 ?_
    refine lv_iload_n hx hb dX9_becomes_42 rfl (lv_at hl 1 rfl) ?_
    refine lv_iload_n hx hb dX9_becomes_43 rfl (lv_at hl 2 rfl) ?_
    obtain ⟨hin, hok⟩ := g_no hok
    refine x_iast (k := x1.toNatClampNeg) hx hb hK hP hD hS 1 0 rfl rfl hin rfl dX9_becomes_44 (fun H locs hP hD hS => ?_)
    have hP : va_P G vwCl (wm_X9_half cA h0 h0_g h0_kept h0_changed h0_p h0_causes h0_rows h0_sorts h0_sizes h0_moved h0_outs h0_losses h0_levelOf h0_levelOften h0_to h0_round h0_tail h0_path h0_leastOn h0_period h0_amplitude h0_basin h0_numbered h0_isReached h0_tape h0_told h0_traced s0__isKept s0__done s0__undoable s0__redoable s0__all s0__v s0__loss s0__isOver s0__hasCauses s0__outMany s0__overMany s0__isHalted s0__levelMany s0__rounds s0__stuck s0__onRounds s0__longest s0__loudest s0__reached s0__isAnyOver s0__taped s0__at s0__ran (upd s0_g x1.toNatClampNeg x2)) H := hP
    have hD : va_D A (wm_X9_half cA h0 h0_g h0_kept h0_changed h0_p h0_causes h0_rows h0_sorts h0_sizes h0_moved h0_outs h0_losses h0_levelOf h0_levelOften h0_to h0_round h0_tail h0_path h0_leastOn h0_period h0_amplitude h0_basin h0_numbered h0_isReached h0_tape h0_told h0_traced s0__isKept s0__done s0__undoable s0__redoable s0__all s0__v s0__loss s0__isOver s0__hasCauses s0__outMany s0__overMany s0__isHalted s0__levelMany s0__rounds s0__stuck s0__onRounds s0__longest s0__loudest s0__reached s0__isAnyOver s0__taped s0__at s0__ran (upd s0_g x1.toNatClampNeg x2)) := hD
    cases hok
    exact cr_v hx hb hr hlocks hQ dX9_becomes_45 hP hS
  replace hok := g_neg hok c
  refine lv_aload_n hx hb dX9_becomes_5 rfl (lv_at hl 0 rfl) ?_
  refine va_get (ci := 9) (v := .ref h0_g) (C := RX9) (T := TX9) (N := 49) hx hb hts hinX9 hown hK hP 0 rfl rfl 0 (by decide) (hts _ (List.mem_of_getElem? (i := 1) rfl)) (fun _ h9 => h9) rfl dX9_becomes_6 ?_
  refine lv_iload_n hx hb dX9_becomes_9 rfl (lv_at hl 1 rfl) ?_
  obtain ⟨hin, hok⟩ := g_no hok
  refine x_iald (k := x1.toNatClampNeg) hx hb hK hP 1 0 rfl rfl hin rfl dX9_becomes_10 ?_
  refine lv_iload_n hx hb dX9_becomes_11 rfl (lv_at hl 2 rfl) ?_
  refine lv_icmp_eq (tgt := 38) hx hb dX9_becomes_12 (by decide) (fun c => ?_) (fun c => ?_)
  · replace hok := g_pos hok c
    refine lv_aload_n hx hb dX9_becomes_38 rfl (lv_at hl 0 rfl) ?_
    refine va_get (ci := 9) (v := .ref h0_g) (C := RX9) (T := TX9) (N := 49) hx hb hts hinX9 hown hK hP 0 rfl rfl 0 (by decide) (hts _ (List.mem_of_getElem? (i := 1) rfl)) (fun _ h9 => h9) rfl dX9_becomes_39 ?_
    refine lv_iload_n hx hb dX9_becomes_42 rfl (lv_at hl 1 rfl) ?_
    refine lv_iload_n hx hb dX9_becomes_43 rfl (lv_at hl 2 rfl) ?_
    obtain ⟨hin, hok⟩ := g_no hok
    refine x_iast (k := x1.toNatClampNeg) hx hb hK hP hD hS 1 0 rfl rfl hin rfl dX9_becomes_44 (fun H locs hP hD hS => ?_)
    have hP : va_P G vwCl (wm_X9_half cA h0 h0_g h0_kept h0_changed h0_p h0_causes h0_rows h0_sorts h0_sizes h0_moved h0_outs h0_losses h0_levelOf h0_levelOften h0_to h0_round h0_tail h0_path h0_leastOn h0_period h0_amplitude h0_basin h0_numbered h0_isReached h0_tape h0_told h0_traced s0__isKept s0__done s0__undoable s0__redoable s0__all s0__v s0__loss s0__isOver s0__hasCauses s0__outMany s0__overMany s0__isHalted s0__levelMany s0__rounds s0__stuck s0__onRounds s0__longest s0__loudest s0__reached s0__isAnyOver s0__taped s0__at s0__ran (upd s0_g x1.toNatClampNeg x2)) H := hP
    have hD : va_D A (wm_X9_half cA h0 h0_g h0_kept h0_changed h0_p h0_causes h0_rows h0_sorts h0_sizes h0_moved h0_outs h0_losses h0_levelOf h0_levelOften h0_to h0_round h0_tail h0_path h0_leastOn h0_period h0_amplitude h0_basin h0_numbered h0_isReached h0_tape h0_told h0_traced s0__isKept s0__done s0__undoable s0__redoable s0__all s0__v s0__loss s0__isOver s0__hasCauses s0__outMany s0__overMany s0__isHalted s0__levelMany s0__rounds s0__stuck s0__onRounds s0__longest s0__loudest s0__reached s0__isAnyOver s0__taped s0__at s0__ran (upd s0_g x1.toNatClampNeg x2)) := hD
    cases hok
    exact cr_v hx hb hr hlocks hQ dX9_becomes_45 hP hS
  replace hok := g_neg hok c
  refine lv_iconst (v := 0) hx hb dX9_becomes_15 (by decide) ?_
  refine lv_istore_n (lv' := [(3, .int (0:Int32)), (0, .ref h0), (1, .int x1), (2, .int x2)]) hx hb dX9_becomes_16 rfl hl (by decide) rfl (fun ls hl => ?_)
  obtain ⟨o1, hq, hok⟩ := g_bnd1 hok
  refine L_17 FUEL (0:Int32) s0_g o1 _ _ _ hP hD hS (lv_sub hl [1, 2, 3, 0] rfl) hq (fun H locs ls hP hD hS hl => ?_)
  refine lv_aload_n hx hb dX9_becomes_38 rfl (lv_at hl 0 rfl) ?_
  refine va_get (ci := 9) (v := .ref h0_g) (C := RX9) (T := TX9) (N := 49) hx hb hts hinX9 hown hK hP 0 rfl rfl 0 (by decide) (hts _ (List.mem_of_getElem? (i := 1) rfl)) (fun _ h9 => h9) rfl dX9_becomes_39 ?_
  refine lv_iload_n hx hb dX9_becomes_42 rfl (lv_at hl 1 rfl) ?_
  refine lv_iload_n hx hb dX9_becomes_43 rfl (lv_at hl 2 rfl) ?_
  obtain ⟨hin, hok⟩ := g_no hok
  refine x_iast (k := x1.toNatClampNeg) hx hb hK hP hD hS 1 0 rfl rfl hin rfl dX9_becomes_44 (fun H locs hP hD hS => ?_)
  have hP : va_P G vwCl (wm_X9_half cA h0 h0_g h0_kept h0_changed h0_p h0_causes h0_rows h0_sorts h0_sizes h0_moved h0_outs h0_losses h0_levelOf h0_levelOften h0_to h0_round h0_tail h0_path h0_leastOn h0_period h0_amplitude h0_basin h0_numbered h0_isReached h0_tape h0_told h0_traced s0__isKept s0__done s0__undoable s0__redoable s0__all s0__v s0__loss s0__isOver s0__hasCauses s0__outMany s0__overMany s0__isHalted s0__levelMany s0__rounds s0__stuck s0__onRounds s0__longest s0__loudest s0__reached s0__isAnyOver s0__taped s0__at s0__ran (upd o1 x1.toNatClampNeg x2)) H := hP
  have hD : va_D A (wm_X9_half cA h0 h0_g h0_kept h0_changed h0_p h0_causes h0_rows h0_sorts h0_sizes h0_moved h0_outs h0_losses h0_levelOf h0_levelOften h0_to h0_round h0_tail h0_path h0_leastOn h0_period h0_amplitude h0_basin h0_numbered h0_isReached h0_tape h0_told h0_traced s0__isKept s0__done s0__undoable s0__redoable s0__all s0__v s0__loss s0__isOver s0__hasCauses s0__outMany s0__overMany s0__isHalted s0__levelMany s0__rounds s0__stuck s0__onRounds s0__longest s0__loudest s0__reached s0__isAnyOver s0__taped s0__at s0__ran (upd o1 x1.toNatClampNeg x2)) := hD
  cases hok
  exact cr_v hx hb hr hlocks hQ dX9_becomes_45 hP hS
set_option maxHeartbeats 40000000 in
set_option maxRecDepth 100000 in
theorem c_X9_changes (l : Launch) (G : va_G) (cA : Nat → ClassId) (ts : Nat → Nat) (h0 : Nat) (h0_changed : Nat) (h0_changed_e : Nat → Nat) (h0_g : Nat) (h0_kept : Nat) (h0_p : Nat) (h0_causes : Nat) (h0_rows : Nat) (h0_sorts : Nat) (h0_sizes : Nat) (h0_moved : Nat) (h0_outs : Nat) (h0_losses : Nat) (h0_levelOf : Nat) (h0_levelOften : Nat) (h0_to : Nat) (h0_round : Nat) (h0_tail : Nat) (h0_path : Nat) (h0_leastOn : Nat) (h0_period : Nat) (h0_amplitude : Nat) (h0_basin : Nat) (h0_numbered : Nat) (h0_isReached : Nat) (h0_tape : Nat) (h0_told : Nat) (h0_traced : Nat) (x1 : Int32) (x2 : Int32) (x3 : Int32) (s0__isKept : Int32) (s0__done : Int32) (s0__undoable : Int32) (s0__redoable : Int32) (s0__all : Int32) (s0__v : Int32) (s0__loss : Int32) (s0__isOver : Int32) (s0__hasCauses : Int32) (s0__outMany : Int32) (s0__overMany : Int32) (s0__isHalted : Int32) (s0__levelMany : Int32) (s0__rounds : Int32) (s0__stuck : Int32) (s0__onRounds : Int32) (s0__longest : Int32) (s0__loudest : Int32) (s0__reached : Int32) (s0__isAnyOver : Int32) (s0__taped : Int32) (s0__at : Int32) (s0__ran : Int32) (s0_changed_e : Nat → Nat → Int32) (o0__undoable : Int32) (o0__redoable : Int32) (o0_changed_e : Nat → Nat → Int32) (hok : fX9_changes x1 x2 x3 s0__undoable s0__redoable s0_changed_e = some (o0__undoable, o0__redoable, o0_changed_e)) : Ct l G cA ts yX9_changes wsX9_changes 1 40 [.ref h0, .int x1, .int x2, .int x3] (wm_X9_changes cA h0 h0_changed h0_changed_e h0_g h0_kept h0_p h0_causes h0_rows h0_sorts h0_sizes h0_moved h0_outs h0_losses h0_levelOf h0_levelOften h0_to h0_round h0_tail h0_path h0_leastOn h0_period h0_amplitude h0_basin h0_numbered h0_isReached h0_tape h0_told h0_traced s0__isKept s0__done s0__undoable s0__redoable s0__all s0__v s0__loss s0__isOver s0__hasCauses s0__outMany s0__overMany s0__isHalted s0__levelMany s0__rounds s0__stuck s0__onRounds s0__longest s0__loudest s0__reached s0__isAnyOver s0__taped s0__at s0__ran s0_changed_e) (wm_X9_changes cA h0 h0_changed h0_changed_e h0_g h0_kept h0_p h0_causes h0_rows h0_sorts h0_sizes h0_moved h0_outs h0_losses h0_levelOf h0_levelOften h0_to h0_round h0_tail h0_path h0_leastOn h0_period h0_amplitude h0_basin h0_numbered h0_isReached h0_tape h0_told h0_traced s0__isKept s0__done o0__undoable o0__redoable s0__all s0__v s0__loss s0__isOver s0__hasCauses s0__outMany s0__overMany s0__isHalted s0__levelMany s0__rounds s0__stuck s0__onRounds s0__longest s0__loudest s0__reached s0__isAnyOver s0__taped s0__at s0__ran o0_changed_e) none := by
  refine Ct.intro (cc := cX9_changes) (maxL := 6) (ret := none) (by decide +kernel) rfl (Nat.le_of_ble_eq_true rfl) ?_
  intro p e s m ar below meth c A Q hx hb hr hml hown hlocks hts hK hZ hA hQ hP hD hS ls hl
  have hown : s.vm.findClass RX9 = some m.cls := hown
  have hinX9 : ∀ w ∈ wsX90, w ∈ wsX9_changes := fun _ h => List.mem_cons_of_mem _ (List.mem_append_right _ (h))
  have hl : lv_has ls 6 [(0, .ref h0), (1, .int x1), (2, .int x2), (3, .int x3)] := hl
  have hP : va_P G vwCl (wm_X9_changes cA h0 h0_changed h0_changed_e h0_g h0_kept h0_p h0_causes h0_rows h0_sorts h0_sizes h0_moved h0_outs h0_losses h0_levelOf h0_levelOften h0_to h0_round h0_tail h0_path h0_leastOn h0_period h0_amplitude h0_basin h0_numbered h0_isReached h0_tape h0_told h0_traced s0__isKept s0__done s0__undoable s0__redoable s0__all s0__v s0__loss s0__isOver s0__hasCauses s0__outMany s0__overMany s0__isHalted s0__levelMany s0__rounds s0__stuck s0__onRounds s0__longest s0__loudest s0__reached s0__isAnyOver s0__taped s0__at s0__ran s0_changed_e) s.heap := hP
  have hD : va_D A (wm_X9_changes cA h0 h0_changed h0_changed_e h0_g h0_kept h0_p h0_causes h0_rows h0_sorts h0_sizes h0_moved h0_outs h0_losses h0_levelOf h0_levelOften h0_to h0_round h0_tail h0_path h0_leastOn h0_period h0_amplitude h0_basin h0_numbered h0_isReached h0_tape h0_told h0_traced s0__isKept s0__done s0__undoable s0__redoable s0__all s0__v s0__loss s0__isOver s0__hasCauses s0__outMany s0__overMany s0__isHalted s0__levelMany s0__rounds s0__stuck s0__onRounds s0__longest s0__loudest s0__reached s0__isAnyOver s0__taped s0__at s0__ran s0_changed_e) := hD
  have J_72 : ∀ (c0__undoable : Int32) (c0__redoable : Int32) (c0_changed_e : Nat → Nat → Int32) (H : Heap) (locs : List Loc) (ls : Array Slot), va_P G vwCl (wm_X9_changes cA h0 h0_changed h0_changed_e h0_g h0_kept h0_p h0_causes h0_rows h0_sorts h0_sizes h0_moved h0_outs h0_losses h0_levelOf h0_levelOften h0_to h0_round h0_tail h0_path h0_leastOn h0_period h0_amplitude h0_basin h0_numbered h0_isReached h0_tape h0_told h0_traced s0__isKept s0__done c0__undoable c0__redoable s0__all s0__v s0__loss s0__isOver s0__hasCauses s0__outMany s0__overMany s0__isHalted s0__levelMany s0__rounds s0__stuck s0__onRounds s0__longest s0__loudest s0__reached s0__isAnyOver s0__taped s0__at s0__ran c0_changed_e) H → va_D A (wm_X9_changes cA h0 h0_changed h0_changed_e h0_g h0_kept h0_p h0_causes h0_rows h0_sorts h0_sizes h0_moved h0_outs h0_losses h0_levelOf h0_levelOften h0_to h0_round h0_tail h0_path h0_leastOn h0_period h0_amplitude h0_basin h0_numbered h0_isReached h0_tape h0_told h0_traced s0__isKept s0__done c0__undoable c0__redoable s0__all s0__v s0__loss s0__isOver s0__hasCauses s0__outMany s0__overMany s0__isHalted s0__levelMany s0__rounds s0__stuck s0__onRounds s0__longest s0__loudest s0__reached s0__isAnyOver s0__taped s0__at s0__ran c0_changed_e) → va_S A s.heap H locs → lv_has ls 6 [(0, .ref h0), (1, .int x1), (2, .int x2), (3, .int x3)] → fX9_changes_j72 x1 x2 x3 c0__undoable c0__redoable c0_changed_e = some (o0__undoable, o0__redoable, o0_changed_e) → W p l e (rmX 1 40) s m ar below meth c H locs 0 0 Q (F0 m 72 ls []) := by
    intro c0__undoable c0__redoable c0_changed_e H locs ls hP hD hS hl hok
    unfold fX9_changes_j72 at hok
    refine lv_aload_n hx hb dX9_changes_72 rfl (lv_at hl 0 rfl) ?_
    refine va_get (ci := 9) (v := .ref h0_changed) (C := RX9) (T := TX9) (N := 49) hx hb hts hinX9 hown hK hP 0 rfl rfl 4 (by decide) (hts _ (List.mem_of_getElem? (i := 2) rfl)) (fun _ h9 => h9) rfl dX9_changes_73 ?_
    refine lv_aload_n hx hb dX9_changes_76 rfl (lv_at hl 0 rfl) ?_
    refine va_get (ci := 9) (v := .int c0__undoable) (C := RX9) (T := TX9) (N := 49) hx hb hts hinX9 hown hK hP 0 rfl rfl 5 (by decide) (hts _ (List.mem_of_getElem? (i := 1) rfl)) (fun _ h9 => h9) rfl dX9_changes_77 ?_
    obtain ⟨hin1, hok⟩ := g_no hok
    refine x_aalda hx hb hK hP 1 5 rfl rfl hin1 dX9_changes_80 ?_
    refine W.eq (congrArg (fun z => F0 m 81 ls (z :: [])) (rf_at (Nat.not_le.mp fun q => hin1 (Or.inr q)))) ?_
    refine lv_iconst (v := 0) hx hb dX9_changes_81 (by decide) ?_
    refine lv_iload_n hx hb dX9_changes_82 rfl (lv_at hl 1 rfl) ?_
    refine x_iast (cA := cA 0) (n := 3) (f := (c0_changed_e c0__undoable.toNatClampNeg)) (k := 0) hx hb hK hP hD hS (2 + 1 * c0__undoable.toNatClampNeg) 0 (by rcases lt12 (Nat.not_le.mp fun q => hin1 (Or.inr q)) with e | e | e | e | e | e | e | e | e | e | e | e <;> rw [e] <;> rfl) rfl (show ¬ ((0:Int32) < 0 ∨ 3 ≤ (0:Int32).toNatClampNeg) by decide) (by decide) dX9_changes_83 (fun H locs hP hD hS => ?_)
    obtain ⟨hP, hD⟩ : va_P G vwCl (wm_X9_changes cA h0 h0_changed h0_changed_e h0_g h0_kept h0_p h0_causes h0_rows h0_sorts h0_sizes h0_moved h0_outs h0_losses h0_levelOf h0_levelOften h0_to h0_round h0_tail h0_path h0_leastOn h0_period h0_amplitude h0_basin h0_numbered h0_isReached h0_tape h0_told h0_traced s0__isKept s0__done c0__undoable c0__redoable s0__all s0__v s0__loss s0__isOver s0__hasCauses s0__outMany s0__overMany s0__isHalted s0__levelMany s0__rounds s0__stuck s0__onRounds s0__longest s0__loudest s0__reached s0__isAnyOver s0__taped s0__at s0__ran (va_up c0_changed_e c0__undoable.toNatClampNeg (upd (c0_changed_e c0__undoable.toNatClampNeg) 0 x1))) H ∧ va_D A (wm_X9_changes cA h0 h0_changed h0_changed_e h0_g h0_kept h0_p h0_causes h0_rows h0_sorts h0_sizes h0_moved h0_outs h0_losses h0_levelOf h0_levelOften h0_to h0_round h0_tail h0_path h0_leastOn h0_period h0_amplitude h0_basin h0_numbered h0_isReached h0_tape h0_told h0_traced s0__isKept s0__done c0__undoable c0__redoable s0__all s0__v s0__loss s0__isOver s0__hasCauses s0__outMany s0__overMany s0__isHalted s0__levelMany s0__rounds s0__stuck s0__onRounds s0__longest s0__loudest s0__reached s0__isAnyOver s0__taped s0__at s0__ran (va_up c0_changed_e c0__undoable.toNatClampNeg (upd (c0_changed_e c0__undoable.toNatClampNeg) 0 x1))) := PD_eq hP hD (by rcases lt12 (Nat.not_le.mp fun q => hin1 (Or.inr q)) with e | e | e | e | e | e | e | e | e | e | e | e <;> rw [e] <;> rfl)
    refine lv_aload_n hx hb dX9_changes_84 rfl (lv_at hl 0 rfl) ?_
    refine va_get (ci := 9) (v := .ref h0_changed) (C := RX9) (T := TX9) (N := 49) hx hb hts hinX9 hown hK hP 0 rfl rfl 4 (by decide) (hts _ (List.mem_of_getElem? (i := 2) rfl)) (fun _ h9 => h9) rfl dX9_changes_85 ?_
    refine lv_aload_n hx hb dX9_changes_88 rfl (lv_at hl 0 rfl) ?_
    refine va_get (ci := 9) (v := .int c0__undoable) (C := RX9) (T := TX9) (N := 49) hx hb hts hinX9 hown hK hP 0 rfl rfl 5 (by decide) (hts _ (List.mem_of_getElem? (i := 1) rfl)) (fun _ h9 => h9) rfl dX9_changes_89 ?_
    obtain ⟨hin2, hok⟩ := g_no hok
    refine x_aalda hx hb hK hP 1 5 rfl rfl hin2 dX9_changes_92 ?_
    refine W.eq (congrArg (fun z => F0 m 93 ls (z :: [])) (rf_at (Nat.not_le.mp fun q => hin2 (Or.inr q)))) ?_
    refine lv_iconst (v := 1) hx hb dX9_changes_93 (by decide) ?_
    refine lv_iload_n hx hb dX9_changes_94 rfl (lv_at hl 2 rfl) ?_
    refine x_iast (cA := cA 0) (n := 3) (f := ((va_up c0_changed_e c0__undoable.toNatClampNeg (upd (c0_changed_e c0__undoable.toNatClampNeg) 0 x1)) c0__undoable.toNatClampNeg)) (k := 1) hx hb hK hP hD hS (2 + 1 * c0__undoable.toNatClampNeg) 0 (by rcases lt12 (Nat.not_le.mp fun q => hin2 (Or.inr q)) with e | e | e | e | e | e | e | e | e | e | e | e <;> rw [e] <;> rfl) rfl (show ¬ ((1:Int32) < 0 ∨ 3 ≤ (1:Int32).toNatClampNeg) by decide) (by decide) dX9_changes_95 (fun H locs hP hD hS => ?_)
    obtain ⟨hP, hD⟩ : va_P G vwCl (wm_X9_changes cA h0 h0_changed h0_changed_e h0_g h0_kept h0_p h0_causes h0_rows h0_sorts h0_sizes h0_moved h0_outs h0_losses h0_levelOf h0_levelOften h0_to h0_round h0_tail h0_path h0_leastOn h0_period h0_amplitude h0_basin h0_numbered h0_isReached h0_tape h0_told h0_traced s0__isKept s0__done c0__undoable c0__redoable s0__all s0__v s0__loss s0__isOver s0__hasCauses s0__outMany s0__overMany s0__isHalted s0__levelMany s0__rounds s0__stuck s0__onRounds s0__longest s0__loudest s0__reached s0__isAnyOver s0__taped s0__at s0__ran (va_up (va_up c0_changed_e c0__undoable.toNatClampNeg (upd (c0_changed_e c0__undoable.toNatClampNeg) 0 x1)) c0__undoable.toNatClampNeg (upd ((va_up c0_changed_e c0__undoable.toNatClampNeg (upd (c0_changed_e c0__undoable.toNatClampNeg) 0 x1)) c0__undoable.toNatClampNeg) 1 x2))) H ∧ va_D A (wm_X9_changes cA h0 h0_changed h0_changed_e h0_g h0_kept h0_p h0_causes h0_rows h0_sorts h0_sizes h0_moved h0_outs h0_losses h0_levelOf h0_levelOften h0_to h0_round h0_tail h0_path h0_leastOn h0_period h0_amplitude h0_basin h0_numbered h0_isReached h0_tape h0_told h0_traced s0__isKept s0__done c0__undoable c0__redoable s0__all s0__v s0__loss s0__isOver s0__hasCauses s0__outMany s0__overMany s0__isHalted s0__levelMany s0__rounds s0__stuck s0__onRounds s0__longest s0__loudest s0__reached s0__isAnyOver s0__taped s0__at s0__ran (va_up (va_up c0_changed_e c0__undoable.toNatClampNeg (upd (c0_changed_e c0__undoable.toNatClampNeg) 0 x1)) c0__undoable.toNatClampNeg (upd ((va_up c0_changed_e c0__undoable.toNatClampNeg (upd (c0_changed_e c0__undoable.toNatClampNeg) 0 x1)) c0__undoable.toNatClampNeg) 1 x2))) := PD_eq hP hD (by rcases lt12 (Nat.not_le.mp fun q => hin2 (Or.inr q)) with e | e | e | e | e | e | e | e | e | e | e | e <;> rw [e] <;> rfl)
    refine lv_aload_n hx hb dX9_changes_96 rfl (lv_at hl 0 rfl) ?_
    refine va_get (ci := 9) (v := .ref h0_changed) (C := RX9) (T := TX9) (N := 49) hx hb hts hinX9 hown hK hP 0 rfl rfl 4 (by decide) (hts _ (List.mem_of_getElem? (i := 2) rfl)) (fun _ h9 => h9) rfl dX9_changes_97 ?_
    refine lv_aload_n hx hb dX9_changes_100 rfl (lv_at hl 0 rfl) ?_
    refine va_get (ci := 9) (v := .int c0__undoable) (C := RX9) (T := TX9) (N := 49) hx hb hts hinX9 hown hK hP 0 rfl rfl 5 (by decide) (hts _ (List.mem_of_getElem? (i := 1) rfl)) (fun _ h9 => h9) rfl dX9_changes_101 ?_
    obtain ⟨hin3, hok⟩ := g_no hok
    refine x_aalda hx hb hK hP 1 5 rfl rfl hin3 dX9_changes_104 ?_
    refine W.eq (congrArg (fun z => F0 m 105 ls (z :: [])) (rf_at (Nat.not_le.mp fun q => hin3 (Or.inr q)))) ?_
    refine lv_iconst (v := 2) hx hb dX9_changes_105 (by decide) ?_
    refine lv_iload_n hx hb dX9_changes_106 rfl (lv_at hl 3 rfl) ?_
    refine x_iast (cA := cA 0) (n := 3) (f := ((va_up (va_up c0_changed_e c0__undoable.toNatClampNeg (upd (c0_changed_e c0__undoable.toNatClampNeg) 0 x1)) c0__undoable.toNatClampNeg (upd ((va_up c0_changed_e c0__undoable.toNatClampNeg (upd (c0_changed_e c0__undoable.toNatClampNeg) 0 x1)) c0__undoable.toNatClampNeg) 1 x2)) c0__undoable.toNatClampNeg)) (k := 2) hx hb hK hP hD hS (2 + 1 * c0__undoable.toNatClampNeg) 0 (by rcases lt12 (Nat.not_le.mp fun q => hin3 (Or.inr q)) with e | e | e | e | e | e | e | e | e | e | e | e <;> rw [e] <;> rfl) rfl (show ¬ ((2:Int32) < 0 ∨ 3 ≤ (2:Int32).toNatClampNeg) by decide) (by decide) dX9_changes_107 (fun H locs hP hD hS => ?_)
    obtain ⟨hP, hD⟩ : va_P G vwCl (wm_X9_changes cA h0 h0_changed h0_changed_e h0_g h0_kept h0_p h0_causes h0_rows h0_sorts h0_sizes h0_moved h0_outs h0_losses h0_levelOf h0_levelOften h0_to h0_round h0_tail h0_path h0_leastOn h0_period h0_amplitude h0_basin h0_numbered h0_isReached h0_tape h0_told h0_traced s0__isKept s0__done c0__undoable c0__redoable s0__all s0__v s0__loss s0__isOver s0__hasCauses s0__outMany s0__overMany s0__isHalted s0__levelMany s0__rounds s0__stuck s0__onRounds s0__longest s0__loudest s0__reached s0__isAnyOver s0__taped s0__at s0__ran (va_up (va_up (va_up c0_changed_e c0__undoable.toNatClampNeg (upd (c0_changed_e c0__undoable.toNatClampNeg) 0 x1)) c0__undoable.toNatClampNeg (upd ((va_up c0_changed_e c0__undoable.toNatClampNeg (upd (c0_changed_e c0__undoable.toNatClampNeg) 0 x1)) c0__undoable.toNatClampNeg) 1 x2)) c0__undoable.toNatClampNeg (upd ((va_up (va_up c0_changed_e c0__undoable.toNatClampNeg (upd (c0_changed_e c0__undoable.toNatClampNeg) 0 x1)) c0__undoable.toNatClampNeg (upd ((va_up c0_changed_e c0__undoable.toNatClampNeg (upd (c0_changed_e c0__undoable.toNatClampNeg) 0 x1)) c0__undoable.toNatClampNeg) 1 x2)) c0__undoable.toNatClampNeg) 2 x3))) H ∧ va_D A (wm_X9_changes cA h0 h0_changed h0_changed_e h0_g h0_kept h0_p h0_causes h0_rows h0_sorts h0_sizes h0_moved h0_outs h0_losses h0_levelOf h0_levelOften h0_to h0_round h0_tail h0_path h0_leastOn h0_period h0_amplitude h0_basin h0_numbered h0_isReached h0_tape h0_told h0_traced s0__isKept s0__done c0__undoable c0__redoable s0__all s0__v s0__loss s0__isOver s0__hasCauses s0__outMany s0__overMany s0__isHalted s0__levelMany s0__rounds s0__stuck s0__onRounds s0__longest s0__loudest s0__reached s0__isAnyOver s0__taped s0__at s0__ran (va_up (va_up (va_up c0_changed_e c0__undoable.toNatClampNeg (upd (c0_changed_e c0__undoable.toNatClampNeg) 0 x1)) c0__undoable.toNatClampNeg (upd ((va_up c0_changed_e c0__undoable.toNatClampNeg (upd (c0_changed_e c0__undoable.toNatClampNeg) 0 x1)) c0__undoable.toNatClampNeg) 1 x2)) c0__undoable.toNatClampNeg (upd ((va_up (va_up c0_changed_e c0__undoable.toNatClampNeg (upd (c0_changed_e c0__undoable.toNatClampNeg) 0 x1)) c0__undoable.toNatClampNeg (upd ((va_up c0_changed_e c0__undoable.toNatClampNeg (upd (c0_changed_e c0__undoable.toNatClampNeg) 0 x1)) c0__undoable.toNatClampNeg) 1 x2)) c0__undoable.toNatClampNeg) 2 x3))) := PD_eq hP hD (by rcases lt12 (Nat.not_le.mp fun q => hin3 (Or.inr q)) with e | e | e | e | e | e | e | e | e | e | e | e <;> rw [e] <;> rfl)
    refine lv_aload_n hx hb dX9_changes_108 rfl (lv_at hl 0 rfl) ?_
    refine lv_dup hx hb dX9_changes_109 rfl ?_
    refine va_get (ci := 9) (v := .int c0__undoable) (C := RX9) (T := TX9) (N := 49) hx hb hts hinX9 hown hK hP 0 rfl rfl 5 (by decide) (hts _ (List.mem_of_getElem? (i := 1) rfl)) (fun _ h9 => h9) rfl dX9_changes_110 ?_
    refine lv_iconst (v := 1) hx hb dX9_changes_113 (by decide) ?_
    refine lv_iadd hx hb dX9_changes_114 ?_
    refine va_put (D := G) (ci := 9) (v := .int (c0__undoable + (1:Int32))) (ty := .int) (C := RX9) (T := TX9) (N := 49) hx hb hts hinX9 tyX9 tyX9_ok nmX9 hown hK hP hD hS 0 rfl rfl 5 (by decide) (hts _ (List.mem_of_getElem? (i := 1) rfl)) (fun _ h9 => h9) rfl (by decide +kernel) rfl rfl (Nat.le_of_ble_eq_true rfl) dX9_changes_115 (fun H locs hP hD hS => ?_)
    have hP : va_P G vwCl (wm_X9_changes cA h0 h0_changed h0_changed_e h0_g h0_kept h0_p h0_causes h0_rows h0_sorts h0_sizes h0_moved h0_outs h0_losses h0_levelOf h0_levelOften h0_to h0_round h0_tail h0_path h0_leastOn h0_period h0_amplitude h0_basin h0_numbered h0_isReached h0_tape h0_told h0_traced s0__isKept s0__done (c0__undoable + (1:Int32)) c0__redoable s0__all s0__v s0__loss s0__isOver s0__hasCauses s0__outMany s0__overMany s0__isHalted s0__levelMany s0__rounds s0__stuck s0__onRounds s0__longest s0__loudest s0__reached s0__isAnyOver s0__taped s0__at s0__ran (va_up (va_up (va_up c0_changed_e c0__undoable.toNatClampNeg (upd (c0_changed_e c0__undoable.toNatClampNeg) 0 x1)) c0__undoable.toNatClampNeg (upd ((va_up c0_changed_e c0__undoable.toNatClampNeg (upd (c0_changed_e c0__undoable.toNatClampNeg) 0 x1)) c0__undoable.toNatClampNeg) 1 x2)) c0__undoable.toNatClampNeg (upd ((va_up (va_up c0_changed_e c0__undoable.toNatClampNeg (upd (c0_changed_e c0__undoable.toNatClampNeg) 0 x1)) c0__undoable.toNatClampNeg (upd ((va_up c0_changed_e c0__undoable.toNatClampNeg (upd (c0_changed_e c0__undoable.toNatClampNeg) 0 x1)) c0__undoable.toNatClampNeg) 1 x2)) c0__undoable.toNatClampNeg) 2 x3))) H := hP
    have hD : va_D A (wm_X9_changes cA h0 h0_changed h0_changed_e h0_g h0_kept h0_p h0_causes h0_rows h0_sorts h0_sizes h0_moved h0_outs h0_losses h0_levelOf h0_levelOften h0_to h0_round h0_tail h0_path h0_leastOn h0_period h0_amplitude h0_basin h0_numbered h0_isReached h0_tape h0_told h0_traced s0__isKept s0__done (c0__undoable + (1:Int32)) c0__redoable s0__all s0__v s0__loss s0__isOver s0__hasCauses s0__outMany s0__overMany s0__isHalted s0__levelMany s0__rounds s0__stuck s0__onRounds s0__longest s0__loudest s0__reached s0__isAnyOver s0__taped s0__at s0__ran (va_up (va_up (va_up c0_changed_e c0__undoable.toNatClampNeg (upd (c0_changed_e c0__undoable.toNatClampNeg) 0 x1)) c0__undoable.toNatClampNeg (upd ((va_up c0_changed_e c0__undoable.toNatClampNeg (upd (c0_changed_e c0__undoable.toNatClampNeg) 0 x1)) c0__undoable.toNatClampNeg) 1 x2)) c0__undoable.toNatClampNeg (upd ((va_up (va_up c0_changed_e c0__undoable.toNatClampNeg (upd (c0_changed_e c0__undoable.toNatClampNeg) 0 x1)) c0__undoable.toNatClampNeg (upd ((va_up c0_changed_e c0__undoable.toNatClampNeg (upd (c0_changed_e c0__undoable.toNatClampNeg) 0 x1)) c0__undoable.toNatClampNeg) 1 x2)) c0__undoable.toNatClampNeg) 2 x3))) := hD
    refine lv_aload_n hx hb dX9_changes_118 rfl (lv_at hl 0 rfl) ?_
    refine lv_iconst (v := 0) hx hb dX9_changes_119 (by decide) ?_
    refine va_put (D := G) (ci := 9) (v := .int (0:Int32)) (ty := .int) (C := RX9) (T := TX9) (N := 49) hx hb hts hinX9 tyX9 tyX9_ok nmX9 hown hK hP hD hS 0 rfl rfl 6 (by decide) (hts _ (List.mem_of_getElem? (i := 3) rfl)) (fun _ h9 => h9) rfl (by decide +kernel) rfl rfl (Nat.le_of_ble_eq_true rfl) dX9_changes_120 (fun H locs hP hD hS => ?_)
    have hP : va_P G vwCl (wm_X9_changes cA h0 h0_changed h0_changed_e h0_g h0_kept h0_p h0_causes h0_rows h0_sorts h0_sizes h0_moved h0_outs h0_losses h0_levelOf h0_levelOften h0_to h0_round h0_tail h0_path h0_leastOn h0_period h0_amplitude h0_basin h0_numbered h0_isReached h0_tape h0_told h0_traced s0__isKept s0__done (c0__undoable + (1:Int32)) (0:Int32) s0__all s0__v s0__loss s0__isOver s0__hasCauses s0__outMany s0__overMany s0__isHalted s0__levelMany s0__rounds s0__stuck s0__onRounds s0__longest s0__loudest s0__reached s0__isAnyOver s0__taped s0__at s0__ran (va_up (va_up (va_up c0_changed_e c0__undoable.toNatClampNeg (upd (c0_changed_e c0__undoable.toNatClampNeg) 0 x1)) c0__undoable.toNatClampNeg (upd ((va_up c0_changed_e c0__undoable.toNatClampNeg (upd (c0_changed_e c0__undoable.toNatClampNeg) 0 x1)) c0__undoable.toNatClampNeg) 1 x2)) c0__undoable.toNatClampNeg (upd ((va_up (va_up c0_changed_e c0__undoable.toNatClampNeg (upd (c0_changed_e c0__undoable.toNatClampNeg) 0 x1)) c0__undoable.toNatClampNeg (upd ((va_up c0_changed_e c0__undoable.toNatClampNeg (upd (c0_changed_e c0__undoable.toNatClampNeg) 0 x1)) c0__undoable.toNatClampNeg) 1 x2)) c0__undoable.toNatClampNeg) 2 x3))) H := hP
    have hD : va_D A (wm_X9_changes cA h0 h0_changed h0_changed_e h0_g h0_kept h0_p h0_causes h0_rows h0_sorts h0_sizes h0_moved h0_outs h0_losses h0_levelOf h0_levelOften h0_to h0_round h0_tail h0_path h0_leastOn h0_period h0_amplitude h0_basin h0_numbered h0_isReached h0_tape h0_told h0_traced s0__isKept s0__done (c0__undoable + (1:Int32)) (0:Int32) s0__all s0__v s0__loss s0__isOver s0__hasCauses s0__outMany s0__overMany s0__isHalted s0__levelMany s0__rounds s0__stuck s0__onRounds s0__longest s0__loudest s0__reached s0__isAnyOver s0__taped s0__at s0__ran (va_up (va_up (va_up c0_changed_e c0__undoable.toNatClampNeg (upd (c0_changed_e c0__undoable.toNatClampNeg) 0 x1)) c0__undoable.toNatClampNeg (upd ((va_up c0_changed_e c0__undoable.toNatClampNeg (upd (c0_changed_e c0__undoable.toNatClampNeg) 0 x1)) c0__undoable.toNatClampNeg) 1 x2)) c0__undoable.toNatClampNeg (upd ((va_up (va_up c0_changed_e c0__undoable.toNatClampNeg (upd (c0_changed_e c0__undoable.toNatClampNeg) 0 x1)) c0__undoable.toNatClampNeg (upd ((va_up c0_changed_e c0__undoable.toNatClampNeg (upd (c0_changed_e c0__undoable.toNatClampNeg) 0 x1)) c0__undoable.toNatClampNeg) 1 x2)) c0__undoable.toNatClampNeg) 2 x3))) := hD
    cases hok
    exact cr_v hx hb hr hlocks hQ dX9_changes_123 hP hS
  have L_22 : ∀ (n : Nat) (y4 : Int32) (y5 : Int32) (c0__undoable : Int32) (c0__redoable : Int32) (c0_changed_e : Nat → Nat → Int32) (p0_0 : Nat → Nat → Int32) (H : Heap) (locs : List Loc) (ls : Array Slot), va_P G vwCl (wm_X9_changes cA h0 h0_changed h0_changed_e h0_g h0_kept h0_p h0_causes h0_rows h0_sorts h0_sizes h0_moved h0_outs h0_losses h0_levelOf h0_levelOften h0_to h0_round h0_tail h0_path h0_leastOn h0_period h0_amplitude h0_basin h0_numbered h0_isReached h0_tape h0_told h0_traced s0__isKept s0__done c0__undoable c0__redoable s0__all s0__v s0__loss s0__isOver s0__hasCauses s0__outMany s0__overMany s0__isHalted s0__levelMany s0__rounds s0__stuck s0__onRounds s0__longest s0__loudest s0__reached s0__isAnyOver s0__taped s0__at s0__ran c0_changed_e) H → va_D A (wm_X9_changes cA h0 h0_changed h0_changed_e h0_g h0_kept h0_p h0_causes h0_rows h0_sorts h0_sizes h0_moved h0_outs h0_losses h0_levelOf h0_levelOften h0_to h0_round h0_tail h0_path h0_leastOn h0_period h0_amplitude h0_basin h0_numbered h0_isReached h0_tape h0_told h0_traced s0__isKept s0__done c0__undoable c0__redoable s0__all s0__v s0__loss s0__isOver s0__hasCauses s0__outMany s0__overMany s0__isHalted s0__levelMany s0__rounds s0__stuck s0__onRounds s0__longest s0__loudest s0__reached s0__isAnyOver s0__taped s0__at s0__ran c0_changed_e) → va_S A s.heap H locs → lv_has ls 6 [(0, .ref h0), (1, .int x1), (2, .int x2), (3, .int x3), (4, .int y4), (5, .int y5)] → fX9_changes_L22 x1 x2 x3 n y4 y5 c0__undoable c0__redoable c0_changed_e = some p0_0 → (∀ (H : Heap) (locs : List Loc) (ls : Array Slot), va_P G vwCl (wm_X9_changes cA h0 h0_changed h0_changed_e h0_g h0_kept h0_p h0_causes h0_rows h0_sorts h0_sizes h0_moved h0_outs h0_losses h0_levelOf h0_levelOften h0_to h0_round h0_tail h0_path h0_leastOn h0_period h0_amplitude h0_basin h0_numbered h0_isReached h0_tape h0_told h0_traced s0__isKept s0__done c0__undoable c0__redoable s0__all s0__v s0__loss s0__isOver s0__hasCauses s0__outMany s0__overMany s0__isHalted s0__levelMany s0__rounds s0__stuck s0__onRounds s0__longest s0__loudest s0__reached s0__isAnyOver s0__taped s0__at s0__ran p0_0) H → va_D A (wm_X9_changes cA h0 h0_changed h0_changed_e h0_g h0_kept h0_p h0_causes h0_rows h0_sorts h0_sizes h0_moved h0_outs h0_losses h0_levelOf h0_levelOften h0_to h0_round h0_tail h0_path h0_leastOn h0_period h0_amplitude h0_basin h0_numbered h0_isReached h0_tape h0_told h0_traced s0__isKept s0__done c0__undoable c0__redoable s0__all s0__v s0__loss s0__isOver s0__hasCauses s0__outMany s0__overMany s0__isHalted s0__levelMany s0__rounds s0__stuck s0__onRounds s0__longest s0__loudest s0__reached s0__isAnyOver s0__taped s0__at s0__ran p0_0) → va_S A s.heap H locs → lv_has ls 6 [(0, .ref h0), (1, .int x1), (2, .int x2), (3, .int x3), (4, .int y4)] → W p l e (rmX 1 40) s m ar below meth c H locs 0 0 Q (F0 m 56 ls [])) → W p l e (rmX 1 40) s m ar below meth c H locs 0 0 Q (F0 m 22 ls []) := by
    intro n
    induction n with
    | zero =>
      intro y4 y5 c0__undoable c0__redoable c0_changed_e p0_0 H locs ls hP hD hS hl hok
      rw [fX9_changes_L22] at hok
      cases hok
    | succ n ih =>
      intro y4 y5 c0__undoable c0__redoable c0_changed_e p0_0 H locs ls hP hD hS hl hok K
      rw [fX9_changes_L22] at hok
      refine lv_iload hx hb dX9_changes_22 (lv_at hl 5 rfl) ?_
      refine lv_iconst (v := 3) hx hb dX9_changes_24 (by decide) ?_
      refine lv_icmp_ge (tgt := 56) hx hb dX9_changes_25 (by decide) (fun c => ?_) (fun c => ?_)
      · replace hok := g_pos hok c
        cases hok
        exact K _ _ _ hP hD hS (lv_sub hl [0, 1, 2, 3, 4] rfl)
      replace hok := g_neg hok c
      refine lv_aload_n hx hb dX9_changes_28 rfl (lv_at hl 0 rfl) ?_
      refine va_get (ci := 9) (v := .ref h0_changed) (C := RX9) (T := TX9) (N := 49) hx hb hts hinX9 hown hK hP 0 rfl rfl 4 (by decide) (hts _ (List.mem_of_getElem? (i := 2) rfl)) (fun _ h9 => h9) rfl dX9_changes_29 ?_
      refine lv_iload hx hb dX9_changes_32 (lv_at hl 4 rfl) ?_
      refine lv_iconst (v := 1) hx hb dX9_changes_34 (by decide) ?_
      refine lv_isub hx hb dX9_changes_35 ?_
      obtain ⟨hin4, hok⟩ := g_no hok
      refine x_aalda hx hb hK hP 1 5 rfl rfl hin4 dX9_changes_36 ?_
      refine W.eq (congrArg (fun z => F0 m 37 ls (z :: [])) (rf_at (Nat.not_le.mp fun q => hin4 (Or.inr q)))) ?_
      refine lv_iload hx hb dX9_changes_37 (lv_at hl 5 rfl) ?_
      refine lv_aload_n hx hb dX9_changes_39 rfl (lv_at hl 0 rfl) ?_
      refine va_get (ci := 9) (v := .ref h0_changed) (C := RX9) (T := TX9) (N := 49) hx hb hts hinX9 hown hK hP 0 rfl rfl 4 (by decide) (hts _ (List.mem_of_getElem? (i := 2) rfl)) (fun _ h9 => h9) rfl dX9_changes_40 ?_
      refine lv_iload hx hb dX9_changes_43 (lv_at hl 4 rfl) ?_
      obtain ⟨hin5, hok⟩ := g_no hok
      refine x_aalda hx hb hK hP 1 5 rfl rfl hin5 dX9_changes_45 ?_
      refine W.eq (congrArg (fun z => F0 m 46 ls (z :: [.int y5, .ref (h0_changed_e (y4 - (1:Int32)).toNatClampNeg)])) (rf_at (Nat.not_le.mp fun q => hin5 (Or.inr q)))) ?_
      refine lv_iload hx hb dX9_changes_46 (lv_at hl 5 rfl) ?_
      obtain ⟨hin, hok⟩ := g_no hok
      refine x_iald (cA := cA 0) (n := 3) (f := (c0_changed_e y4.toNatClampNeg)) (k := y5.toNatClampNeg) hx hb hK hP (2 + 1 * y4.toNatClampNeg) 0 (by rcases lt12 (Nat.not_le.mp fun q => hin5 (Or.inr q)) with e | e | e | e | e | e | e | e | e | e | e | e <;> rw [e] <;> rfl) rfl hin rfl dX9_changes_48 ?_
      obtain ⟨hin, hok⟩ := g_no hok
      refine x_iast (cA := cA 0) (n := 3) (f := (c0_changed_e (y4 - (1:Int32)).toNatClampNeg)) (k := y5.toNatClampNeg) hx hb hK hP hD hS (2 + 1 * (y4 - (1:Int32)).toNatClampNeg) 0 (by rcases lt12 (Nat.not_le.mp fun q => hin4 (Or.inr q)) with e | e | e | e | e | e | e | e | e | e | e | e <;> rw [e] <;> rfl) rfl hin rfl dX9_changes_49 (fun H locs hP hD hS => ?_)
      obtain ⟨hP, hD⟩ : va_P G vwCl (wm_X9_changes cA h0 h0_changed h0_changed_e h0_g h0_kept h0_p h0_causes h0_rows h0_sorts h0_sizes h0_moved h0_outs h0_losses h0_levelOf h0_levelOften h0_to h0_round h0_tail h0_path h0_leastOn h0_period h0_amplitude h0_basin h0_numbered h0_isReached h0_tape h0_told h0_traced s0__isKept s0__done c0__undoable c0__redoable s0__all s0__v s0__loss s0__isOver s0__hasCauses s0__outMany s0__overMany s0__isHalted s0__levelMany s0__rounds s0__stuck s0__onRounds s0__longest s0__loudest s0__reached s0__isAnyOver s0__taped s0__at s0__ran (va_up c0_changed_e (y4 - (1:Int32)).toNatClampNeg (upd (c0_changed_e (y4 - (1:Int32)).toNatClampNeg) y5.toNatClampNeg ((c0_changed_e y4.toNatClampNeg) y5.toNatClampNeg)))) H ∧ va_D A (wm_X9_changes cA h0 h0_changed h0_changed_e h0_g h0_kept h0_p h0_causes h0_rows h0_sorts h0_sizes h0_moved h0_outs h0_losses h0_levelOf h0_levelOften h0_to h0_round h0_tail h0_path h0_leastOn h0_period h0_amplitude h0_basin h0_numbered h0_isReached h0_tape h0_told h0_traced s0__isKept s0__done c0__undoable c0__redoable s0__all s0__v s0__loss s0__isOver s0__hasCauses s0__outMany s0__overMany s0__isHalted s0__levelMany s0__rounds s0__stuck s0__onRounds s0__longest s0__loudest s0__reached s0__isAnyOver s0__taped s0__at s0__ran (va_up c0_changed_e (y4 - (1:Int32)).toNatClampNeg (upd (c0_changed_e (y4 - (1:Int32)).toNatClampNeg) y5.toNatClampNeg ((c0_changed_e y4.toNatClampNeg) y5.toNatClampNeg)))) := PD_eq hP hD (by rcases lt12 (Nat.not_le.mp fun q => hin4 (Or.inr q)) with e | e | e | e | e | e | e | e | e | e | e | e <;> rw [e] <;> rfl)
      refine lv_iinc (v := (y5 + 1)) (lv' := [(5, .int (y5 + 1)), (0, .ref h0), (1, .int x1), (2, .int x2), (3, .int x3), (4, .int y4)]) hx hb dX9_changes_50 hl (k := 5) rfl rfl (by decide) rfl (fun ls hl => ?_)
      refine lv_goto (tgt := 22) hx hb dX9_changes_53 (by decide) ?_
      exact ih y4 (y5 + 1) c0__undoable c0__redoable (va_up c0_changed_e (y4 - (1:Int32)).toNatClampNeg (upd (c0_changed_e (y4 - (1:Int32)).toNatClampNeg) y5.toNatClampNeg ((c0_changed_e y4.toNatClampNeg) y5.toNatClampNeg))) p0_0 _ _ _ hP hD hS (lv_sub hl [1, 2, 3, 4, 5, 0] rfl) hok K
  have L_12 : ∀ (n : Nat) (y4 : Int32) (c0__undoable : Int32) (c0__redoable : Int32) (c0_changed_e : Nat → Nat → Int32) (p0_0 : Nat → Nat → Int32) (H : Heap) (locs : List Loc) (ls : Array Slot), va_P G vwCl (wm_X9_changes cA h0 h0_changed h0_changed_e h0_g h0_kept h0_p h0_causes h0_rows h0_sorts h0_sizes h0_moved h0_outs h0_losses h0_levelOf h0_levelOften h0_to h0_round h0_tail h0_path h0_leastOn h0_period h0_amplitude h0_basin h0_numbered h0_isReached h0_tape h0_told h0_traced s0__isKept s0__done c0__undoable c0__redoable s0__all s0__v s0__loss s0__isOver s0__hasCauses s0__outMany s0__overMany s0__isHalted s0__levelMany s0__rounds s0__stuck s0__onRounds s0__longest s0__loudest s0__reached s0__isAnyOver s0__taped s0__at s0__ran c0_changed_e) H → va_D A (wm_X9_changes cA h0 h0_changed h0_changed_e h0_g h0_kept h0_p h0_causes h0_rows h0_sorts h0_sizes h0_moved h0_outs h0_losses h0_levelOf h0_levelOften h0_to h0_round h0_tail h0_path h0_leastOn h0_period h0_amplitude h0_basin h0_numbered h0_isReached h0_tape h0_told h0_traced s0__isKept s0__done c0__undoable c0__redoable s0__all s0__v s0__loss s0__isOver s0__hasCauses s0__outMany s0__overMany s0__isHalted s0__levelMany s0__rounds s0__stuck s0__onRounds s0__longest s0__loudest s0__reached s0__isAnyOver s0__taped s0__at s0__ran c0_changed_e) → va_S A s.heap H locs → lv_has ls 6 [(0, .ref h0), (1, .int x1), (2, .int x2), (3, .int x3), (4, .int y4)] → fX9_changes_L12 x1 x2 x3 n y4 c0__undoable c0__redoable c0_changed_e = some p0_0 → (∀ (H : Heap) (locs : List Loc) (ls : Array Slot), va_P G vwCl (wm_X9_changes cA h0 h0_changed h0_changed_e h0_g h0_kept h0_p h0_causes h0_rows h0_sorts h0_sizes h0_moved h0_outs h0_losses h0_levelOf h0_levelOften h0_to h0_round h0_tail h0_path h0_leastOn h0_period h0_amplitude h0_basin h0_numbered h0_isReached h0_tape h0_told h0_traced s0__isKept s0__done c0__undoable c0__redoable s0__all s0__v s0__loss s0__isOver s0__hasCauses s0__outMany s0__overMany s0__isHalted s0__levelMany s0__rounds s0__stuck s0__onRounds s0__longest s0__loudest s0__reached s0__isAnyOver s0__taped s0__at s0__ran p0_0) H → va_D A (wm_X9_changes cA h0 h0_changed h0_changed_e h0_g h0_kept h0_p h0_causes h0_rows h0_sorts h0_sizes h0_moved h0_outs h0_losses h0_levelOf h0_levelOften h0_to h0_round h0_tail h0_path h0_leastOn h0_period h0_amplitude h0_basin h0_numbered h0_isReached h0_tape h0_told h0_traced s0__isKept s0__done c0__undoable c0__redoable s0__all s0__v s0__loss s0__isOver s0__hasCauses s0__outMany s0__overMany s0__isHalted s0__levelMany s0__rounds s0__stuck s0__onRounds s0__longest s0__loudest s0__reached s0__isAnyOver s0__taped s0__at s0__ran p0_0) → va_S A s.heap H locs → lv_has ls 6 [(0, .ref h0), (1, .int x1), (2, .int x2), (3, .int x3)] → W p l e (rmX 1 40) s m ar below meth c H locs 0 0 Q (F0 m 62 ls [])) → W p l e (rmX 1 40) s m ar below meth c H locs 0 0 Q (F0 m 12 ls []) := by
    intro n
    induction n with
    | zero =>
      intro y4 c0__undoable c0__redoable c0_changed_e p0_0 H locs ls hP hD hS hl hok
      rw [fX9_changes_L12] at hok
      cases hok
    | succ n ih =>
      intro y4 c0__undoable c0__redoable c0_changed_e p0_0 H locs ls hP hD hS hl hok K
      rw [fX9_changes_L12] at hok
      refine lv_iload hx hb dX9_changes_12 (lv_at hl 4 rfl) ?_
      refine lv_bipush (v := 12) hx hb dX9_changes_14 (by decide) ?_
      refine lv_icmp_ge (tgt := 62) hx hb dX9_changes_16 (by decide) (fun c => ?_) (fun c => ?_)
      · replace hok := g_pos hok c
        cases hok
        exact K _ _ _ hP hD hS (lv_sub hl [0, 1, 2, 3] rfl)
      replace hok := g_neg hok c
      refine lv_iconst (v := 0) hx hb dX9_changes_19 (by decide) ?_
      refine lv_istore (lv' := [(5, .int (0:Int32)), (0, .ref h0), (1, .int x1), (2, .int x2), (3, .int x3), (4, .int y4)]) hx hb dX9_changes_20 hl (by decide) rfl (fun ls hl => ?_)
      obtain ⟨o6, hq, hok⟩ := g_bnd1 hok
      refine L_22 FUEL y4 (0:Int32) c0__undoable c0__redoable c0_changed_e o6 _ _ _ hP hD hS (lv_sub hl [1, 2, 3, 4, 5, 0] rfl) hq (fun H locs ls hP hD hS hl => ?_)
      refine lv_iinc (v := (y4 + 1)) (lv' := [(4, .int (y4 + 1)), (0, .ref h0), (1, .int x1), (2, .int x2), (3, .int x3)]) hx hb dX9_changes_56 hl (k := 4) rfl rfl (by decide) rfl (fun ls hl => ?_)
      refine lv_goto (tgt := 12) hx hb dX9_changes_59 (by decide) ?_
      exact ih (y4 + 1) c0__undoable c0__redoable o6 p0_0 _ _ _ hP hD hS (lv_sub hl [1, 2, 3, 4, 0] rfl) hok K
  unfold fX9_changes at hok
  refine lv_aload_n hx hb dX9_changes_0 rfl (lv_at hl 0 rfl) ?_
  refine va_get (ci := 9) (v := .int s0__undoable) (C := RX9) (T := TX9) (N := 49) hx hb hts hinX9 hown hK hP 0 rfl rfl 5 (by decide) (hts _ (List.mem_of_getElem? (i := 1) rfl)) (fun _ h9 => h9) rfl dX9_changes_1 ?_
  refine lv_bipush (v := 12) hx hb dX9_changes_4 (by decide) ?_
  refine lv_icmp_ne (tgt := 72) hx hb dX9_changes_6 (by decide) (fun c => ?_) (fun c => ?_)
  · replace hok := g_neg hok c
    exact J_72 s0__undoable s0__redoable s0_changed_e _ _ _ hP hD hS (lv_sub hl [0, 1, 2, 3] rfl) hok
  replace hok := g_pos hok c
  refine lv_iconst (v := 1) hx hb dX9_changes_9 (by decide) ?_
  refine lv_istore (lv' := [(4, .int (1:Int32)), (0, .ref h0), (1, .int x1), (2, .int x2), (3, .int x3)]) hx hb dX9_changes_10 hl (by decide) rfl (fun ls hl => ?_)
  obtain ⟨o7, hq, hok⟩ := g_bnd1 hok
  refine L_12 FUEL (1:Int32) s0__undoable s0__redoable s0_changed_e o7 _ _ _ hP hD hS (lv_sub hl [1, 2, 3, 4, 0] rfl) hq (fun H locs ls hP hD hS hl => ?_)
  refine lv_aload_n hx hb dX9_changes_62 rfl (lv_at hl 0 rfl) ?_
  refine lv_dup hx hb dX9_changes_63 rfl ?_
  refine va_get (ci := 9) (v := .int s0__undoable) (C := RX9) (T := TX9) (N := 49) hx hb hts hinX9 hown hK hP 0 rfl rfl 5 (by decide) (hts _ (List.mem_of_getElem? (i := 1) rfl)) (fun _ h9 => h9) rfl dX9_changes_64 ?_
  refine lv_iconst (v := 1) hx hb dX9_changes_67 (by decide) ?_
  refine lv_isub hx hb dX9_changes_68 ?_
  refine va_put (D := G) (ci := 9) (v := .int (s0__undoable - (1:Int32))) (ty := .int) (C := RX9) (T := TX9) (N := 49) hx hb hts hinX9 tyX9 tyX9_ok nmX9 hown hK hP hD hS 0 rfl rfl 5 (by decide) (hts _ (List.mem_of_getElem? (i := 1) rfl)) (fun _ h9 => h9) rfl (by decide +kernel) rfl rfl (Nat.le_of_ble_eq_true rfl) dX9_changes_69 (fun H locs hP hD hS => ?_)
  have hP : va_P G vwCl (wm_X9_changes cA h0 h0_changed h0_changed_e h0_g h0_kept h0_p h0_causes h0_rows h0_sorts h0_sizes h0_moved h0_outs h0_losses h0_levelOf h0_levelOften h0_to h0_round h0_tail h0_path h0_leastOn h0_period h0_amplitude h0_basin h0_numbered h0_isReached h0_tape h0_told h0_traced s0__isKept s0__done (s0__undoable - (1:Int32)) s0__redoable s0__all s0__v s0__loss s0__isOver s0__hasCauses s0__outMany s0__overMany s0__isHalted s0__levelMany s0__rounds s0__stuck s0__onRounds s0__longest s0__loudest s0__reached s0__isAnyOver s0__taped s0__at s0__ran o7) H := hP
  have hD : va_D A (wm_X9_changes cA h0 h0_changed h0_changed_e h0_g h0_kept h0_p h0_causes h0_rows h0_sorts h0_sizes h0_moved h0_outs h0_losses h0_levelOf h0_levelOften h0_to h0_round h0_tail h0_path h0_leastOn h0_period h0_amplitude h0_basin h0_numbered h0_isReached h0_tape h0_told h0_traced s0__isKept s0__done (s0__undoable - (1:Int32)) s0__redoable s0__all s0__v s0__loss s0__isOver s0__hasCauses s0__outMany s0__overMany s0__isHalted s0__levelMany s0__rounds s0__stuck s0__onRounds s0__longest s0__loudest s0__reached s0__isAnyOver s0__taped s0__at s0__ran o7) := hD
  exact J_72 (s0__undoable - (1:Int32)) s0__redoable o7 _ _ _ hP hD hS (lv_sub hl [0, 1, 2, 3] rfl) hok
