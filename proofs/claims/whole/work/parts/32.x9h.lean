set_option maxHeartbeats 40000000 in
set_option maxRecDepth 100000 in
theorem c_X9_level (l : Launch) (G : va_G) (cA : Nat → ClassId) (ts : Nat → Nat) (h0 : Nat) (h0_g : Nat) (h0_p : Nat) (h0_rows : Nat) (h0_rows_e : Nat → Nat) (h0_sorts : Nat) (h0_sizes : Nat) (h0_outs : Nat) (h0_losses : Nat) (h0_levelOf : Nat) (h0_levelOften : Nat) (h0_kept : Nat) (h0_changed : Nat) (h0_causes : Nat) (h0_moved : Nat) (h0_to : Nat) (h0_round : Nat) (h0_tail : Nat) (h0_path : Nat) (h0_leastOn : Nat) (h0_period : Nat) (h0_amplitude : Nat) (h0_basin : Nat) (h0_numbered : Nat) (h0_isReached : Nat) (h0_tape : Nat) (h0_told : Nat) (h0_traced : Nat) (x1 : Int32) (x2 : Int32) (x3 : Int32) (s0__isKept : Int32) (s0__done : Int32) (s0__undoable : Int32) (s0__redoable : Int32) (s0__all : Int32) (s0__v : Int32) (s0__loss : Int32) (s0__isOver : Int32) (s0__hasCauses : Int32) (s0__outMany : Int32) (s0__overMany : Int32) (s0__isHalted : Int32) (s0__levelMany : Int32) (s0__rounds : Int32) (s0__stuck : Int32) (s0__onRounds : Int32) (s0__longest : Int32) (s0__loudest : Int32) (s0__reached : Int32) (s0__isAnyOver : Int32) (s0__taped : Int32) (s0__at : Int32) (s0__ran : Int32) (s0_g : Nat → Int32) (s0_p : Nat → Int32) (s0_rows_e : Nat → Nat → Int64) (s0_sorts : Nat → Int32) (s0_sizes : Nat → Int32) (s0_outs : Nat → Int32) (s0_losses : Nat → Int32) (s0_levelOf : Nat → Int32) (s0_levelOften : Nat → Int32) (r : Int32) (o0__all : Int32) (o0__v : Int32) (o0__loss : Int32) (o0__isOver : Int32) (o0__outMany : Int32) (o0__overMany : Int32) (o0__isHalted : Int32) (o0__levelMany : Int32) (o0_p : Nat → Int32) (o0_outs : Nat → Int32) (o0_losses : Nat → Int32) (o0_levelOf : Nat → Int32) (o0_levelOften : Nat → Int32) (hok : fX9_level x1 x2 x3 s0__all s0__v s0__loss s0__isOver s0__outMany s0__overMany s0__isHalted s0__levelMany s0_g s0_p s0_rows_e s0_sorts s0_sizes s0_outs s0_losses s0_levelOf s0_levelOften = some (r, o0__all, o0__v, o0__loss, o0__isOver, o0__outMany, o0__overMany, o0__isHalted, o0__levelMany, o0_p, o0_outs, o0_losses, o0_levelOf, o0_levelOften)) : Ct l G cA ts yX9_level wsX9_level 6 157 [.ref h0, .int x1, .int x2, .int x3] (wm_X9_levels cA h0 h0_g h0_p h0_rows h0_rows_e h0_sorts h0_sizes h0_outs h0_losses h0_levelOf h0_levelOften h0_kept h0_changed h0_causes h0_moved h0_to h0_round h0_tail h0_path h0_leastOn h0_period h0_amplitude h0_basin h0_numbered h0_isReached h0_tape h0_told h0_traced s0__isKept s0__done s0__undoable s0__redoable s0__all s0__v s0__loss s0__isOver s0__hasCauses s0__outMany s0__overMany s0__isHalted s0__levelMany s0__rounds s0__stuck s0__onRounds s0__longest s0__loudest s0__reached s0__isAnyOver s0__taped s0__at s0__ran s0_g s0_p s0_rows_e s0_sorts s0_sizes s0_outs s0_losses s0_levelOf s0_levelOften) (wm_X9_levels cA h0 h0_g h0_p h0_rows h0_rows_e h0_sorts h0_sizes h0_outs h0_losses h0_levelOf h0_levelOften h0_kept h0_changed h0_causes h0_moved h0_to h0_round h0_tail h0_path h0_leastOn h0_period h0_amplitude h0_basin h0_numbered h0_isReached h0_tape h0_told h0_traced s0__isKept s0__done s0__undoable s0__redoable o0__all o0__v o0__loss o0__isOver s0__hasCauses o0__outMany o0__overMany o0__isHalted o0__levelMany s0__rounds s0__stuck s0__onRounds s0__longest s0__loudest s0__reached s0__isAnyOver s0__taped s0__at s0__ran s0_g o0_p s0_rows_e s0_sorts s0_sizes o0_outs o0_losses o0_levelOf o0_levelOften) (some (.int r)) := by
  refine Ct.intro (cc := cX9_level) (maxL := 4) (ret := some .int) (by decide +kernel) rfl (Nat.le_of_ble_eq_true rfl) ?_
  intro p e s m ar below meth c A Q hx hb hr hml hown hlocks hts hK hZ hA hQ hP hD hS ls hl
  have hown : s.vm.findClass RX9 = some m.cls := hown
  have hinX9 : ∀ w ∈ wsX90, w ∈ wsX9_level := fun _ h => List.mem_cons_of_mem _ (List.mem_append_right _ (h))
  have hl : lv_has ls 4 [(0, .ref h0), (1, .int x1), (2, .int x2), (3, .int x3)] := hl
  have hP : va_P G vwCl (wm_X9_levels cA h0 h0_g h0_p h0_rows h0_rows_e h0_sorts h0_sizes h0_outs h0_losses h0_levelOf h0_levelOften h0_kept h0_changed h0_causes h0_moved h0_to h0_round h0_tail h0_path h0_leastOn h0_period h0_amplitude h0_basin h0_numbered h0_isReached h0_tape h0_told h0_traced s0__isKept s0__done s0__undoable s0__redoable s0__all s0__v s0__loss s0__isOver s0__hasCauses s0__outMany s0__overMany s0__isHalted s0__levelMany s0__rounds s0__stuck s0__onRounds s0__longest s0__loudest s0__reached s0__isAnyOver s0__taped s0__at s0__ran s0_g s0_p s0_rows_e s0_sorts s0_sizes s0_outs s0_losses s0_levelOf s0_levelOften) s.heap := hP
  have hD : va_D A (wm_X9_levels cA h0 h0_g h0_p h0_rows h0_rows_e h0_sorts h0_sizes h0_outs h0_losses h0_levelOf h0_levelOften h0_kept h0_changed h0_causes h0_moved h0_to h0_round h0_tail h0_path h0_leastOn h0_period h0_amplitude h0_basin h0_numbered h0_isReached h0_tape h0_told h0_traced s0__isKept s0__done s0__undoable s0__redoable s0__all s0__v s0__loss s0__isOver s0__hasCauses s0__outMany s0__overMany s0__isHalted s0__levelMany s0__rounds s0__stuck s0__onRounds s0__longest s0__loudest s0__reached s0__isAnyOver s0__taped s0__at s0__ran s0_g s0_p s0_rows_e s0_sorts s0_sizes s0_outs s0_losses s0_levelOf s0_levelOften) := hD
  unfold fX9_level at hok
  refine lv_aload_n hx hb dX9_level_0 rfl (lv_at hl 0 rfl) ?_
  refine lv_iload_n hx hb dX9_level_1 rfl (lv_at hl 1 rfl) ?_
  obtain ⟨r1, hq, hok⟩ := g_bnd1 hok
  refine cG (is := [0, 8]) (wc := (wm_X9_isThere cA h0 h0_sorts h0_g h0_kept h0_changed h0_p h0_causes h0_rows h0_sizes h0_moved h0_outs h0_losses h0_levelOf h0_levelOften h0_to h0_round h0_tail h0_path h0_leastOn h0_period h0_amplitude h0_basin h0_numbered h0_isReached h0_tape h0_told h0_traced s0__isKept s0__done s0__undoable s0__redoable s0__all s0__v s0__loss s0__isOver s0__hasCauses s0__outMany s0__overMany s0__isHalted s0__levelMany s0__rounds s0__stuck s0__onRounds s0__longest s0__loudest s0__reached s0__isAnyOver s0__taped s0__at s0__ran s0_sorts)) (w1 := (wm_X9_isThere cA h0 h0_sorts h0_g h0_kept h0_changed h0_p h0_causes h0_rows h0_sizes h0_moved h0_outs h0_losses h0_levelOf h0_levelOften h0_to h0_round h0_tail h0_path h0_leastOn h0_period h0_amplitude h0_basin h0_numbered h0_isReached h0_tape h0_told h0_traced s0__isKept s0__done s0__undoable s0__redoable s0__all s0__v s0__loss s0__isOver s0__hasCauses s0__outMany s0__overMany s0__isHalted s0__levelMany s0__rounds s0__stuck s0__onRounds s0__longest s0__loudest s0__reached s0__isAnyOver s0__taped s0__at s0__ran s0_sorts)) (rv := (some (.int r1))) (st1 := [.int r1]) (va_runV (Ts := wsX9_level) (As := [.int x1]) (rest := []) ⟨hx, hb, hml, hown, hts⟩ (c_X9_isThere l G cA ts h0 h0_sorts h0_g h0_kept h0_changed h0_p h0_causes h0_rows h0_sizes h0_moved h0_outs h0_losses h0_levelOf h0_levelOften h0_to h0_round h0_tail h0_path h0_leastOn h0_period h0_amplitude h0_basin h0_numbered h0_isReached h0_tape h0_told h0_traced x1 s0__isKept s0__done s0__undoable s0__redoable s0__all s0__v s0__loss s0__isOver s0__hasCauses s0__outMany s0__overMany s0__isHalted s0__levelMany s0__rounds s0__stuck s0__onRounds s0__longest s0__loudest s0__reached s0__isAnyOver s0__taped s0__at s0__ran s0_sorts r1 hq s.heap.size) (cwV 1 hts gX9_level_X9_isThere rfl rfl rfl (by decide +kernel) ⟨Nat.le_of_ble_eq_true rfl, Nat.le_of_ble_eq_true rfl⟩) (pre_V (ci := 9) (q0 := 0) (is := [0, 8]) rfl rfl hP hD hS hA hK hZ (by decide +kernel) (by rfl)) rfl rfl hl.1 rfl (by exact lv_room (Nat.le_of_ble_eq_true rfl)) dX9_level_2 ⟨Nat.le_refl _, Nat.le_refl _⟩) hP hD hS hA (by decide +kernel) (by rfl) (by rfl) rfl (fun H locs hP hD hS => ?_)
  have hP : va_P G vwCl (wm_X9_levels cA h0 h0_g h0_p h0_rows h0_rows_e h0_sorts h0_sizes h0_outs h0_losses h0_levelOf h0_levelOften h0_kept h0_changed h0_causes h0_moved h0_to h0_round h0_tail h0_path h0_leastOn h0_period h0_amplitude h0_basin h0_numbered h0_isReached h0_tape h0_told h0_traced s0__isKept s0__done s0__undoable s0__redoable s0__all s0__v s0__loss s0__isOver s0__hasCauses s0__outMany s0__overMany s0__isHalted s0__levelMany s0__rounds s0__stuck s0__onRounds s0__longest s0__loudest s0__reached s0__isAnyOver s0__taped s0__at s0__ran s0_g s0_p s0_rows_e s0_sorts s0_sizes s0_outs s0_losses s0_levelOf s0_levelOften) H := hP
  have hD : va_D A (wm_X9_levels cA h0 h0_g h0_p h0_rows h0_rows_e h0_sorts h0_sizes h0_outs h0_losses h0_levelOf h0_levelOften h0_kept h0_changed h0_causes h0_moved h0_to h0_round h0_tail h0_path h0_leastOn h0_period h0_amplitude h0_basin h0_numbered h0_isReached h0_tape h0_told h0_traced s0__isKept s0__done s0__undoable s0__redoable s0__all s0__v s0__loss s0__isOver s0__hasCauses s0__outMany s0__overMany s0__isHalted s0__levelMany s0__rounds s0__stuck s0__onRounds s0__longest s0__loudest s0__reached s0__isAnyOver s0__taped s0__at s0__ran s0_g s0_p s0_rows_e s0_sorts s0_sizes s0_outs s0_losses s0_levelOf s0_levelOften) := hD
  refine lv_if_eq (tgt := 20) hx hb dX9_level_5 (by decide) (fun c => ?_) (fun c => ?_)
  · replace hok := g_pos hok c
    refine lv_ldc (v := -1000000) hx hb hown (hts _ (List.mem_of_getElem? (i := 2) rfl)) dX9_level_20 ?_
    obtain ⟨e, hok⟩ := g_pr hok
    try subst e
    obtain ⟨e, hok⟩ := g_pr hok
    try subst e
    obtain ⟨e, hok⟩ := g_pr hok
    try subst e
    obtain ⟨e, hok⟩ := g_pr hok
    try subst e
    obtain ⟨e, hok⟩ := g_pr hok
    try subst e
    obtain ⟨e, hok⟩ := g_pr hok
    try subst e
    obtain ⟨e, hok⟩ := g_pr hok
    try subst e
    obtain ⟨e, hok⟩ := g_pr hok
    try subst e
    obtain ⟨e, hok⟩ := g_pr hok
    try subst e
    obtain ⟨e, hok⟩ := g_pr hok
    try subst e
    obtain ⟨e, hok⟩ := g_pr hok
    try subst e
    obtain ⟨e, hok⟩ := g_pr hok
    try subst e
    obtain ⟨e, hok⟩ := g_pr hok
    try subst e
    cases hok
    exact cr_i hx hb hr hlocks hQ dX9_level_22 hP hS
  replace hok := g_neg hok c
  refine lv_iload_n hx hb dX9_level_8 rfl (lv_at hl 3 rfl) ?_
  refine lv_i2l (v := (x3.toInt64)) hx hb dX9_level_9 rfl ?_
  refine lv_lconst (v := 0) hx hb dX9_level_10 (by decide) ?_
  refine lv_ldc2 (v := 2) hx hb hown (hts _ (List.mem_of_getElem? (i := 1) rfl)) dX9_level_11 ?_
  obtain ⟨r2, hq, hok⟩ := g_bnd1 hok
  refine cG (is := []) (wc := (wm_X0_find cA)) (w1 := (wm_X0_find cA)) (rv := (some (.int r2))) (st1 := [.int r2]) (va_runS (Ts := wsX9_level) (As := [.long (x3.toInt64), .long (0:Int64), .long (2:Int64)]) (rest := []) ⟨hx, hb, hml, hown, hts⟩ (c_X9_in l G cA ts (x3.toInt64) (0:Int64) (2:Int64) r2 hq H.size) (va_cwS 3 hts gX9_level_X9_in rfl rfl rfl (by decide +kernel) ⟨Nat.le_of_ble_eq_true rfl, Nat.le_of_ble_eq_true rfl⟩) (pre_S (is := []) hP hD hS hA hK hZ (by decide +kernel) (by rfl)) rfl rfl hl.1 rfl (by exact lv_room (Nat.le_of_ble_eq_true rfl)) dX9_level_14 ⟨Nat.le_refl _, Nat.le_refl _⟩) hP hD hS hA (by decide +kernel) (by rfl) (by rfl) rfl (fun H locs hP hD hS => ?_)
  have hP : va_P G vwCl (wm_X9_levels cA h0 h0_g h0_p h0_rows h0_rows_e h0_sorts h0_sizes h0_outs h0_losses h0_levelOf h0_levelOften h0_kept h0_changed h0_causes h0_moved h0_to h0_round h0_tail h0_path h0_leastOn h0_period h0_amplitude h0_basin h0_numbered h0_isReached h0_tape h0_told h0_traced s0__isKept s0__done s0__undoable s0__redoable s0__all s0__v s0__loss s0__isOver s0__hasCauses s0__outMany s0__overMany s0__isHalted s0__levelMany s0__rounds s0__stuck s0__onRounds s0__longest s0__loudest s0__reached s0__isAnyOver s0__taped s0__at s0__ran s0_g s0_p s0_rows_e s0_sorts s0_sizes s0_outs s0_losses s0_levelOf s0_levelOften) H := hP
  have hD : va_D A (wm_X9_levels cA h0 h0_g h0_p h0_rows h0_rows_e h0_sorts h0_sizes h0_outs h0_losses h0_levelOf h0_levelOften h0_kept h0_changed h0_causes h0_moved h0_to h0_round h0_tail h0_path h0_leastOn h0_period h0_amplitude h0_basin h0_numbered h0_isReached h0_tape h0_told h0_traced s0__isKept s0__done s0__undoable s0__redoable s0__all s0__v s0__loss s0__isOver s0__hasCauses s0__outMany s0__overMany s0__isHalted s0__levelMany s0__rounds s0__stuck s0__onRounds s0__longest s0__loudest s0__reached s0__isAnyOver s0__taped s0__at s0__ran s0_g s0_p s0_rows_e s0_sorts s0_sizes s0_outs s0_losses s0_levelOf s0_levelOften) := hD
  refine lv_if_ne (tgt := 23) hx hb dX9_level_17 (by decide) (fun c => ?_) (fun c => ?_)
  · replace hok := g_neg hok c
    refine lv_aload_n hx hb dX9_level_23 rfl (lv_at hl 0 rfl) ?_
    refine lv_iload_n hx hb dX9_level_24 rfl (lv_at hl 1 rfl) ?_
    obtain ⟨o3, o4, o5, o6, o7, o8, o9, o10, o11, o12, o13, o14, o15, hq, hok⟩ := g_bnd13 hok
    refine cG (is := [0, 1, 2, 3, 4, 5, 6, 7, 9, 10, 11, 12, 13]) (wc := (wm_X9_findLevels cA h0 h0_g h0_p h0_rows h0_rows_e h0_sizes h0_outs h0_losses h0_levelOf h0_levelOften h0_kept h0_changed h0_causes h0_sorts h0_moved h0_to h0_round h0_tail h0_path h0_leastOn h0_period h0_amplitude h0_basin h0_numbered h0_isReached h0_tape h0_told h0_traced s0__isKept s0__done s0__undoable s0__redoable s0__all s0__v s0__loss s0__isOver s0__hasCauses s0__outMany s0__overMany s0__isHalted s0__levelMany s0__rounds s0__stuck s0__onRounds s0__longest s0__loudest s0__reached s0__isAnyOver s0__taped s0__at s0__ran s0_g s0_p s0_rows_e s0_sizes s0_outs s0_losses s0_levelOf s0_levelOften)) (w1 := (wm_X9_findLevels cA h0 h0_g h0_p h0_rows h0_rows_e h0_sizes h0_outs h0_losses h0_levelOf h0_levelOften h0_kept h0_changed h0_causes h0_sorts h0_moved h0_to h0_round h0_tail h0_path h0_leastOn h0_period h0_amplitude h0_basin h0_numbered h0_isReached h0_tape h0_told h0_traced s0__isKept s0__done s0__undoable s0__redoable o3 o4 o5 o6 s0__hasCauses o7 o8 o9 o10 s0__rounds s0__stuck s0__onRounds s0__longest s0__loudest s0__reached s0__isAnyOver s0__taped s0__at s0__ran s0_g o11 s0_rows_e s0_sizes o12 o13 o14 o15)) (rv := none) (st1 := []) (va_runV (Ts := wsX9_level) (As := [.int x1]) (rest := []) ⟨hx, hb, hml, hown, hts⟩ (c_X9_findLevels l G cA ts h0 h0_g h0_p h0_rows h0_rows_e h0_sizes h0_outs h0_losses h0_levelOf h0_levelOften h0_kept h0_changed h0_causes h0_sorts h0_moved h0_to h0_round h0_tail h0_path h0_leastOn h0_period h0_amplitude h0_basin h0_numbered h0_isReached h0_tape h0_told h0_traced x1 s0__isKept s0__done s0__undoable s0__redoable s0__all s0__v s0__loss s0__isOver s0__hasCauses s0__outMany s0__overMany s0__isHalted s0__levelMany s0__rounds s0__stuck s0__onRounds s0__longest s0__loudest s0__reached s0__isAnyOver s0__taped s0__at s0__ran s0_g s0_p s0_rows_e s0_sizes s0_outs s0_losses s0_levelOf s0_levelOften o3 o4 o5 o6 o7 o8 o9 o10 o11 o12 o13 o14 o15 hq H.size) (cwV 1 hts gX9_level_X9_findLevels rfl rfl rfl (by decide +kernel) ⟨Nat.le_of_ble_eq_true rfl, Nat.le_of_ble_eq_true rfl⟩) (pre_V (ci := 9) (q0 := 0) (is := [0, 1, 2, 3, 4, 5, 6, 7, 9, 10, 11, 12, 13]) rfl rfl hP hD hS hA hK hZ (by decide +kernel) (by rfl)) rfl rfl hl.1 rfl (by exact lv_room (Nat.le_of_ble_eq_true rfl)) dX9_level_25 ⟨Nat.le_refl _, Nat.le_refl _⟩) hP hD hS hA (by decide +kernel) (by rfl) (by rfl) rfl (fun H locs hP hD hS => ?_)
    obtain ⟨hP, hD⟩ : va_P G vwCl (wm_X9_levels cA h0 h0_g h0_p h0_rows h0_rows_e h0_sorts h0_sizes h0_outs h0_losses h0_levelOf h0_levelOften h0_kept h0_changed h0_causes h0_moved h0_to h0_round h0_tail h0_path h0_leastOn h0_period h0_amplitude h0_basin h0_numbered h0_isReached h0_tape h0_told h0_traced s0__isKept s0__done s0__undoable s0__redoable o3 o4 o5 o6 s0__hasCauses o7 o8 o9 o10 s0__rounds s0__stuck s0__onRounds s0__longest s0__loudest s0__reached s0__isAnyOver s0__taped s0__at s0__ran s0_g o11 s0_rows_e s0_sorts s0_sizes o12 o13 o14 o15) H ∧ va_D A (wm_X9_levels cA h0 h0_g h0_p h0_rows h0_rows_e h0_sorts h0_sizes h0_outs h0_losses h0_levelOf h0_levelOften h0_kept h0_changed h0_causes h0_moved h0_to h0_round h0_tail h0_path h0_leastOn h0_period h0_amplitude h0_basin h0_numbered h0_isReached h0_tape h0_told h0_traced s0__isKept s0__done s0__undoable s0__redoable o3 o4 o5 o6 s0__hasCauses o7 o8 o9 o10 s0__rounds s0__stuck s0__onRounds s0__longest s0__loudest s0__reached s0__isAnyOver s0__taped s0__at s0__ran s0_g o11 s0_rows_e s0_sorts s0_sizes o12 o13 o14 o15) := PD_eq hP hD (rp_eq (js := [8]) 14 (by decide +kernel) rfl rfl (by rfl) (by rfl) (by decide +kernel))
    refine lv_iload_n hx hb dX9_level_28 rfl (lv_at hl 2 rfl) ?_
    refine lv_i2l (v := (x2.toInt64)) hx hb dX9_level_29 rfl ?_
    refine lv_lconst (v := 0) hx hb dX9_level_30 (by decide) ?_
    refine lv_aload_n hx hb dX9_level_31 rfl (lv_at hl 0 rfl) ?_
    refine va_get (ci := 9) (v := .int o10) (C := RX9) (T := TX9) (N := 49) hx hb hts hinX9 hown hK hP 0 rfl rfl 25 (by decide) (hts _ (List.mem_of_getElem? (i := 3) rfl)) (fun _ h9 => h9) rfl dX9_level_32 ?_
    refine lv_iconst (v := 1) hx hb dX9_level_35 (by decide) ?_
    refine lv_isub hx hb dX9_level_36 ?_
    refine lv_i2l (v := ((o10 - (1:Int32)).toInt64)) hx hb dX9_level_37 rfl ?_
    obtain ⟨r16, hq, hok⟩ := g_bnd1 hok
    refine cG (is := []) (wc := (wm_X0_find cA)) (w1 := (wm_X0_find cA)) (rv := (some (.int r16))) (st1 := [.int r16]) (va_runS (Ts := wsX9_level) (As := [.long (x2.toInt64), .long (0:Int64), .long ((o10 - (1:Int32)).toInt64)]) (rest := []) ⟨hx, hb, hml, hown, hts⟩ (c_X9_in l G cA ts (x2.toInt64) (0:Int64) ((o10 - (1:Int32)).toInt64) r16 hq H.size) (va_cwS 3 hts gX9_level_X9_in rfl rfl rfl (by decide +kernel) ⟨Nat.le_of_ble_eq_true rfl, Nat.le_of_ble_eq_true rfl⟩) (pre_S (is := []) hP hD hS hA hK hZ (by decide +kernel) (by rfl)) rfl rfl hl.1 rfl (by exact lv_room (Nat.le_of_ble_eq_true rfl)) dX9_level_38 ⟨Nat.le_refl _, Nat.le_refl _⟩) hP hD hS hA (by decide +kernel) (by rfl) (by rfl) rfl (fun H locs hP hD hS => ?_)
    have hP : va_P G vwCl (wm_X9_levels cA h0 h0_g h0_p h0_rows h0_rows_e h0_sorts h0_sizes h0_outs h0_losses h0_levelOf h0_levelOften h0_kept h0_changed h0_causes h0_moved h0_to h0_round h0_tail h0_path h0_leastOn h0_period h0_amplitude h0_basin h0_numbered h0_isReached h0_tape h0_told h0_traced s0__isKept s0__done s0__undoable s0__redoable o3 o4 o5 o6 s0__hasCauses o7 o8 o9 o10 s0__rounds s0__stuck s0__onRounds s0__longest s0__loudest s0__reached s0__isAnyOver s0__taped s0__at s0__ran s0_g o11 s0_rows_e s0_sorts s0_sizes o12 o13 o14 o15) H := hP
    have hD : va_D A (wm_X9_levels cA h0 h0_g h0_p h0_rows h0_rows_e h0_sorts h0_sizes h0_outs h0_losses h0_levelOf h0_levelOften h0_kept h0_changed h0_causes h0_moved h0_to h0_round h0_tail h0_path h0_leastOn h0_period h0_amplitude h0_basin h0_numbered h0_isReached h0_tape h0_told h0_traced s0__isKept s0__done s0__undoable s0__redoable o3 o4 o5 o6 s0__hasCauses o7 o8 o9 o10 s0__rounds s0__stuck s0__onRounds s0__longest s0__loudest s0__reached s0__isAnyOver s0__taped s0__at s0__ran s0_g o11 s0_rows_e s0_sorts s0_sizes o12 o13 o14 o15) := hD
    refine lv_if_ne (tgt := 47) hx hb dX9_level_41 (by decide) (fun c => ?_) (fun c => ?_)
    · replace hok := g_neg hok c
      refine lv_iload_n hx hb dX9_level_47 rfl (lv_at hl 3 rfl) ?_
      refine lv_iconst (v := 2) hx hb dX9_level_48 (by decide) ?_
      refine lv_icmp_ne (tgt := 61) hx hb dX9_level_49 (by decide) (fun c => ?_) (fun c => ?_)
      · replace hok := g_neg hok c
        refine lv_aload_n hx hb dX9_level_61 rfl (lv_at hl 0 rfl) ?_
        refine va_get (ci := 9) (v := .ref h0_levelOf) (C := RX9) (T := TX9) (N := 49) hx hb hts hinX9 hown hK hP 0 rfl rfl 23 (by decide) (hts _ (List.mem_of_getElem? (i := 5) rfl)) (fun _ h9 => h9) rfl dX9_level_62 ?_
        refine lv_iload_n hx hb dX9_level_65 rfl (lv_at hl 2 rfl) ?_
        obtain ⟨hin, hok⟩ := g_no hok
        refine x_iald (k := x2.toNatClampNeg) hx hb hK hP 12 0 rfl rfl hin rfl dX9_level_66 ?_
        refine lv_i2l (v := ((o14 x2.toNatClampNeg).toInt64)) hx hb dX9_level_67 rfl ?_
        refine lv_lconst (v := 1) hx hb dX9_level_68 (by decide) ?_
        refine lv_aload_n hx hb dX9_level_69 rfl (lv_at hl 0 rfl) ?_
        refine va_get (ci := 9) (v := .ref h0_g) (C := RX9) (T := TX9) (N := 49) hx hb hts hinX9 hown hK hP 0 rfl rfl 0 (by decide) (hts _ (List.mem_of_getElem? (i := 6) rfl)) (fun _ h9 => h9) rfl dX9_level_70 ?_
        refine lv_bipush (v := 6) hx hb dX9_level_73 (by decide) ?_
        refine x_iald (k := 6) hx hb hK hP 1 0 rfl rfl (show ¬ ((6:Int32) < 0 ∨ 13 ≤ (6:Int32).toNatClampNeg) by decide) (by decide) dX9_level_75 ?_
        refine lv_lshl (v := ((1:Int64) <<< ((s0_g 6).toInt64 &&& 63))) hx hb dX9_level_76 rfl ?_
        refine lv_iload_n hx hb dX9_level_77 rfl (lv_at hl 3 rfl) ?_
        obtain ⟨r17, hq, hok⟩ := g_bnd1 hok
        refine cG (is := []) (wc := (wm_X0_find cA)) (w1 := (wm_X0_find cA)) (rv := (some (.long r17))) (st1 := [.long r17]) (va_runS (Ts := wsX9_level) (As := [.long ((o14 x2.toNatClampNeg).toInt64), .long ((1:Int64) <<< ((s0_g 6).toInt64 &&& 63)), .int x3]) (rest := []) ⟨hx, hb, hml, hown, hts⟩ (c_X9_lowest l G cA ts ((o14 x2.toNatClampNeg).toInt64) ((1:Int64) <<< ((s0_g 6).toInt64 &&& 63)) x3 r17 hq H.size) (va_cwS 3 hts gX9_level_X9_lowest rfl rfl rfl (by decide +kernel) ⟨Nat.le_of_ble_eq_true rfl, Nat.le_of_ble_eq_true rfl⟩) (pre_S (is := []) hP hD hS hA hK hZ (by decide +kernel) (by rfl)) rfl rfl hl.1 rfl (by exact lv_room (Nat.le_of_ble_eq_true rfl)) dX9_level_78 ⟨Nat.le_refl _, Nat.le_refl _⟩) hP hD hS hA (by decide +kernel) (by rfl) (by rfl) rfl (fun H locs hP hD hS => ?_)
        have hP : va_P G vwCl (wm_X9_levels cA h0 h0_g h0_p h0_rows h0_rows_e h0_sorts h0_sizes h0_outs h0_losses h0_levelOf h0_levelOften h0_kept h0_changed h0_causes h0_moved h0_to h0_round h0_tail h0_path h0_leastOn h0_period h0_amplitude h0_basin h0_numbered h0_isReached h0_tape h0_told h0_traced s0__isKept s0__done s0__undoable s0__redoable o3 o4 o5 o6 s0__hasCauses o7 o8 o9 o10 s0__rounds s0__stuck s0__onRounds s0__longest s0__loudest s0__reached s0__isAnyOver s0__taped s0__at s0__ran s0_g o11 s0_rows_e s0_sorts s0_sizes o12 o13 o14 o15) H := hP
        have hD : va_D A (wm_X9_levels cA h0 h0_g h0_p h0_rows h0_rows_e h0_sorts h0_sizes h0_outs h0_losses h0_levelOf h0_levelOften h0_kept h0_changed h0_causes h0_moved h0_to h0_round h0_tail h0_path h0_leastOn h0_period h0_amplitude h0_basin h0_numbered h0_isReached h0_tape h0_told h0_traced s0__isKept s0__done s0__undoable s0__redoable o3 o4 o5 o6 s0__hasCauses o7 o8 o9 o10 s0__rounds s0__stuck s0__onRounds s0__longest s0__loudest s0__reached s0__isAnyOver s0__taped s0__at s0__ran s0_g o11 s0_rows_e s0_sorts s0_sizes o12 o13 o14 o15) := hD
        refine lv_l2i (v := (r17.toInt32)) hx hb dX9_level_81 rfl ?_
        obtain ⟨e, hok⟩ := g_pr hok
        try subst e
        obtain ⟨e, hok⟩ := g_pr hok
        try subst e
        obtain ⟨e, hok⟩ := g_pr hok
        try subst e
        obtain ⟨e, hok⟩ := g_pr hok
        try subst e
        obtain ⟨e, hok⟩ := g_pr hok
        try subst e
        obtain ⟨e, hok⟩ := g_pr hok
        try subst e
        obtain ⟨e, hok⟩ := g_pr hok
        try subst e
        obtain ⟨e, hok⟩ := g_pr hok
        try subst e
        obtain ⟨e, hok⟩ := g_pr hok
        try subst e
        obtain ⟨e, hok⟩ := g_pr hok
        try subst e
        obtain ⟨e, hok⟩ := g_pr hok
        try subst e
        obtain ⟨e, hok⟩ := g_pr hok
        try subst e
        obtain ⟨e, hok⟩ := g_pr hok
        try subst e
        cases hok
        exact cr_i hx hb hr hlocks hQ dX9_level_82 hP hS
      replace hok := g_pos hok c
      refine lv_aload_n hx hb dX9_level_52 rfl (lv_at hl 0 rfl) ?_
      refine va_get (ci := 9) (v := .ref h0_levelOften) (C := RX9) (T := TX9) (N := 49) hx hb hts hinX9 hown hK hP 0 rfl rfl 24 (by decide) (hts _ (List.mem_of_getElem? (i := 4) rfl)) (fun _ h9 => h9) rfl dX9_level_53 ?_
      refine lv_iload_n hx hb dX9_level_56 rfl (lv_at hl 2 rfl) ?_
      obtain ⟨hin, hok⟩ := g_no hok
      refine x_iald (k := x2.toNatClampNeg) hx hb hK hP 13 0 rfl rfl hin rfl dX9_level_57 ?_
      refine lv_goto (tgt := 82) hx hb dX9_level_58 (by decide) ?_
      obtain ⟨e, hok⟩ := g_pr hok
      try subst e
      obtain ⟨e, hok⟩ := g_pr hok
      try subst e
      obtain ⟨e, hok⟩ := g_pr hok
      try subst e
      obtain ⟨e, hok⟩ := g_pr hok
      try subst e
      obtain ⟨e, hok⟩ := g_pr hok
      try subst e
      obtain ⟨e, hok⟩ := g_pr hok
      try subst e
      obtain ⟨e, hok⟩ := g_pr hok
      try subst e
      obtain ⟨e, hok⟩ := g_pr hok
      try subst e
      obtain ⟨e, hok⟩ := g_pr hok
      try subst e
      obtain ⟨e, hok⟩ := g_pr hok
      try subst e
      obtain ⟨e, hok⟩ := g_pr hok
      try subst e
      obtain ⟨e, hok⟩ := g_pr hok
      try subst e
      obtain ⟨e, hok⟩ := g_pr hok
      try subst e
      cases hok
      exact cr_i hx hb hr hlocks hQ dX9_level_82 hP hS
    replace hok := g_pos hok c
    refine lv_ldc (v := -1000000) hx hb hown (hts _ (List.mem_of_getElem? (i := 2) rfl)) dX9_level_44 ?_
    obtain ⟨e, hok⟩ := g_pr hok
    try subst e
    obtain ⟨e, hok⟩ := g_pr hok
    try subst e
    obtain ⟨e, hok⟩ := g_pr hok
    try subst e
    obtain ⟨e, hok⟩ := g_pr hok
    try subst e
    obtain ⟨e, hok⟩ := g_pr hok
    try subst e
    obtain ⟨e, hok⟩ := g_pr hok
    try subst e
    obtain ⟨e, hok⟩ := g_pr hok
    try subst e
    obtain ⟨e, hok⟩ := g_pr hok
    try subst e
    obtain ⟨e, hok⟩ := g_pr hok
    try subst e
    obtain ⟨e, hok⟩ := g_pr hok
    try subst e
    obtain ⟨e, hok⟩ := g_pr hok
    try subst e
    obtain ⟨e, hok⟩ := g_pr hok
    try subst e
    obtain ⟨e, hok⟩ := g_pr hok
    try subst e
    cases hok
    exact cr_i hx hb hr hlocks hQ dX9_level_46 hP hS
  replace hok := g_pos hok c
  refine lv_ldc (v := -1000000) hx hb hown (hts _ (List.mem_of_getElem? (i := 2) rfl)) dX9_level_20 ?_
  obtain ⟨e, hok⟩ := g_pr hok
  try subst e
  obtain ⟨e, hok⟩ := g_pr hok
  try subst e
  obtain ⟨e, hok⟩ := g_pr hok
  try subst e
  obtain ⟨e, hok⟩ := g_pr hok
  try subst e
  obtain ⟨e, hok⟩ := g_pr hok
  try subst e
  obtain ⟨e, hok⟩ := g_pr hok
  try subst e
  obtain ⟨e, hok⟩ := g_pr hok
  try subst e
  obtain ⟨e, hok⟩ := g_pr hok
  try subst e
  obtain ⟨e, hok⟩ := g_pr hok
  try subst e
  obtain ⟨e, hok⟩ := g_pr hok
  try subst e
  obtain ⟨e, hok⟩ := g_pr hok
  try subst e
  obtain ⟨e, hok⟩ := g_pr hok
  try subst e
  obtain ⟨e, hok⟩ := g_pr hok
  try subst e
  cases hok
  exact cr_i hx hb hr hlocks hQ dX9_level_22 hP hS
set_option maxHeartbeats 40000000 in
set_option maxRecDepth 100000 in
theorem c_X9_measure (l : Launch) (G : va_G) (cA : Nat → ClassId) (ts : Nat → Nat) (h0 : Nat) (h0_g : Nat) (h0_p : Nat) (h0_causes : Nat) (h0_rows : Nat) (h0_rows_e : Nat → Nat) (h0_sorts : Nat) (h0_sizes : Nat) (h0_outs : Nat) (h0_losses : Nat) (h0_kept : Nat) (h0_changed : Nat) (h0_moved : Nat) (h0_levelOf : Nat) (h0_levelOften : Nat) (h0_to : Nat) (h0_round : Nat) (h0_tail : Nat) (h0_path : Nat) (h0_leastOn : Nat) (h0_period : Nat) (h0_amplitude : Nat) (h0_basin : Nat) (h0_numbered : Nat) (h0_isReached : Nat) (h0_tape : Nat) (h0_told : Nat) (h0_traced : Nat) (x1 : Int32) (x2 : Int32) (s0__isKept : Int32) (s0__done : Int32) (s0__undoable : Int32) (s0__redoable : Int32) (s0__all : Int32) (s0__v : Int32) (s0__loss : Int32) (s0__isOver : Int32) (s0__hasCauses : Int32) (s0__outMany : Int32) (s0__overMany : Int32) (s0__isHalted : Int32) (s0__levelMany : Int32) (s0__rounds : Int32) (s0__stuck : Int32) (s0__onRounds : Int32) (s0__longest : Int32) (s0__loudest : Int32) (s0__reached : Int32) (s0__isAnyOver : Int32) (s0__taped : Int32) (s0__at : Int32) (s0__ran : Int32) (s0_g : Nat → Int32) (s0_p : Nat → Int32) (s0_causes : Nat → Int32) (s0_rows_e : Nat → Nat → Int64) (s0_sorts : Nat → Int32) (s0_sizes : Nat → Int32) (s0_outs : Nat → Int32) (s0_losses : Nat → Int32) (r : Int64) (o0__all : Int32) (o0__v : Int32) (o0__loss : Int32) (o0__isOver : Int32) (o0__hasCauses : Int32) (o0__outMany : Int32) (o0__overMany : Int32) (o0__isHalted : Int32) (o0_p : Nat → Int32) (o0_causes : Nat → Int32) (o0_outs : Nat → Int32) (o0_losses : Nat → Int32) (hok : fX9_measure x1 x2 s0__all s0__v s0__loss s0__isOver s0__hasCauses s0__outMany s0__overMany s0__isHalted s0_g s0_p s0_causes s0_rows_e s0_sorts s0_sizes s0_outs s0_losses = some (r, o0__all, o0__v, o0__loss, o0__isOver, o0__hasCauses, o0__outMany, o0__overMany, o0__isHalted, o0_p, o0_causes, o0_outs, o0_losses)) : Ct l G cA ts yX9_measure wsX9_measure 5 134 [.ref h0, .int x1, .int x2] (wm_X9_go cA h0 h0_g h0_p h0_causes h0_rows h0_rows_e h0_sorts h0_sizes h0_outs h0_losses h0_kept h0_changed h0_moved h0_levelOf h0_levelOften h0_to h0_round h0_tail h0_path h0_leastOn h0_period h0_amplitude h0_basin h0_numbered h0_isReached h0_tape h0_told h0_traced s0__isKept s0__done s0__undoable s0__redoable s0__all s0__v s0__loss s0__isOver s0__hasCauses s0__outMany s0__overMany s0__isHalted s0__levelMany s0__rounds s0__stuck s0__onRounds s0__longest s0__loudest s0__reached s0__isAnyOver s0__taped s0__at s0__ran s0_g s0_p s0_causes s0_rows_e s0_sorts s0_sizes s0_outs s0_losses) (wm_X9_go cA h0 h0_g h0_p h0_causes h0_rows h0_rows_e h0_sorts h0_sizes h0_outs h0_losses h0_kept h0_changed h0_moved h0_levelOf h0_levelOften h0_to h0_round h0_tail h0_path h0_leastOn h0_period h0_amplitude h0_basin h0_numbered h0_isReached h0_tape h0_told h0_traced s0__isKept s0__done s0__undoable s0__redoable o0__all o0__v o0__loss o0__isOver o0__hasCauses o0__outMany o0__overMany o0__isHalted s0__levelMany s0__rounds s0__stuck s0__onRounds s0__longest s0__loudest s0__reached s0__isAnyOver s0__taped s0__at s0__ran s0_g o0_p o0_causes s0_rows_e s0_sorts s0_sizes o0_outs o0_losses) (some (.long r)) := by
  refine Ct.intro (cc := cX9_measure) (maxL := 8) (ret := some .long) (by decide +kernel) rfl (Nat.le_of_ble_eq_true rfl) ?_
  intro p e s m ar below meth c A Q hx hb hr hml hown hlocks hts hK hZ hA hQ hP hD hS ls hl
  have hown : s.vm.findClass RX9 = some m.cls := hown
  have hinX9 : ∀ w ∈ wsX90, w ∈ wsX9_measure := fun _ h => List.mem_cons_of_mem _ (List.mem_append_right _ (h))
  have hl : lv_has ls 8 [(0, .ref h0), (1, .int x1), (2, .int x2)] := hl
  have hP : va_P G vwCl (wm_X9_go cA h0 h0_g h0_p h0_causes h0_rows h0_rows_e h0_sorts h0_sizes h0_outs h0_losses h0_kept h0_changed h0_moved h0_levelOf h0_levelOften h0_to h0_round h0_tail h0_path h0_leastOn h0_period h0_amplitude h0_basin h0_numbered h0_isReached h0_tape h0_told h0_traced s0__isKept s0__done s0__undoable s0__redoable s0__all s0__v s0__loss s0__isOver s0__hasCauses s0__outMany s0__overMany s0__isHalted s0__levelMany s0__rounds s0__stuck s0__onRounds s0__longest s0__loudest s0__reached s0__isAnyOver s0__taped s0__at s0__ran s0_g s0_p s0_causes s0_rows_e s0_sorts s0_sizes s0_outs s0_losses) s.heap := hP
  have hD : va_D A (wm_X9_go cA h0 h0_g h0_p h0_causes h0_rows h0_rows_e h0_sorts h0_sizes h0_outs h0_losses h0_kept h0_changed h0_moved h0_levelOf h0_levelOften h0_to h0_round h0_tail h0_path h0_leastOn h0_period h0_amplitude h0_basin h0_numbered h0_isReached h0_tape h0_told h0_traced s0__isKept s0__done s0__undoable s0__redoable s0__all s0__v s0__loss s0__isOver s0__hasCauses s0__outMany s0__overMany s0__isHalted s0__levelMany s0__rounds s0__stuck s0__onRounds s0__longest s0__loudest s0__reached s0__isAnyOver s0__taped s0__at s0__ran s0_g s0_p s0_causes s0_rows_e s0_sorts s0_sizes s0_outs s0_losses) := hD
  have L_34 : ∀ (n : Nat) (y3 : Int64) (y5 : Int32) (c0__all : Int32) (c0__v : Int32) (c0__loss : Int32) (c0__isOver : Int32) (c0__hasCauses : Int32) (c0__outMany : Int32) (c0__overMany : Int32) (c0__isHalted : Int32) (c0_p : Nat → Int32) (c0_causes : Nat → Int32) (c0_outs : Nat → Int32) (c0_losses : Nat → Int32) (oE : ((Int32)) ⊕ ((Int32) × (Int64)) ⊕ ((Int64))) (H : Heap) (locs : List Loc) (ls : Array Slot), va_P G vwCl (wm_X9_go cA h0 h0_g h0_p h0_causes h0_rows h0_rows_e h0_sorts h0_sizes h0_outs h0_losses h0_kept h0_changed h0_moved h0_levelOf h0_levelOften h0_to h0_round h0_tail h0_path h0_leastOn h0_period h0_amplitude h0_basin h0_numbered h0_isReached h0_tape h0_told h0_traced s0__isKept s0__done s0__undoable s0__redoable c0__all c0__v c0__loss c0__isOver c0__hasCauses c0__outMany c0__overMany c0__isHalted s0__levelMany s0__rounds s0__stuck s0__onRounds s0__longest s0__loudest s0__reached s0__isAnyOver s0__taped s0__at s0__ran s0_g c0_p c0_causes s0_rows_e s0_sorts s0_sizes c0_outs c0_losses) H → va_D A (wm_X9_go cA h0 h0_g h0_p h0_causes h0_rows h0_rows_e h0_sorts h0_sizes h0_outs h0_losses h0_kept h0_changed h0_moved h0_levelOf h0_levelOften h0_to h0_round h0_tail h0_path h0_leastOn h0_period h0_amplitude h0_basin h0_numbered h0_isReached h0_tape h0_told h0_traced s0__isKept s0__done s0__undoable s0__redoable c0__all c0__v c0__loss c0__isOver c0__hasCauses c0__outMany c0__overMany c0__isHalted s0__levelMany s0__rounds s0__stuck s0__onRounds s0__longest s0__loudest s0__reached s0__isAnyOver s0__taped s0__at s0__ran s0_g c0_p c0_causes s0_rows_e s0_sorts s0_sizes c0_outs c0_losses) → va_S A s.heap H locs → lv_has ls 8 [(0, .ref h0), (2, .int x2), (3, .long y3), (5, .int y5)] → fX9_measure_L34 x1 x2 s0_g s0_rows_e s0_sorts s0_sizes n y3 y5 c0__all c0__v c0__loss c0__isOver c0__hasCauses c0__outMany c0__overMany c0__isHalted c0_p c0_causes c0_outs c0_losses = some oE → (∀ (p0_0 : Int32), oE = .inl p0_0 → ∀ (H : Heap) (locs : List Loc) (ls : Array Slot), va_P G vwCl (wm_X9_go cA h0 h0_g h0_p h0_causes h0_rows h0_rows_e h0_sorts h0_sizes h0_outs h0_losses h0_kept h0_changed h0_moved h0_levelOf h0_levelOften h0_to h0_round h0_tail h0_path h0_leastOn h0_period h0_amplitude h0_basin h0_numbered h0_isReached h0_tape h0_told h0_traced s0__isKept s0__done s0__undoable s0__redoable c0__all c0__v c0__loss c0__isOver c0__hasCauses c0__outMany c0__overMany c0__isHalted s0__levelMany s0__rounds s0__stuck s0__onRounds s0__longest s0__loudest s0__reached s0__isAnyOver s0__taped s0__at s0__ran s0_g c0_p c0_causes s0_rows_e s0_sorts s0_sizes c0_outs c0_losses) H → va_D A (wm_X9_go cA h0 h0_g h0_p h0_causes h0_rows h0_rows_e h0_sorts h0_sizes h0_outs h0_losses h0_kept h0_changed h0_moved h0_levelOf h0_levelOften h0_to h0_round h0_tail h0_path h0_leastOn h0_period h0_amplitude h0_basin h0_numbered h0_isReached h0_tape h0_told h0_traced s0__isKept s0__done s0__undoable s0__redoable c0__all c0__v c0__loss c0__isOver c0__hasCauses c0__outMany c0__overMany c0__isHalted s0__levelMany s0__rounds s0__stuck s0__onRounds s0__longest s0__loudest s0__reached s0__isAnyOver s0__taped s0__at s0__ran s0_g c0_p c0_causes s0_rows_e s0_sorts s0_sizes c0_outs c0_losses) → va_S A s.heap H locs → lv_has ls 8 [(0, .ref h0), (5, .int p0_0)] → W p l e (rmX 5 134) s m ar below meth c H locs 0 0 Q (F0 m 74 ls [])) → (∀ (p1_0 : Int32) (p1_1 : Int64), oE = .inr (.inl (p1_0, p1_1)) → ∀ (H : Heap) (locs : List Loc) (ls : Array Slot), va_P G vwCl (wm_X9_go cA h0 h0_g h0_p h0_causes h0_rows h0_rows_e h0_sorts h0_sizes h0_outs h0_losses h0_kept h0_changed h0_moved h0_levelOf h0_levelOften h0_to h0_round h0_tail h0_path h0_leastOn h0_period h0_amplitude h0_basin h0_numbered h0_isReached h0_tape h0_told h0_traced s0__isKept s0__done s0__undoable s0__redoable c0__all c0__v c0__loss c0__isOver c0__hasCauses c0__outMany c0__overMany c0__isHalted s0__levelMany s0__rounds s0__stuck s0__onRounds s0__longest s0__loudest s0__reached s0__isAnyOver s0__taped s0__at s0__ran s0_g c0_p c0_causes s0_rows_e s0_sorts s0_sizes c0_outs c0_losses) H → va_D A (wm_X9_go cA h0 h0_g h0_p h0_causes h0_rows h0_rows_e h0_sorts h0_sizes h0_outs h0_losses h0_kept h0_changed h0_moved h0_levelOf h0_levelOften h0_to h0_round h0_tail h0_path h0_leastOn h0_period h0_amplitude h0_basin h0_numbered h0_isReached h0_tape h0_told h0_traced s0__isKept s0__done s0__undoable s0__redoable c0__all c0__v c0__loss c0__isOver c0__hasCauses c0__outMany c0__overMany c0__isHalted s0__levelMany s0__rounds s0__stuck s0__onRounds s0__longest s0__loudest s0__reached s0__isAnyOver s0__taped s0__at s0__ran s0_g c0_p c0_causes s0_rows_e s0_sorts s0_sizes c0_outs c0_losses) → va_S A s.heap H locs → lv_has ls 8 [(0, .ref h0), (5, .int p1_0), (6, .long p1_1)] → W p l e (rmX 5 134) s m ar below meth c H locs 0 0 Q (F0 m 105 ls [])) → (∀ (p2_0 : Int64), oE = .inr (.inr (p2_0)) → ∀ (H : Heap) (locs : List Loc) (ls : Array Slot), va_P G vwCl (wm_X9_go cA h0 h0_g h0_p h0_causes h0_rows h0_rows_e h0_sorts h0_sizes h0_outs h0_losses h0_kept h0_changed h0_moved h0_levelOf h0_levelOften h0_to h0_round h0_tail h0_path h0_leastOn h0_period h0_amplitude h0_basin h0_numbered h0_isReached h0_tape h0_told h0_traced s0__isKept s0__done s0__undoable s0__redoable c0__all c0__v c0__loss c0__isOver c0__hasCauses c0__outMany c0__overMany c0__isHalted s0__levelMany s0__rounds s0__stuck s0__onRounds s0__longest s0__loudest s0__reached s0__isAnyOver s0__taped s0__at s0__ran s0_g c0_p c0_causes s0_rows_e s0_sorts s0_sizes c0_outs c0_losses) H → va_D A (wm_X9_go cA h0 h0_g h0_p h0_causes h0_rows h0_rows_e h0_sorts h0_sizes h0_outs h0_losses h0_kept h0_changed h0_moved h0_levelOf h0_levelOften h0_to h0_round h0_tail h0_path h0_leastOn h0_period h0_amplitude h0_basin h0_numbered h0_isReached h0_tape h0_told h0_traced s0__isKept s0__done s0__undoable s0__redoable c0__all c0__v c0__loss c0__isOver c0__hasCauses c0__outMany c0__overMany c0__isHalted s0__levelMany s0__rounds s0__stuck s0__onRounds s0__longest s0__loudest s0__reached s0__isAnyOver s0__taped s0__at s0__ran s0_g c0_p c0_causes s0_rows_e s0_sorts s0_sizes c0_outs c0_losses) → va_S A s.heap H locs → lv_has ls 8 [(0, .ref h0), (3, .long p2_0)] → W p l e (rmX 5 134) s m ar below meth c H locs 0 0 Q (F0 m 125 ls [])) → W p l e (rmX 5 134) s m ar below meth c H locs 0 0 Q (F0 m 34 ls []) := by
    intro n
    induction n with
    | zero =>
      intro y3 y5 c0__all c0__v c0__loss c0__isOver c0__hasCauses c0__outMany c0__overMany c0__isHalted c0_p c0_causes c0_outs c0_losses oE H locs ls hP hD hS hl hok
      rw [fX9_measure_L34] at hok
      cases hok
    | succ n ih =>
      intro y3 y5 c0__all c0__v c0__loss c0__isOver c0__hasCauses c0__outMany c0__overMany c0__isHalted c0_p c0_causes c0_outs c0_losses oE H locs ls hP hD hS hl hok  K0 K1 K2
      rw [fX9_measure_L34] at hok
      refine lv_iload hx hb dX9_measure_34 (lv_at hl 3 rfl) ?_
      refine lv_aload_n hx hb dX9_measure_36 rfl (lv_at hl 0 rfl) ?_
      refine va_get (ci := 9) (v := .int c0__outMany) (C := RX9) (T := TX9) (N := 49) hx hb hts hinX9 hown hK hP 0 rfl rfl 20 (by decide) (hts _ (List.mem_of_getElem? (i := 3) rfl)) (fun _ h9 => h9) rfl dX9_measure_37 ?_
      refine lv_icmp_ge (tgt := 125) hx hb dX9_measure_40 (by decide) (fun c => ?_) (fun c => ?_)
      · replace hok := g_pos hok c
        cases hok
        exact K2 _ rfl _ _ _ hP hD hS (lv_sub hl [0, 2] rfl)
      replace hok := g_neg hok c
      refine lv_aload_n hx hb dX9_measure_43 rfl (lv_at hl 0 rfl) ?_
      refine va_get (ci := 9) (v := .ref h0_outs) (C := RX9) (T := TX9) (N := 49) hx hb hts hinX9 hown hK hP 0 rfl rfl 18 (by decide) (hts _ (List.mem_of_getElem? (i := 4) rfl)) (fun _ h9 => h9) rfl dX9_measure_44 ?_
      refine lv_iload hx hb dX9_measure_47 (lv_at hl 3 rfl) ?_
      obtain ⟨hin, hok⟩ := g_no hok
      refine x_iald (k := y5.toNatClampNeg) hx hb hK hP 11 0 rfl rfl hin rfl dX9_measure_49 ?_
      refine lv_i2l (v := ((c0_outs y5.toNatClampNeg).toInt64)) hx hb dX9_measure_50 rfl ?_
      refine lv_aload_n hx hb dX9_measure_51 rfl (lv_at hl 0 rfl) ?_
      refine va_get (ci := 9) (v := .ref h0_outs) (C := RX9) (T := TX9) (N := 49) hx hb hts hinX9 hown hK hP 0 rfl rfl 18 (by decide) (hts _ (List.mem_of_getElem? (i := 4) rfl)) (fun _ h9 => h9) rfl dX9_measure_52 ?_
      refine lv_iload hx hb dX9_measure_55 (lv_at hl 3 rfl) ?_
      obtain ⟨hin, hok⟩ := g_no hok
      refine x_iald (k := y5.toNatClampNeg) hx hb hK hP 11 0 rfl rfl hin rfl dX9_measure_57 ?_
      refine lv_i2l (v := ((c0_outs y5.toNatClampNeg).toInt64)) hx hb dX9_measure_58 rfl ?_
      refine lv_lmul hx hb dX9_measure_59 ?_
      refine lv_iload_n hx hb dX9_measure_60 rfl (lv_at hl 1 rfl) ?_
      refine lv_i2l (v := (x2.toInt64)) hx hb dX9_measure_61 rfl ?_
      refine lv_lmul hx hb dX9_measure_62 ?_
      refine lv_lstore (lv' := [(6, .long ((((c0_outs y5.toNatClampNeg).toInt64) * ((c0_outs y5.toNatClampNeg).toInt64)) * (x2.toInt64))), (0, .ref h0), (2, .int x2), (3, .long y3), (5, .int y5)]) hx hb dX9_measure_63 hl (by decide) rfl (fun ls hl => ?_)
      refine lv_lload hx hb dX9_measure_65 (lv_at hl 0 rfl) ?_
      refine lv_ldc2 (v := 2147483647) hx hb hown (hts _ (List.mem_of_getElem? (i := 5) rfl)) dX9_measure_67 ?_
      refine W.lcmp hx hb dX9_measure_70 ?_
      refine lv_if_le (tgt := 92) hx hb dX9_measure_71 (by decide) (fun c => ?_) (fun c => ?_)
      · replace hok := g_pos hok c
        refine lv_lload_n hx hb dX9_measure_92 rfl (lv_at hl 3 rfl) ?_
        refine lv_lload hx hb dX9_measure_93 (lv_at hl 0 rfl) ?_
        refine lv_ladd hx hb dX9_measure_95 ?_
        refine lv_lstore_n (lv' := [(3, .long (y3 + ((((c0_outs y5.toNatClampNeg).toInt64) * ((c0_outs y5.toNatClampNeg).toInt64)) * (x2.toInt64)))), (6, .long ((((c0_outs y5.toNatClampNeg).toInt64) * ((c0_outs y5.toNatClampNeg).toInt64)) * (x2.toInt64))), (0, .ref h0), (2, .int x2), (5, .int y5)]) hx hb dX9_measure_96 rfl hl (by decide) rfl (fun ls hl => ?_)
        refine lv_lload_n hx hb dX9_measure_97 rfl (lv_at hl 0 rfl) ?_
        refine lv_ldc2 (v := 2147483647) hx hb hown (hts _ (List.mem_of_getElem? (i := 5) rfl)) dX9_measure_98 ?_
        refine W.lcmp hx hb dX9_measure_101 ?_
        refine lv_if_le (tgt := 119) hx hb dX9_measure_102 (by decide) (fun c => ?_) (fun c => ?_)
        · replace hok := g_pos hok c
          refine lv_iinc (v := (y5 + 1)) (lv' := [(5, .int (y5 + 1)), (3, .long (y3 + ((((c0_outs y5.toNatClampNeg).toInt64) * ((c0_outs y5.toNatClampNeg).toInt64)) * (x2.toInt64)))), (6, .long ((((c0_outs y5.toNatClampNeg).toInt64) * ((c0_outs y5.toNatClampNeg).toInt64)) * (x2.toInt64))), (0, .ref h0), (2, .int x2)]) hx hb dX9_measure_119 hl (k := 4) rfl rfl (by decide) rfl (fun ls hl => ?_)
          refine lv_goto (tgt := 34) hx hb dX9_measure_122 (by decide) ?_
          exact ih (y3 + ((((c0_outs y5.toNatClampNeg).toInt64) * ((c0_outs y5.toNatClampNeg).toInt64)) * (x2.toInt64))) (y5 + 1) c0__all c0__v c0__loss c0__isOver c0__hasCauses c0__outMany c0__overMany c0__isHalted c0_p c0_causes c0_outs c0_losses oE _ _ _ hP hD hS (lv_sub hl [3, 4, 1, 0] rfl) hok K0 K1 K2
        replace hok := g_neg hok c
        cases hok
        exact K1 _ _ rfl _ _ _ hP hD hS (lv_sub hl [2, 4, 1] rfl)
      replace hok := g_neg hok c
      cases hok
      exact K0 _ rfl _ _ _ hP hD hS (lv_sub hl [1, 4] rfl)
  unfold fX9_measure at hok
  refine lv_aload_n hx hb dX9_measure_0 rfl (lv_at hl 0 rfl) ?_
  refine lv_iload_n hx hb dX9_measure_1 rfl (lv_at hl 1 rfl) ?_
  obtain ⟨r1, hq, hok⟩ := g_bnd1 hok
  refine cG (is := [0, 9]) (wc := (wm_X9_isThere cA h0 h0_sorts h0_g h0_kept h0_changed h0_p h0_causes h0_rows h0_sizes h0_moved h0_outs h0_losses h0_levelOf h0_levelOften h0_to h0_round h0_tail h0_path h0_leastOn h0_period h0_amplitude h0_basin h0_numbered h0_isReached h0_tape h0_told h0_traced s0__isKept s0__done s0__undoable s0__redoable s0__all s0__v s0__loss s0__isOver s0__hasCauses s0__outMany s0__overMany s0__isHalted s0__levelMany s0__rounds s0__stuck s0__onRounds s0__longest s0__loudest s0__reached s0__isAnyOver s0__taped s0__at s0__ran s0_sorts)) (w1 := (wm_X9_isThere cA h0 h0_sorts h0_g h0_kept h0_changed h0_p h0_causes h0_rows h0_sizes h0_moved h0_outs h0_losses h0_levelOf h0_levelOften h0_to h0_round h0_tail h0_path h0_leastOn h0_period h0_amplitude h0_basin h0_numbered h0_isReached h0_tape h0_told h0_traced s0__isKept s0__done s0__undoable s0__redoable s0__all s0__v s0__loss s0__isOver s0__hasCauses s0__outMany s0__overMany s0__isHalted s0__levelMany s0__rounds s0__stuck s0__onRounds s0__longest s0__loudest s0__reached s0__isAnyOver s0__taped s0__at s0__ran s0_sorts)) (rv := (some (.int r1))) (st1 := [.int r1]) (va_runV (Ts := wsX9_measure) (As := [.int x1]) (rest := []) ⟨hx, hb, hml, hown, hts⟩ (c_X9_isThere l G cA ts h0 h0_sorts h0_g h0_kept h0_changed h0_p h0_causes h0_rows h0_sizes h0_moved h0_outs h0_losses h0_levelOf h0_levelOften h0_to h0_round h0_tail h0_path h0_leastOn h0_period h0_amplitude h0_basin h0_numbered h0_isReached h0_tape h0_told h0_traced x1 s0__isKept s0__done s0__undoable s0__redoable s0__all s0__v s0__loss s0__isOver s0__hasCauses s0__outMany s0__overMany s0__isHalted s0__levelMany s0__rounds s0__stuck s0__onRounds s0__longest s0__loudest s0__reached s0__isAnyOver s0__taped s0__at s0__ran s0_sorts r1 hq s.heap.size) (cwV 1 hts gX9_measure_X9_isThere rfl rfl rfl (by decide +kernel) ⟨Nat.le_of_ble_eq_true rfl, Nat.le_of_ble_eq_true rfl⟩) (pre_V (ci := 9) (q0 := 0) (is := [0, 9]) rfl rfl hP hD hS hA hK hZ (by decide +kernel) (by rfl)) rfl rfl hl.1 rfl (by exact lv_room (Nat.le_of_ble_eq_true rfl)) dX9_measure_2 ⟨Nat.le_refl _, Nat.le_refl _⟩) hP hD hS hA (by decide +kernel) (by rfl) (by rfl) rfl (fun H locs hP hD hS => ?_)
  have hP : va_P G vwCl (wm_X9_go cA h0 h0_g h0_p h0_causes h0_rows h0_rows_e h0_sorts h0_sizes h0_outs h0_losses h0_kept h0_changed h0_moved h0_levelOf h0_levelOften h0_to h0_round h0_tail h0_path h0_leastOn h0_period h0_amplitude h0_basin h0_numbered h0_isReached h0_tape h0_told h0_traced s0__isKept s0__done s0__undoable s0__redoable s0__all s0__v s0__loss s0__isOver s0__hasCauses s0__outMany s0__overMany s0__isHalted s0__levelMany s0__rounds s0__stuck s0__onRounds s0__longest s0__loudest s0__reached s0__isAnyOver s0__taped s0__at s0__ran s0_g s0_p s0_causes s0_rows_e s0_sorts s0_sizes s0_outs s0_losses) H := hP
  have hD : va_D A (wm_X9_go cA h0 h0_g h0_p h0_causes h0_rows h0_rows_e h0_sorts h0_sizes h0_outs h0_losses h0_kept h0_changed h0_moved h0_levelOf h0_levelOften h0_to h0_round h0_tail h0_path h0_leastOn h0_period h0_amplitude h0_basin h0_numbered h0_isReached h0_tape h0_told h0_traced s0__isKept s0__done s0__undoable s0__redoable s0__all s0__v s0__loss s0__isOver s0__hasCauses s0__outMany s0__overMany s0__isHalted s0__levelMany s0__rounds s0__stuck s0__onRounds s0__longest s0__loudest s0__reached s0__isAnyOver s0__taped s0__at s0__ran s0_g s0_p s0_causes s0_rows_e s0_sorts s0_sizes s0_outs s0_losses) := hD
  refine lv_if_eq (tgt := 20) hx hb dX9_measure_5 (by decide) (fun c => ?_) (fun c => ?_)
  · replace hok := g_pos hok c
    refine lv_ldc2 (v := -9223372036854775808) hx hb hown (hts _ (List.mem_of_getElem? (i := 2) rfl)) dX9_measure_20 ?_
    obtain ⟨e, hok⟩ := g_pr hok
    try subst e
    obtain ⟨e, hok⟩ := g_pr hok
    try subst e
    obtain ⟨e, hok⟩ := g_pr hok
    try subst e
    obtain ⟨e, hok⟩ := g_pr hok
    try subst e
    obtain ⟨e, hok⟩ := g_pr hok
    try subst e
    obtain ⟨e, hok⟩ := g_pr hok
    try subst e
    obtain ⟨e, hok⟩ := g_pr hok
    try subst e
    obtain ⟨e, hok⟩ := g_pr hok
    try subst e
    obtain ⟨e, hok⟩ := g_pr hok
    try subst e
    obtain ⟨e, hok⟩ := g_pr hok
    try subst e
    obtain ⟨e, hok⟩ := g_pr hok
    try subst e
    obtain ⟨e, hok⟩ := g_pr hok
    try subst e
    cases hok
    exact cr_l hx hb hr hlocks hQ dX9_measure_23 hP hS
  replace hok := g_neg hok c
  refine lv_iload_n hx hb dX9_measure_8 rfl (lv_at hl 2 rfl) ?_
  refine lv_i2l (v := (x2.toInt64)) hx hb dX9_measure_9 rfl ?_
  refine lv_lconst (v := 1) hx hb dX9_measure_10 (by decide) ?_
  refine lv_ldc2 (v := 2000000000) hx hb hown (hts _ (List.mem_of_getElem? (i := 1) rfl)) dX9_measure_11 ?_
  obtain ⟨r2, hq, hok⟩ := g_bnd1 hok
  refine cG (is := []) (wc := (wm_X0_find cA)) (w1 := (wm_X0_find cA)) (rv := (some (.int r2))) (st1 := [.int r2]) (va_runS (Ts := wsX9_measure) (As := [.long (x2.toInt64), .long (1:Int64), .long (2000000000:Int64)]) (rest := []) ⟨hx, hb, hml, hown, hts⟩ (c_X9_in l G cA ts (x2.toInt64) (1:Int64) (2000000000:Int64) r2 hq H.size) (va_cwS 3 hts gX9_measure_X9_in rfl rfl rfl (by decide +kernel) ⟨Nat.le_of_ble_eq_true rfl, Nat.le_of_ble_eq_true rfl⟩) (pre_S (is := []) hP hD hS hA hK hZ (by decide +kernel) (by rfl)) rfl rfl hl.1 rfl (by exact lv_room (Nat.le_of_ble_eq_true rfl)) dX9_measure_14 ⟨Nat.le_refl _, Nat.le_refl _⟩) hP hD hS hA (by decide +kernel) (by rfl) (by rfl) rfl (fun H locs hP hD hS => ?_)
  have hP : va_P G vwCl (wm_X9_go cA h0 h0_g h0_p h0_causes h0_rows h0_rows_e h0_sorts h0_sizes h0_outs h0_losses h0_kept h0_changed h0_moved h0_levelOf h0_levelOften h0_to h0_round h0_tail h0_path h0_leastOn h0_period h0_amplitude h0_basin h0_numbered h0_isReached h0_tape h0_told h0_traced s0__isKept s0__done s0__undoable s0__redoable s0__all s0__v s0__loss s0__isOver s0__hasCauses s0__outMany s0__overMany s0__isHalted s0__levelMany s0__rounds s0__stuck s0__onRounds s0__longest s0__loudest s0__reached s0__isAnyOver s0__taped s0__at s0__ran s0_g s0_p s0_causes s0_rows_e s0_sorts s0_sizes s0_outs s0_losses) H := hP
  have hD : va_D A (wm_X9_go cA h0 h0_g h0_p h0_causes h0_rows h0_rows_e h0_sorts h0_sizes h0_outs h0_losses h0_kept h0_changed h0_moved h0_levelOf h0_levelOften h0_to h0_round h0_tail h0_path h0_leastOn h0_period h0_amplitude h0_basin h0_numbered h0_isReached h0_tape h0_told h0_traced s0__isKept s0__done s0__undoable s0__redoable s0__all s0__v s0__loss s0__isOver s0__hasCauses s0__outMany s0__overMany s0__isHalted s0__levelMany s0__rounds s0__stuck s0__onRounds s0__longest s0__loudest s0__reached s0__isAnyOver s0__taped s0__at s0__ran s0_g s0_p s0_causes s0_rows_e s0_sorts s0_sizes s0_outs s0_losses) := hD
  refine lv_if_ne (tgt := 24) hx hb dX9_measure_17 (by decide) (fun c => ?_) (fun c => ?_)
  · replace hok := g_neg hok c
    refine lv_aload_n hx hb dX9_measure_24 rfl (lv_at hl 0 rfl) ?_
    refine lv_iload_n hx hb dX9_measure_25 rfl (lv_at hl 1 rfl) ?_
    obtain ⟨o3, o4, o5, o6, o7, o8, o9, o10, o11, o12, hq, hok⟩ := g_bnd10 hok
    refine cG (is := [0, 1, 2, 4, 5, 6, 7, 8, 10, 11, 12]) (wc := (wm_X9_runs cA h0 h0_g h0_p h0_rows h0_rows_e h0_sizes h0_outs h0_losses h0_kept h0_changed h0_causes h0_sorts h0_moved h0_levelOf h0_levelOften h0_to h0_round h0_tail h0_path h0_leastOn h0_period h0_amplitude h0_basin h0_numbered h0_isReached h0_tape h0_told h0_traced s0__isKept s0__done s0__undoable s0__redoable s0__all s0__v s0__loss s0__isOver s0__hasCauses s0__outMany s0__overMany s0__isHalted s0__levelMany s0__rounds s0__stuck s0__onRounds s0__longest s0__loudest s0__reached s0__isAnyOver s0__taped s0__at s0__ran s0_g s0_p s0_rows_e s0_sizes s0_outs s0_losses)) (w1 := (wm_X9_runs cA h0 h0_g h0_p h0_rows h0_rows_e h0_sizes h0_outs h0_losses h0_kept h0_changed h0_causes h0_sorts h0_moved h0_levelOf h0_levelOften h0_to h0_round h0_tail h0_path h0_leastOn h0_period h0_amplitude h0_basin h0_numbered h0_isReached h0_tape h0_told h0_traced s0__isKept s0__done s0__undoable s0__redoable o3 o4 o5 o6 s0__hasCauses o7 o8 o9 s0__levelMany s0__rounds s0__stuck s0__onRounds s0__longest s0__loudest s0__reached s0__isAnyOver s0__taped s0__at s0__ran s0_g o10 s0_rows_e s0_sizes o11 o12)) (rv := none) (st1 := []) (va_runV (Ts := wsX9_measure) (As := [.int x1]) (rest := []) ⟨hx, hb, hml, hown, hts⟩ (c_X9_runs l G cA ts h0 h0_g h0_p h0_rows h0_rows_e h0_sizes h0_outs h0_losses h0_kept h0_changed h0_causes h0_sorts h0_moved h0_levelOf h0_levelOften h0_to h0_round h0_tail h0_path h0_leastOn h0_period h0_amplitude h0_basin h0_numbered h0_isReached h0_tape h0_told h0_traced x1 s0__isKept s0__done s0__undoable s0__redoable s0__all s0__v s0__loss s0__isOver s0__hasCauses s0__outMany s0__overMany s0__isHalted s0__levelMany s0__rounds s0__stuck s0__onRounds s0__longest s0__loudest s0__reached s0__isAnyOver s0__taped s0__at s0__ran s0_g s0_p s0_rows_e s0_sizes s0_outs s0_losses o3 o4 o5 o6 o7 o8 o9 o10 o11 o12 hq H.size) (cwV 1 hts gX9_measure_X9_runs rfl rfl rfl (by decide +kernel) ⟨Nat.le_of_ble_eq_true rfl, Nat.le_of_ble_eq_true rfl⟩) (pre_V (ci := 9) (q0 := 0) (is := [0, 1, 2, 4, 5, 6, 7, 8, 10, 11, 12]) rfl rfl hP hD hS hA hK hZ (by decide +kernel) (by rfl)) rfl rfl hl.1 rfl (by exact lv_room (Nat.le_of_ble_eq_true rfl)) dX9_measure_26 ⟨Nat.le_refl _, Nat.le_refl _⟩) hP hD hS hA (by decide +kernel) (by rfl) (by rfl) rfl (fun H locs hP hD hS => ?_)
    obtain ⟨hP, hD⟩ : va_P G vwCl (wm_X9_go cA h0 h0_g h0_p h0_causes h0_rows h0_rows_e h0_sorts h0_sizes h0_outs h0_losses h0_kept h0_changed h0_moved h0_levelOf h0_levelOften h0_to h0_round h0_tail h0_path h0_leastOn h0_period h0_amplitude h0_basin h0_numbered h0_isReached h0_tape h0_told h0_traced s0__isKept s0__done s0__undoable s0__redoable o3 o4 o5 o6 s0__hasCauses o7 o8 o9 s0__levelMany s0__rounds s0__stuck s0__onRounds s0__longest s0__loudest s0__reached s0__isAnyOver s0__taped s0__at s0__ran s0_g o10 s0_causes s0_rows_e s0_sorts s0_sizes o11 o12) H ∧ va_D A (wm_X9_go cA h0 h0_g h0_p h0_causes h0_rows h0_rows_e h0_sorts h0_sizes h0_outs h0_losses h0_kept h0_changed h0_moved h0_levelOf h0_levelOften h0_to h0_round h0_tail h0_path h0_leastOn h0_period h0_amplitude h0_basin h0_numbered h0_isReached h0_tape h0_told h0_traced s0__isKept s0__done s0__undoable s0__redoable o3 o4 o5 o6 s0__hasCauses o7 o8 o9 s0__levelMany s0__rounds s0__stuck s0__onRounds s0__longest s0__loudest s0__reached s0__isAnyOver s0__taped s0__at s0__ran s0_g o10 s0_causes s0_rows_e s0_sorts s0_sizes o11 o12) := PD_eq hP hD (rp_eq (js := [3, 9]) 13 (by decide +kernel) rfl rfl (by rfl) (by rfl) (by decide +kernel))
    refine lv_lconst (v := 0) hx hb dX9_measure_29 (by decide) ?_
    refine lv_lstore_n (lv' := [(3, .long (0:Int64)), (0, .ref h0), (1, .int x1), (2, .int x2)]) hx hb dX9_measure_30 rfl hl (by decide) rfl (fun ls hl => ?_)
    refine lv_iconst (v := 0) hx hb dX9_measure_31 (by decide) ?_
    refine lv_istore (lv' := [(5, .int (0:Int32)), (3, .long (0:Int64)), (0, .ref h0), (1, .int x1), (2, .int x2)]) hx hb dX9_measure_32 hl (by decide) rfl (fun ls hl => ?_)
    obtain ⟨o13, hq, hok⟩ := g_bnd1 hok
    refine L_34 FUEL (0:Int64) (0:Int32) o3 o4 o5 o6 s0__hasCauses o7 o8 o9 o10 s0_causes o11 o12 o13 _ _ _ hP hD hS (lv_sub hl [2, 4, 1, 0] rfl) hq (fun p0_0 ho H locs ls hP hD hS hl => ?_) (fun p1_0 p1_1 ho H locs ls hP hD hS hl => ?_) (fun p2_0 ho H locs ls hP hD hS hl => ?_)
    · subst ho
      replace hok := g_inl hok
      replace hok := g_c1 hok
      refine lv_aload_n hx hb dX9_measure_74 rfl (lv_at hl 0 rfl) ?_
      refine lv_iload hx hb dX9_measure_75 (lv_at hl 1 rfl) ?_
      refine lv_iconst (v := 1) hx hb dX9_measure_77 (by decide) ?_
      refine lv_aload_n hx hb dX9_measure_78 rfl (lv_at hl 0 rfl) ?_
      refine va_get (ci := 9) (v := .ref h0_outs) (C := RX9) (T := TX9) (N := 49) hx hb hts hinX9 hown hK hP 0 rfl rfl 18 (by decide) (hts _ (List.mem_of_getElem? (i := 4) rfl)) (fun _ h9 => h9) rfl dX9_measure_79 ?_
      refine lv_iload hx hb dX9_measure_82 (lv_at hl 1 rfl) ?_
      obtain ⟨hin, hok⟩ := g_no hok
      refine x_iald (k := p0_0.toNatClampNeg) hx hb hK hP 11 0 rfl rfl hin rfl dX9_measure_84 ?_
      obtain ⟨o14, o15, hq, hok⟩ := g_bnd2 hok
      refine cG (is := [0, 3]) (wc := (wm_X9_causes cA h0 h0_causes h0_g h0_kept h0_changed h0_p h0_rows h0_sorts h0_sizes h0_moved h0_outs h0_losses h0_levelOf h0_levelOften h0_to h0_round h0_tail h0_path h0_leastOn h0_period h0_amplitude h0_basin h0_numbered h0_isReached h0_tape h0_told h0_traced s0__isKept s0__done s0__undoable s0__redoable o3 o4 o5 o6 s0__hasCauses o7 o8 o9 s0__levelMany s0__rounds s0__stuck s0__onRounds s0__longest s0__loudest s0__reached s0__isAnyOver s0__taped s0__at s0__ran s0_causes)) (w1 := (wm_X9_causes cA h0 h0_causes h0_g h0_kept h0_changed h0_p h0_rows h0_sorts h0_sizes h0_moved h0_outs h0_losses h0_levelOf h0_levelOften h0_to h0_round h0_tail h0_path h0_leastOn h0_period h0_amplitude h0_basin h0_numbered h0_isReached h0_tape h0_told h0_traced s0__isKept s0__done s0__undoable s0__redoable o3 o4 o5 o6 o14 o7 o8 o9 s0__levelMany s0__rounds s0__stuck s0__onRounds s0__longest s0__loudest s0__reached s0__isAnyOver s0__taped s0__at s0__ran o15)) (rv := none) (st1 := []) (va_runV (Ts := wsX9_measure) (As := [.int p0_0, .int (1:Int32), .int (o11 p0_0.toNatClampNeg)]) (rest := []) ⟨hx, hb, hml, hown, hts⟩ (c_X9_causes l G cA ts h0 h0_causes h0_g h0_kept h0_changed h0_p h0_rows h0_sorts h0_sizes h0_moved h0_outs h0_losses h0_levelOf h0_levelOften h0_to h0_round h0_tail h0_path h0_leastOn h0_period h0_amplitude h0_basin h0_numbered h0_isReached h0_tape h0_told h0_traced p0_0 (1:Int32) (o11 p0_0.toNatClampNeg) s0__isKept s0__done s0__undoable s0__redoable o3 o4 o5 o6 s0__hasCauses o7 o8 o9 s0__levelMany s0__rounds s0__stuck s0__onRounds s0__longest s0__loudest s0__reached s0__isAnyOver s0__taped s0__at s0__ran s0_causes o14 o15 hq H.size) (cwV 3 hts gX9_measure_X9_causes rfl rfl rfl (by decide +kernel) ⟨Nat.le_of_ble_eq_true rfl, Nat.le_of_ble_eq_true rfl⟩) (pre_V (ci := 9) (q0 := 0) (is := [0, 3]) rfl rfl hP hD hS hA hK hZ (by decide +kernel) (by rfl)) rfl rfl hl.1 rfl (by exact lv_room (Nat.le_of_ble_eq_true rfl)) dX9_measure_85 ⟨Nat.le_refl _, Nat.le_refl _⟩) hP hD hS hA (by decide +kernel) (by rfl) (by rfl) rfl (fun H locs hP hD hS => ?_)
      have hP : va_P G vwCl (wm_X9_go cA h0 h0_g h0_p h0_causes h0_rows h0_rows_e h0_sorts h0_sizes h0_outs h0_losses h0_kept h0_changed h0_moved h0_levelOf h0_levelOften h0_to h0_round h0_tail h0_path h0_leastOn h0_period h0_amplitude h0_basin h0_numbered h0_isReached h0_tape h0_told h0_traced s0__isKept s0__done s0__undoable s0__redoable o3 o4 o5 o6 o14 o7 o8 o9 s0__levelMany s0__rounds s0__stuck s0__onRounds s0__longest s0__loudest s0__reached s0__isAnyOver s0__taped s0__at s0__ran s0_g o10 o15 s0_rows_e s0_sorts s0_sizes o11 o12) H := hP
      have hD : va_D A (wm_X9_go cA h0 h0_g h0_p h0_causes h0_rows h0_rows_e h0_sorts h0_sizes h0_outs h0_losses h0_kept h0_changed h0_moved h0_levelOf h0_levelOften h0_to h0_round h0_tail h0_path h0_leastOn h0_period h0_amplitude h0_basin h0_numbered h0_isReached h0_tape h0_told h0_traced s0__isKept s0__done s0__undoable s0__redoable o3 o4 o5 o6 o14 o7 o8 o9 s0__levelMany s0__rounds s0__stuck s0__onRounds s0__longest s0__loudest s0__reached s0__isAnyOver s0__taped s0__at s0__ran s0_g o10 o15 s0_rows_e s0_sorts s0_sizes o11 o12) := hD
      refine lv_ldc2 (v := -9223372036854775807) hx hb hown (hts _ (List.mem_of_getElem? (i := 6) rfl)) dX9_measure_88 ?_
      obtain ⟨e, hok⟩ := g_pr hok
      try subst e
      obtain ⟨e, hok⟩ := g_pr hok
      try subst e
      obtain ⟨e, hok⟩ := g_pr hok
      try subst e
      obtain ⟨e, hok⟩ := g_pr hok
      try subst e
      obtain ⟨e, hok⟩ := g_pr hok
      try subst e
      obtain ⟨e, hok⟩ := g_pr hok
      try subst e
      obtain ⟨e, hok⟩ := g_pr hok
      try subst e
      obtain ⟨e, hok⟩ := g_pr hok
      try subst e
      obtain ⟨e, hok⟩ := g_pr hok
      try subst e
      obtain ⟨e, hok⟩ := g_pr hok
      try subst e
      obtain ⟨e, hok⟩ := g_pr hok
      try subst e
      obtain ⟨e, hok⟩ := g_pr hok
      try subst e
      cases hok
      exact cr_l hx hb hr hlocks hQ dX9_measure_91 hP hS
    · subst ho
      replace hok := g_inr hok
      replace hok := g_inl hok
      replace hok := g_c2 hok
      refine lv_aload_n hx hb dX9_measure_105 rfl (lv_at hl 0 rfl) ?_
      refine lv_iload hx hb dX9_measure_106 (lv_at hl 1 rfl) ?_
      refine lv_iconst (v := 2) hx hb dX9_measure_108 (by decide) ?_
      refine lv_lload hx hb dX9_measure_109 (lv_at hl 2 rfl) ?_
      refine lv_l2i (v := (p1_1.toInt32)) hx hb dX9_measure_111 rfl ?_
      obtain ⟨o16, o17, hq, hok⟩ := g_bnd2 hok
      refine cG (is := [0, 3]) (wc := (wm_X9_causes cA h0 h0_causes h0_g h0_kept h0_changed h0_p h0_rows h0_sorts h0_sizes h0_moved h0_outs h0_losses h0_levelOf h0_levelOften h0_to h0_round h0_tail h0_path h0_leastOn h0_period h0_amplitude h0_basin h0_numbered h0_isReached h0_tape h0_told h0_traced s0__isKept s0__done s0__undoable s0__redoable o3 o4 o5 o6 s0__hasCauses o7 o8 o9 s0__levelMany s0__rounds s0__stuck s0__onRounds s0__longest s0__loudest s0__reached s0__isAnyOver s0__taped s0__at s0__ran s0_causes)) (w1 := (wm_X9_causes cA h0 h0_causes h0_g h0_kept h0_changed h0_p h0_rows h0_sorts h0_sizes h0_moved h0_outs h0_losses h0_levelOf h0_levelOften h0_to h0_round h0_tail h0_path h0_leastOn h0_period h0_amplitude h0_basin h0_numbered h0_isReached h0_tape h0_told h0_traced s0__isKept s0__done s0__undoable s0__redoable o3 o4 o5 o6 o16 o7 o8 o9 s0__levelMany s0__rounds s0__stuck s0__onRounds s0__longest s0__loudest s0__reached s0__isAnyOver s0__taped s0__at s0__ran o17)) (rv := none) (st1 := []) (va_runV (Ts := wsX9_measure) (As := [.int p1_0, .int (2:Int32), .int (p1_1.toInt32)]) (rest := []) ⟨hx, hb, hml, hown, hts⟩ (c_X9_causes l G cA ts h0 h0_causes h0_g h0_kept h0_changed h0_p h0_rows h0_sorts h0_sizes h0_moved h0_outs h0_losses h0_levelOf h0_levelOften h0_to h0_round h0_tail h0_path h0_leastOn h0_period h0_amplitude h0_basin h0_numbered h0_isReached h0_tape h0_told h0_traced p1_0 (2:Int32) (p1_1.toInt32) s0__isKept s0__done s0__undoable s0__redoable o3 o4 o5 o6 s0__hasCauses o7 o8 o9 s0__levelMany s0__rounds s0__stuck s0__onRounds s0__longest s0__loudest s0__reached s0__isAnyOver s0__taped s0__at s0__ran s0_causes o16 o17 hq H.size) (cwV 3 hts gX9_measure_X9_causes rfl rfl rfl (by decide +kernel) ⟨Nat.le_of_ble_eq_true rfl, Nat.le_of_ble_eq_true rfl⟩) (pre_V (ci := 9) (q0 := 0) (is := [0, 3]) rfl rfl hP hD hS hA hK hZ (by decide +kernel) (by rfl)) rfl rfl hl.1 rfl (by exact lv_room (Nat.le_of_ble_eq_true rfl)) dX9_measure_112 ⟨Nat.le_refl _, Nat.le_refl _⟩) hP hD hS hA (by decide +kernel) (by rfl) (by rfl) rfl (fun H locs hP hD hS => ?_)
      have hP : va_P G vwCl (wm_X9_go cA h0 h0_g h0_p h0_causes h0_rows h0_rows_e h0_sorts h0_sizes h0_outs h0_losses h0_kept h0_changed h0_moved h0_levelOf h0_levelOften h0_to h0_round h0_tail h0_path h0_leastOn h0_period h0_amplitude h0_basin h0_numbered h0_isReached h0_tape h0_told h0_traced s0__isKept s0__done s0__undoable s0__redoable o3 o4 o5 o6 o16 o7 o8 o9 s0__levelMany s0__rounds s0__stuck s0__onRounds s0__longest s0__loudest s0__reached s0__isAnyOver s0__taped s0__at s0__ran s0_g o10 o17 s0_rows_e s0_sorts s0_sizes o11 o12) H := hP
      have hD : va_D A (wm_X9_go cA h0 h0_g h0_p h0_causes h0_rows h0_rows_e h0_sorts h0_sizes h0_outs h0_losses h0_kept h0_changed h0_moved h0_levelOf h0_levelOften h0_to h0_round h0_tail h0_path h0_leastOn h0_period h0_amplitude h0_basin h0_numbered h0_isReached h0_tape h0_told h0_traced s0__isKept s0__done s0__undoable s0__redoable o3 o4 o5 o6 o16 o7 o8 o9 s0__levelMany s0__rounds s0__stuck s0__onRounds s0__longest s0__loudest s0__reached s0__isAnyOver s0__taped s0__at s0__ran s0_g o10 o17 s0_rows_e s0_sorts s0_sizes o11 o12) := hD
      refine lv_ldc2 (v := -9223372036854775807) hx hb hown (hts _ (List.mem_of_getElem? (i := 6) rfl)) dX9_measure_115 ?_
      obtain ⟨e, hok⟩ := g_pr hok
      try subst e
      obtain ⟨e, hok⟩ := g_pr hok
      try subst e
      obtain ⟨e, hok⟩ := g_pr hok
      try subst e
      obtain ⟨e, hok⟩ := g_pr hok
      try subst e
      obtain ⟨e, hok⟩ := g_pr hok
      try subst e
      obtain ⟨e, hok⟩ := g_pr hok
      try subst e
      obtain ⟨e, hok⟩ := g_pr hok
      try subst e
      obtain ⟨e, hok⟩ := g_pr hok
      try subst e
      obtain ⟨e, hok⟩ := g_pr hok
      try subst e
      obtain ⟨e, hok⟩ := g_pr hok
      try subst e
      obtain ⟨e, hok⟩ := g_pr hok
      try subst e
      obtain ⟨e, hok⟩ := g_pr hok
      try subst e
      cases hok
      exact cr_l hx hb hr hlocks hQ dX9_measure_118 hP hS
    subst ho
    replace hok := g_inr hok
    replace hok := g_inr hok
    replace hok := g_c1 hok
    refine lv_aload_n hx hb dX9_measure_125 rfl (lv_at hl 0 rfl) ?_
    refine va_get (ci := 9) (v := .int o9) (C := RX9) (T := TX9) (N := 49) hx hb hts hinX9 hown hK hP 0 rfl rfl 22 (by decide) (hts _ (List.mem_of_getElem? (i := 7) rfl)) (fun _ h9 => h9) rfl dX9_measure_126 ?_
    refine lv_if_eq (tgt := 149) hx hb dX9_measure_129 (by decide) (fun c => ?_) (fun c => ?_)
    · replace hok := g_pos hok c
      refine lv_lload_n hx hb dX9_measure_149 rfl (lv_at hl 1 rfl) ?_
      obtain ⟨e, hok⟩ := g_pr hok
      try subst e
      obtain ⟨e, hok⟩ := g_pr hok
      try subst e
      obtain ⟨e, hok⟩ := g_pr hok
      try subst e
      obtain ⟨e, hok⟩ := g_pr hok
      try subst e
      obtain ⟨e, hok⟩ := g_pr hok
      try subst e
      obtain ⟨e, hok⟩ := g_pr hok
      try subst e
      obtain ⟨e, hok⟩ := g_pr hok
      try subst e
      obtain ⟨e, hok⟩ := g_pr hok
      try subst e
      obtain ⟨e, hok⟩ := g_pr hok
      try subst e
      obtain ⟨e, hok⟩ := g_pr hok
      try subst e
      obtain ⟨e, hok⟩ := g_pr hok
      try subst e
      obtain ⟨e, hok⟩ := g_pr hok
      try subst e
      cases hok
      exact cr_l hx hb hr hlocks hQ dX9_measure_150 hP hS
    replace hok := g_neg hok c
    refine lv_aload_n hx hb dX9_measure_132 rfl (lv_at hl 0 rfl) ?_
    refine lv_aload_n hx hb dX9_measure_133 rfl (lv_at hl 0 rfl) ?_
    refine va_get (ci := 9) (v := .int o7) (C := RX9) (T := TX9) (N := 49) hx hb hts hinX9 hown hK hP 0 rfl rfl 20 (by decide) (hts _ (List.mem_of_getElem? (i := 3) rfl)) (fun _ h9 => h9) rfl dX9_measure_134 ?_
    refine lv_iconst (v := 0) hx hb dX9_measure_137 (by decide) ?_
    refine lv_aload_n hx hb dX9_measure_138 rfl (lv_at hl 0 rfl) ?_
    refine va_get (ci := 9) (v := .int o4) (C := RX9) (T := TX9) (N := 49) hx hb hts hinX9 hown hK hP 0 rfl rfl 9 (by decide) (hts _ (List.mem_of_getElem? (i := 8) rfl)) (fun _ h9 => h9) rfl dX9_measure_139 ?_
    obtain ⟨o18, o19, hq, hok⟩ := g_bnd2 hok
    refine cG (is := [0, 3]) (wc := (wm_X9_causes cA h0 h0_causes h0_g h0_kept h0_changed h0_p h0_rows h0_sorts h0_sizes h0_moved h0_outs h0_losses h0_levelOf h0_levelOften h0_to h0_round h0_tail h0_path h0_leastOn h0_period h0_amplitude h0_basin h0_numbered h0_isReached h0_tape h0_told h0_traced s0__isKept s0__done s0__undoable s0__redoable o3 o4 o5 o6 s0__hasCauses o7 o8 o9 s0__levelMany s0__rounds s0__stuck s0__onRounds s0__longest s0__loudest s0__reached s0__isAnyOver s0__taped s0__at s0__ran s0_causes)) (w1 := (wm_X9_causes cA h0 h0_causes h0_g h0_kept h0_changed h0_p h0_rows h0_sorts h0_sizes h0_moved h0_outs h0_losses h0_levelOf h0_levelOften h0_to h0_round h0_tail h0_path h0_leastOn h0_period h0_amplitude h0_basin h0_numbered h0_isReached h0_tape h0_told h0_traced s0__isKept s0__done s0__undoable s0__redoable o3 o4 o5 o6 o18 o7 o8 o9 s0__levelMany s0__rounds s0__stuck s0__onRounds s0__longest s0__loudest s0__reached s0__isAnyOver s0__taped s0__at s0__ran o19)) (rv := none) (st1 := []) (va_runV (Ts := wsX9_measure) (As := [.int o7, .int (0:Int32), .int o4]) (rest := []) ⟨hx, hb, hml, hown, hts⟩ (c_X9_causes l G cA ts h0 h0_causes h0_g h0_kept h0_changed h0_p h0_rows h0_sorts h0_sizes h0_moved h0_outs h0_losses h0_levelOf h0_levelOften h0_to h0_round h0_tail h0_path h0_leastOn h0_period h0_amplitude h0_basin h0_numbered h0_isReached h0_tape h0_told h0_traced o7 (0:Int32) o4 s0__isKept s0__done s0__undoable s0__redoable o3 o4 o5 o6 s0__hasCauses o7 o8 o9 s0__levelMany s0__rounds s0__stuck s0__onRounds s0__longest s0__loudest s0__reached s0__isAnyOver s0__taped s0__at s0__ran s0_causes o18 o19 hq H.size) (cwV 3 hts gX9_measure_X9_causes rfl rfl rfl (by decide +kernel) ⟨Nat.le_of_ble_eq_true rfl, Nat.le_of_ble_eq_true rfl⟩) (pre_V (ci := 9) (q0 := 0) (is := [0, 3]) rfl rfl hP hD hS hA hK hZ (by decide +kernel) (by rfl)) rfl rfl hl.1 rfl (by exact lv_room (Nat.le_of_ble_eq_true rfl)) dX9_measure_142 ⟨Nat.le_refl _, Nat.le_refl _⟩) hP hD hS hA (by decide +kernel) (by rfl) (by rfl) rfl (fun H locs hP hD hS => ?_)
    have hP : va_P G vwCl (wm_X9_go cA h0 h0_g h0_p h0_causes h0_rows h0_rows_e h0_sorts h0_sizes h0_outs h0_losses h0_kept h0_changed h0_moved h0_levelOf h0_levelOften h0_to h0_round h0_tail h0_path h0_leastOn h0_period h0_amplitude h0_basin h0_numbered h0_isReached h0_tape h0_told h0_traced s0__isKept s0__done s0__undoable s0__redoable o3 o4 o5 o6 o18 o7 o8 o9 s0__levelMany s0__rounds s0__stuck s0__onRounds s0__longest s0__loudest s0__reached s0__isAnyOver s0__taped s0__at s0__ran s0_g o10 o19 s0_rows_e s0_sorts s0_sizes o11 o12) H := hP
    have hD : va_D A (wm_X9_go cA h0 h0_g h0_p h0_causes h0_rows h0_rows_e h0_sorts h0_sizes h0_outs h0_losses h0_kept h0_changed h0_moved h0_levelOf h0_levelOften h0_to h0_round h0_tail h0_path h0_leastOn h0_period h0_amplitude h0_basin h0_numbered h0_isReached h0_tape h0_told h0_traced s0__isKept s0__done s0__undoable s0__redoable o3 o4 o5 o6 o18 o7 o8 o9 s0__levelMany s0__rounds s0__stuck s0__onRounds s0__longest s0__loudest s0__reached s0__isAnyOver s0__taped s0__at s0__ran s0_g o10 o19 s0_rows_e s0_sorts s0_sizes o11 o12) := hD
    refine lv_ldc2 (v := -9223372036854775807) hx hb hown (hts _ (List.mem_of_getElem? (i := 6) rfl)) dX9_measure_145 ?_
    obtain ⟨e, hok⟩ := g_pr hok
    try subst e
    obtain ⟨e, hok⟩ := g_pr hok
    try subst e
    obtain ⟨e, hok⟩ := g_pr hok
    try subst e
    obtain ⟨e, hok⟩ := g_pr hok
    try subst e
    obtain ⟨e, hok⟩ := g_pr hok
    try subst e
    obtain ⟨e, hok⟩ := g_pr hok
    try subst e
    obtain ⟨e, hok⟩ := g_pr hok
    try subst e
    obtain ⟨e, hok⟩ := g_pr hok
    try subst e
    obtain ⟨e, hok⟩ := g_pr hok
    try subst e
    obtain ⟨e, hok⟩ := g_pr hok
    try subst e
    obtain ⟨e, hok⟩ := g_pr hok
    try subst e
    obtain ⟨e, hok⟩ := g_pr hok
    try subst e
    cases hok
    exact cr_l hx hb hr hlocks hQ dX9_measure_148 hP hS
  replace hok := g_pos hok c
  refine lv_ldc2 (v := -9223372036854775808) hx hb hown (hts _ (List.mem_of_getElem? (i := 2) rfl)) dX9_measure_20 ?_
  obtain ⟨e, hok⟩ := g_pr hok
  try subst e
  obtain ⟨e, hok⟩ := g_pr hok
  try subst e
  obtain ⟨e, hok⟩ := g_pr hok
  try subst e
  obtain ⟨e, hok⟩ := g_pr hok
  try subst e
  obtain ⟨e, hok⟩ := g_pr hok
  try subst e
  obtain ⟨e, hok⟩ := g_pr hok
  try subst e
  obtain ⟨e, hok⟩ := g_pr hok
  try subst e
  obtain ⟨e, hok⟩ := g_pr hok
  try subst e
  obtain ⟨e, hok⟩ := g_pr hok
  try subst e
  obtain ⟨e, hok⟩ := g_pr hok
  try subst e
  obtain ⟨e, hok⟩ := g_pr hok
  try subst e
  obtain ⟨e, hok⟩ := g_pr hok
  try subst e
  cases hok
  exact cr_l hx hb hr hlocks hQ dX9_measure_23 hP hS
set_option maxHeartbeats 40000000 in
set_option maxRecDepth 100000 in
theorem c_X9_cause (l : Launch) (G : va_G) (cA : Nat → ClassId) (ts : Nat → Nat) (h0 : Nat) (h0_causes : Nat) (h0_g : Nat) (h0_kept : Nat) (h0_changed : Nat) (h0_p : Nat) (h0_rows : Nat) (h0_sorts : Nat) (h0_sizes : Nat) (h0_moved : Nat) (h0_outs : Nat) (h0_losses : Nat) (h0_levelOf : Nat) (h0_levelOften : Nat) (h0_to : Nat) (h0_round : Nat) (h0_tail : Nat) (h0_path : Nat) (h0_leastOn : Nat) (h0_period : Nat) (h0_amplitude : Nat) (h0_basin : Nat) (h0_numbered : Nat) (h0_isReached : Nat) (h0_tape : Nat) (h0_told : Nat) (h0_traced : Nat) (x1 : Int32) (s0__isKept : Int32) (s0__done : Int32) (s0__undoable : Int32) (s0__redoable : Int32) (s0__all : Int32) (s0__v : Int32) (s0__loss : Int32) (s0__isOver : Int32) (s0__hasCauses : Int32) (s0__outMany : Int32) (s0__overMany : Int32) (s0__isHalted : Int32) (s0__levelMany : Int32) (s0__rounds : Int32) (s0__stuck : Int32) (s0__onRounds : Int32) (s0__longest : Int32) (s0__loudest : Int32) (s0__reached : Int32) (s0__isAnyOver : Int32) (s0__taped : Int32) (s0__at : Int32) (s0__ran : Int32) (s0_causes : Nat → Int32) (r : Int32) (hok : fX9_cause x1 s0__hasCauses s0_causes = some r) : Ct l G cA ts yX9_cause wsX9_cause 2 65 [.ref h0, .int x1] (wm_X9_causes cA h0 h0_causes h0_g h0_kept h0_changed h0_p h0_rows h0_sorts h0_sizes h0_moved h0_outs h0_losses h0_levelOf h0_levelOften h0_to h0_round h0_tail h0_path h0_leastOn h0_period h0_amplitude h0_basin h0_numbered h0_isReached h0_tape h0_told h0_traced s0__isKept s0__done s0__undoable s0__redoable s0__all s0__v s0__loss s0__isOver s0__hasCauses s0__outMany s0__overMany s0__isHalted s0__levelMany s0__rounds s0__stuck s0__onRounds s0__longest s0__loudest s0__reached s0__isAnyOver s0__taped s0__at s0__ran s0_causes) (wm_X9_causes cA h0 h0_causes h0_g h0_kept h0_changed h0_p h0_rows h0_sorts h0_sizes h0_moved h0_outs h0_losses h0_levelOf h0_levelOften h0_to h0_round h0_tail h0_path h0_leastOn h0_period h0_amplitude h0_basin h0_numbered h0_isReached h0_tape h0_told h0_traced s0__isKept s0__done s0__undoable s0__redoable s0__all s0__v s0__loss s0__isOver s0__hasCauses s0__outMany s0__overMany s0__isHalted s0__levelMany s0__rounds s0__stuck s0__onRounds s0__longest s0__loudest s0__reached s0__isAnyOver s0__taped s0__at s0__ran s0_causes) (some (.int r)) := by
  refine Ct.intro (cc := cX9_cause) (maxL := 2) (ret := some .int) (by decide +kernel) rfl (Nat.le_of_ble_eq_true rfl) ?_
  intro p e s m ar below meth c A Q hx hb hr hml hown hlocks hts hK hZ hA hQ hP hD hS ls hl
  have hown : s.vm.findClass RX9 = some m.cls := hown
  have hinX9 : ∀ w ∈ wsX90, w ∈ wsX9_cause := fun _ h => List.mem_cons_of_mem _ (List.mem_append_right _ (h))
  have hl : lv_has ls 2 [(0, .ref h0), (1, .int x1)] := hl
  have hP : va_P G vwCl (wm_X9_causes cA h0 h0_causes h0_g h0_kept h0_changed h0_p h0_rows h0_sorts h0_sizes h0_moved h0_outs h0_losses h0_levelOf h0_levelOften h0_to h0_round h0_tail h0_path h0_leastOn h0_period h0_amplitude h0_basin h0_numbered h0_isReached h0_tape h0_told h0_traced s0__isKept s0__done s0__undoable s0__redoable s0__all s0__v s0__loss s0__isOver s0__hasCauses s0__outMany s0__overMany s0__isHalted s0__levelMany s0__rounds s0__stuck s0__onRounds s0__longest s0__loudest s0__reached s0__isAnyOver s0__taped s0__at s0__ran s0_causes) s.heap := hP
  have hD : va_D A (wm_X9_causes cA h0 h0_causes h0_g h0_kept h0_changed h0_p h0_rows h0_sorts h0_sizes h0_moved h0_outs h0_losses h0_levelOf h0_levelOften h0_to h0_round h0_tail h0_path h0_leastOn h0_period h0_amplitude h0_basin h0_numbered h0_isReached h0_tape h0_told h0_traced s0__isKept s0__done s0__undoable s0__redoable s0__all s0__v s0__loss s0__isOver s0__hasCauses s0__outMany s0__overMany s0__isHalted s0__levelMany s0__rounds s0__stuck s0__onRounds s0__longest s0__loudest s0__reached s0__isAnyOver s0__taped s0__at s0__ran s0_causes) := hD
  unfold fX9_cause at hok
  refine lv_iload_n hx hb dX9_cause_0 rfl (lv_at hl 1 rfl) ?_
  refine lv_i2l (v := (x1.toInt64)) hx hb dX9_cause_1 rfl ?_
  refine lv_lconst (v := 0) hx hb dX9_cause_2 (by decide) ?_
  refine lv_ldc2 (v := 2) hx hb hown (hts _ (List.mem_of_getElem? (i := 1) rfl)) dX9_cause_3 ?_
  obtain ⟨r1, hq, hok⟩ := g_bnd1 hok
  refine cG (is := []) (wc := (wm_X0_find cA)) (w1 := (wm_X0_find cA)) (rv := (some (.int r1))) (st1 := [.int r1]) (va_runS (Ts := wsX9_cause) (As := [.long (x1.toInt64), .long (0:Int64), .long (2:Int64)]) (rest := []) ⟨hx, hb, hml, hown, hts⟩ (c_X9_in l G cA ts (x1.toInt64) (0:Int64) (2:Int64) r1 hq s.heap.size) (va_cwS 3 hts gX9_cause_X9_in rfl rfl rfl (by decide +kernel) ⟨Nat.le_of_ble_eq_true rfl, Nat.le_of_ble_eq_true rfl⟩) (pre_S (is := []) hP hD hS hA hK hZ (by decide +kernel) (by rfl)) rfl rfl hl.1 rfl (by exact lv_room (Nat.le_of_ble_eq_true rfl)) dX9_cause_6 ⟨Nat.le_refl _, Nat.le_refl _⟩) hP hD hS hA (by decide +kernel) (by rfl) (by rfl) rfl (fun H locs hP hD hS => ?_)
  have hP : va_P G vwCl (wm_X9_causes cA h0 h0_causes h0_g h0_kept h0_changed h0_p h0_rows h0_sorts h0_sizes h0_moved h0_outs h0_losses h0_levelOf h0_levelOften h0_to h0_round h0_tail h0_path h0_leastOn h0_period h0_amplitude h0_basin h0_numbered h0_isReached h0_tape h0_told h0_traced s0__isKept s0__done s0__undoable s0__redoable s0__all s0__v s0__loss s0__isOver s0__hasCauses s0__outMany s0__overMany s0__isHalted s0__levelMany s0__rounds s0__stuck s0__onRounds s0__longest s0__loudest s0__reached s0__isAnyOver s0__taped s0__at s0__ran s0_causes) H := hP
  have hD : va_D A (wm_X9_causes cA h0 h0_causes h0_g h0_kept h0_changed h0_p h0_rows h0_sorts h0_sizes h0_moved h0_outs h0_losses h0_levelOf h0_levelOften h0_to h0_round h0_tail h0_path h0_leastOn h0_period h0_amplitude h0_basin h0_numbered h0_isReached h0_tape h0_told h0_traced s0__isKept s0__done s0__undoable s0__redoable s0__all s0__v s0__loss s0__isOver s0__hasCauses s0__outMany s0__overMany s0__isHalted s0__levelMany s0__rounds s0__stuck s0__onRounds s0__longest s0__loudest s0__reached s0__isAnyOver s0__taped s0__at s0__ran s0_causes) := hD
  refine lv_if_ne (tgt := 17) hx hb dX9_cause_9 (by decide) (fun c => ?_) (fun c => ?_)
  · replace hok := g_neg hok c
    refine lv_aload_n hx hb dX9_cause_17 rfl (lv_at hl 0 rfl) ?_
    refine va_get (ci := 9) (v := .int s0__hasCauses) (C := RX9) (T := TX9) (N := 49) hx hb hts hinX9 hown hK hP 0 rfl rfl 13 (by decide) (hts _ (List.mem_of_getElem? (i := 3) rfl)) (fun _ h9 => h9) rfl dX9_cause_18 ?_
    refine lv_if_eq (tgt := 33) hx hb dX9_cause_21 (by decide) (fun c => ?_) (fun c => ?_)
    · replace hok := g_pos hok c
      refine lv_sipush (v := -1002) hx hb dX9_cause_33 (by decide) ?_
      cases hok
      exact cr_i hx hb hr hlocks hQ dX9_cause_36 hP hS
    replace hok := g_neg hok c
    refine lv_aload_n hx hb dX9_cause_24 rfl (lv_at hl 0 rfl) ?_
    refine va_get (ci := 9) (v := .ref h0_causes) (C := RX9) (T := TX9) (N := 49) hx hb hts hinX9 hown hK hP 0 rfl rfl 12 (by decide) (hts _ (List.mem_of_getElem? (i := 4) rfl)) (fun _ h9 => h9) rfl dX9_cause_25 ?_
    refine lv_iload_n hx hb dX9_cause_28 rfl (lv_at hl 1 rfl) ?_
    obtain ⟨hin, hok⟩ := g_no hok
    refine x_iald (k := x1.toNatClampNeg) hx hb hK hP 1 0 rfl rfl hin rfl dX9_cause_29 ?_
    refine lv_goto (tgt := 36) hx hb dX9_cause_30 (by decide) ?_
    cases hok
    exact cr_i hx hb hr hlocks hQ dX9_cause_36 hP hS
  replace hok := g_pos hok c
  refine lv_ldc (v := -1000000) hx hb hown (hts _ (List.mem_of_getElem? (i := 2) rfl)) dX9_cause_12 ?_
  refine lv_goto (tgt := 36) hx hb dX9_cause_14 (by decide) ?_
  cases hok
  exact cr_i hx hb hr hlocks hQ dX9_cause_36 hP hS
set_option maxHeartbeats 40000000 in
set_option maxRecDepth 100000 in
theorem c_X9_starts (l : Launch) (G : va_G) (cA : Nat → ClassId) (ts : Nat → Nat) (h0 : Nat) (h0_g : Nat) (h0_kept : Nat) (h0_changed : Nat) (h0_p : Nat) (h0_causes : Nat) (h0_rows : Nat) (h0_sorts : Nat) (h0_sizes : Nat) (h0_moved : Nat) (h0_outs : Nat) (h0_losses : Nat) (h0_levelOf : Nat) (h0_levelOften : Nat) (h0_to : Nat) (h0_round : Nat) (h0_tail : Nat) (h0_path : Nat) (h0_leastOn : Nat) (h0_period : Nat) (h0_amplitude : Nat) (h0_basin : Nat) (h0_numbered : Nat) (h0_isReached : Nat) (h0_tape : Nat) (h0_told : Nat) (h0_traced : Nat) (s0__isKept : Int32) (s0__done : Int32) (s0__undoable : Int32) (s0__redoable : Int32) (s0__all : Int32) (s0__v : Int32) (s0__loss : Int32) (s0__isOver : Int32) (s0__hasCauses : Int32) (s0__outMany : Int32) (s0__overMany : Int32) (s0__isHalted : Int32) (s0__levelMany : Int32) (s0__rounds : Int32) (s0__stuck : Int32) (s0__onRounds : Int32) (s0__longest : Int32) (s0__loudest : Int32) (s0__reached : Int32) (s0__isAnyOver : Int32) (s0__taped : Int32) (s0__at : Int32) (s0__ran : Int32) (s0_g : Nat → Int32) (r : Int32) (hok : fX9_starts s0_g = some r) : Ct l G cA ts yX9_starts wsX9_starts 1 40 [.ref h0] (wm_X9_half cA h0 h0_g h0_kept h0_changed h0_p h0_causes h0_rows h0_sorts h0_sizes h0_moved h0_outs h0_losses h0_levelOf h0_levelOften h0_to h0_round h0_tail h0_path h0_leastOn h0_period h0_amplitude h0_basin h0_numbered h0_isReached h0_tape h0_told h0_traced s0__isKept s0__done s0__undoable s0__redoable s0__all s0__v s0__loss s0__isOver s0__hasCauses s0__outMany s0__overMany s0__isHalted s0__levelMany s0__rounds s0__stuck s0__onRounds s0__longest s0__loudest s0__reached s0__isAnyOver s0__taped s0__at s0__ran s0_g) (wm_X9_half cA h0 h0_g h0_kept h0_changed h0_p h0_causes h0_rows h0_sorts h0_sizes h0_moved h0_outs h0_losses h0_levelOf h0_levelOften h0_to h0_round h0_tail h0_path h0_leastOn h0_period h0_amplitude h0_basin h0_numbered h0_isReached h0_tape h0_told h0_traced s0__isKept s0__done s0__undoable s0__redoable s0__all s0__v s0__loss s0__isOver s0__hasCauses s0__outMany s0__overMany s0__isHalted s0__levelMany s0__rounds s0__stuck s0__onRounds s0__longest s0__loudest s0__reached s0__isAnyOver s0__taped s0__at s0__ran s0_g) (some (.int r)) := by
  refine Ct.intro (cc := cX9_starts) (maxL := 1) (ret := some .int) (by decide +kernel) rfl (Nat.le_of_ble_eq_true rfl) ?_
  intro p e s m ar below meth c A Q hx hb hr hml hown hlocks hts hK hZ hA hQ hP hD hS ls hl
  have hown : s.vm.findClass RX9 = some m.cls := hown
  have hinX9 : ∀ w ∈ wsX90, w ∈ wsX9_starts := fun _ h => List.mem_cons_of_mem _ (List.mem_append_right _ (h))
  have hl : lv_has ls 1 [(0, .ref h0)] := hl
  have hP : va_P G vwCl (wm_X9_half cA h0 h0_g h0_kept h0_changed h0_p h0_causes h0_rows h0_sorts h0_sizes h0_moved h0_outs h0_losses h0_levelOf h0_levelOften h0_to h0_round h0_tail h0_path h0_leastOn h0_period h0_amplitude h0_basin h0_numbered h0_isReached h0_tape h0_told h0_traced s0__isKept s0__done s0__undoable s0__redoable s0__all s0__v s0__loss s0__isOver s0__hasCauses s0__outMany s0__overMany s0__isHalted s0__levelMany s0__rounds s0__stuck s0__onRounds s0__longest s0__loudest s0__reached s0__isAnyOver s0__taped s0__at s0__ran s0_g) s.heap := hP
  have hD : va_D A (wm_X9_half cA h0 h0_g h0_kept h0_changed h0_p h0_causes h0_rows h0_sorts h0_sizes h0_moved h0_outs h0_losses h0_levelOf h0_levelOften h0_to h0_round h0_tail h0_path h0_leastOn h0_period h0_amplitude h0_basin h0_numbered h0_isReached h0_tape h0_told h0_traced s0__isKept s0__done s0__undoable s0__redoable s0__all s0__v s0__loss s0__isOver s0__hasCauses s0__outMany s0__overMany s0__isHalted s0__levelMany s0__rounds s0__stuck s0__onRounds s0__longest s0__loudest s0__reached s0__isAnyOver s0__taped s0__at s0__ran s0_g) := hD
  unfold fX9_starts at hok
  refine lv_iconst (v := 1) hx hb dX9_starts_0 (by decide) ?_
  refine lv_aload_n hx hb dX9_starts_1 rfl (lv_at hl 0 rfl) ?_
  refine va_get (ci := 9) (v := .ref h0_g) (C := RX9) (T := TX9) (N := 49) hx hb hts hinX9 hown hK hP 0 rfl rfl 0 (by decide) (hts _ (List.mem_of_getElem? (i := 1) rfl)) (fun _ h9 => h9) rfl dX9_starts_2 ?_
  refine lv_iconst (v := 0) hx hb dX9_starts_5 (by decide) ?_
  refine x_iald (k := 0) hx hb hK hP 1 0 rfl rfl (show ¬ ((0:Int32) < 0 ∨ 13 ≤ (0:Int32).toNatClampNeg) by decide) (by decide) dX9_starts_6 ?_
  refine lv_aload_n hx hb dX9_starts_7 rfl (lv_at hl 0 rfl) ?_
  refine va_get (ci := 9) (v := .ref h0_g) (C := RX9) (T := TX9) (N := 49) hx hb hts hinX9 hown hK hP 0 rfl rfl 0 (by decide) (hts _ (List.mem_of_getElem? (i := 1) rfl)) (fun _ h9 => h9) rfl dX9_starts_8 ?_
  refine lv_iconst (v := 1) hx hb dX9_starts_11 (by decide) ?_
  refine x_iald (k := 1) hx hb hK hP 1 0 rfl rfl (show ¬ ((1:Int32) < 0 ∨ 13 ≤ (1:Int32).toNatClampNeg) by decide) (by decide) dX9_starts_12 ?_
  refine lv_imul hx hb dX9_starts_13 ?_
  refine lv_ishl hx hb dX9_starts_14 ?_
  cases hok
  exact cr_i hx hb hr hlocks hQ dX9_starts_15 hP hS
