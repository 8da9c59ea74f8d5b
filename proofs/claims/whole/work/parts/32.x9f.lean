set_option maxHeartbeats 40000000 in
set_option maxRecDepth 100000 in
theorem c_X9_output (l : Launch) (G : va_G) (cA : Nat → ClassId) (ts : Nat → Nat) (h0 : Nat) (h0_g : Nat) (h0_p : Nat) (h0_rows : Nat) (h0_rows_e : Nat → Nat) (h0_sorts : Nat) (h0_sizes : Nat) (h0_outs : Nat) (h0_losses : Nat) (h0_kept : Nat) (h0_changed : Nat) (h0_causes : Nat) (h0_moved : Nat) (h0_levelOf : Nat) (h0_levelOften : Nat) (h0_to : Nat) (h0_round : Nat) (h0_tail : Nat) (h0_path : Nat) (h0_leastOn : Nat) (h0_period : Nat) (h0_amplitude : Nat) (h0_basin : Nat) (h0_numbered : Nat) (h0_isReached : Nat) (h0_tape : Nat) (h0_told : Nat) (h0_traced : Nat) (x1 : Int32) (x2 : Int32) (s0__isKept : Int32) (s0__done : Int32) (s0__undoable : Int32) (s0__redoable : Int32) (s0__all : Int32) (s0__v : Int32) (s0__loss : Int32) (s0__isOver : Int32) (s0__hasCauses : Int32) (s0__outMany : Int32) (s0__overMany : Int32) (s0__isHalted : Int32) (s0__levelMany : Int32) (s0__rounds : Int32) (s0__stuck : Int32) (s0__onRounds : Int32) (s0__longest : Int32) (s0__loudest : Int32) (s0__reached : Int32) (s0__isAnyOver : Int32) (s0__taped : Int32) (s0__at : Int32) (s0__ran : Int32) (s0_g : Nat → Int32) (s0_p : Nat → Int32) (s0_rows_e : Nat → Nat → Int64) (s0_sorts : Nat → Int32) (s0_sizes : Nat → Int32) (s0_outs : Nat → Int32) (s0_losses : Nat → Int32) (r : Int32) (o0__all : Int32) (o0__v : Int32) (o0__loss : Int32) (o0__isOver : Int32) (o0__outMany : Int32) (o0__overMany : Int32) (o0__isHalted : Int32) (o0_p : Nat → Int32) (o0_outs : Nat → Int32) (o0_losses : Nat → Int32) (hok : fX9_output x1 x2 s0__all s0__v s0__loss s0__isOver s0__outMany s0__overMany s0__isHalted s0_g s0_p s0_rows_e s0_sorts s0_sizes s0_outs s0_losses = some (r, o0__all, o0__v, o0__loss, o0__isOver, o0__outMany, o0__overMany, o0__isHalted, o0_p, o0_outs, o0_losses)) : Ct l G cA ts yX9_output wsX9_output 5 134 [.ref h0, .int x1, .int x2] (wm_X9_output cA h0 h0_g h0_p h0_rows h0_rows_e h0_sorts h0_sizes h0_outs h0_losses h0_kept h0_changed h0_causes h0_moved h0_levelOf h0_levelOften h0_to h0_round h0_tail h0_path h0_leastOn h0_period h0_amplitude h0_basin h0_numbered h0_isReached h0_tape h0_told h0_traced s0__isKept s0__done s0__undoable s0__redoable s0__all s0__v s0__loss s0__isOver s0__hasCauses s0__outMany s0__overMany s0__isHalted s0__levelMany s0__rounds s0__stuck s0__onRounds s0__longest s0__loudest s0__reached s0__isAnyOver s0__taped s0__at s0__ran s0_g s0_p s0_rows_e s0_sorts s0_sizes s0_outs s0_losses) (wm_X9_output cA h0 h0_g h0_p h0_rows h0_rows_e h0_sorts h0_sizes h0_outs h0_losses h0_kept h0_changed h0_causes h0_moved h0_levelOf h0_levelOften h0_to h0_round h0_tail h0_path h0_leastOn h0_period h0_amplitude h0_basin h0_numbered h0_isReached h0_tape h0_told h0_traced s0__isKept s0__done s0__undoable s0__redoable o0__all o0__v o0__loss o0__isOver s0__hasCauses o0__outMany o0__overMany o0__isHalted s0__levelMany s0__rounds s0__stuck s0__onRounds s0__longest s0__loudest s0__reached s0__isAnyOver s0__taped s0__at s0__ran s0_g o0_p s0_rows_e s0_sorts s0_sizes o0_outs o0_losses) (some (.int r)) := by
  refine Ct.intro (cc := cX9_output) (maxL := 3) (ret := some .int) (by decide +kernel) rfl (Nat.le_of_ble_eq_true rfl) ?_
  intro p e s m ar below meth c A Q hx hb hr hml hown hlocks hts hK hZ hA hQ hP hD hS ls hl
  have hown : s.vm.findClass RX9 = some m.cls := hown
  have hinX9 : ∀ w ∈ wsX90, w ∈ wsX9_output := fun _ h => List.mem_cons_of_mem _ (List.mem_append_right _ (h))
  have hl : lv_has ls 3 [(0, .ref h0), (1, .int x1), (2, .int x2)] := hl
  have hP : va_P G vwCl (wm_X9_output cA h0 h0_g h0_p h0_rows h0_rows_e h0_sorts h0_sizes h0_outs h0_losses h0_kept h0_changed h0_causes h0_moved h0_levelOf h0_levelOften h0_to h0_round h0_tail h0_path h0_leastOn h0_period h0_amplitude h0_basin h0_numbered h0_isReached h0_tape h0_told h0_traced s0__isKept s0__done s0__undoable s0__redoable s0__all s0__v s0__loss s0__isOver s0__hasCauses s0__outMany s0__overMany s0__isHalted s0__levelMany s0__rounds s0__stuck s0__onRounds s0__longest s0__loudest s0__reached s0__isAnyOver s0__taped s0__at s0__ran s0_g s0_p s0_rows_e s0_sorts s0_sizes s0_outs s0_losses) s.heap := hP
  have hD : va_D A (wm_X9_output cA h0 h0_g h0_p h0_rows h0_rows_e h0_sorts h0_sizes h0_outs h0_losses h0_kept h0_changed h0_causes h0_moved h0_levelOf h0_levelOften h0_to h0_round h0_tail h0_path h0_leastOn h0_period h0_amplitude h0_basin h0_numbered h0_isReached h0_tape h0_told h0_traced s0__isKept s0__done s0__undoable s0__redoable s0__all s0__v s0__loss s0__isOver s0__hasCauses s0__outMany s0__overMany s0__isHalted s0__levelMany s0__rounds s0__stuck s0__onRounds s0__longest s0__loudest s0__reached s0__isAnyOver s0__taped s0__at s0__ran s0_g s0_p s0_rows_e s0_sorts s0_sizes s0_outs s0_losses) := hD
  unfold fX9_output at hok
  refine lv_iload_n hx hb dX9_output_0 rfl (lv_at hl 1 rfl) ?_
  obtain ⟨r1, hq, hok⟩ := g_bnd1 hok
  refine cG (is := []) (wc := (wm_X0_find cA)) (w1 := (wm_X0_find cA)) (rv := (some (.int r1))) (st1 := [.int r1]) (va_runS (Ts := wsX9_output) (As := [.int x1]) (rest := []) ⟨hx, hb, hml, hown, hts⟩ (c_X9_isRow l G cA ts x1 r1 hq s.heap.size) (va_cwS 1 hts gX9_output_X9_isRow rfl rfl rfl (by decide +kernel) ⟨Nat.le_of_ble_eq_true rfl, Nat.le_of_ble_eq_true rfl⟩) (pre_S (is := []) hP hD hS hA hK hZ (by decide +kernel) (by rfl)) rfl rfl hl.1 rfl (by exact lv_room (Nat.le_of_ble_eq_true rfl)) dX9_output_1 ⟨Nat.le_refl _, Nat.le_refl _⟩) hP hD hS hA (by decide +kernel) (by rfl) (by rfl) rfl (fun H locs hP hD hS => ?_)
  have hP : va_P G vwCl (wm_X9_output cA h0 h0_g h0_p h0_rows h0_rows_e h0_sorts h0_sizes h0_outs h0_losses h0_kept h0_changed h0_causes h0_moved h0_levelOf h0_levelOften h0_to h0_round h0_tail h0_path h0_leastOn h0_period h0_amplitude h0_basin h0_numbered h0_isReached h0_tape h0_told h0_traced s0__isKept s0__done s0__undoable s0__redoable s0__all s0__v s0__loss s0__isOver s0__hasCauses s0__outMany s0__overMany s0__isHalted s0__levelMany s0__rounds s0__stuck s0__onRounds s0__longest s0__loudest s0__reached s0__isAnyOver s0__taped s0__at s0__ran s0_g s0_p s0_rows_e s0_sorts s0_sizes s0_outs s0_losses) H := hP
  have hD : va_D A (wm_X9_output cA h0 h0_g h0_p h0_rows h0_rows_e h0_sorts h0_sizes h0_outs h0_losses h0_kept h0_changed h0_causes h0_moved h0_levelOf h0_levelOften h0_to h0_round h0_tail h0_path h0_leastOn h0_period h0_amplitude h0_basin h0_numbered h0_isReached h0_tape h0_told h0_traced s0__isKept s0__done s0__undoable s0__redoable s0__all s0__v s0__loss s0__isOver s0__hasCauses s0__outMany s0__overMany s0__isHalted s0__levelMany s0__rounds s0__stuck s0__onRounds s0__longest s0__loudest s0__reached s0__isAnyOver s0__taped s0__at s0__ran s0_g s0_p s0_rows_e s0_sorts s0_sizes s0_outs s0_losses) := hD
  refine lv_if_ne (tgt := 11) hx hb dX9_output_4 (by decide) (fun c => ?_) (fun c => ?_)
  · replace hok := g_neg hok c
    refine lv_aload_n hx hb dX9_output_11 rfl (lv_at hl 0 rfl) ?_
    refine va_get (ci := 9) (v := .ref h0_sorts) (C := RX9) (T := TX9) (N := 49) hx hb hts hinX9 hown hK hP 0 rfl rfl 15 (by decide) (hts _ (List.mem_of_getElem? (i := 1) rfl)) (fun _ h9 => h9) rfl dX9_output_12 ?_
    refine lv_iload_n hx hb dX9_output_15 rfl (lv_at hl 1 rfl) ?_
    obtain ⟨hin, hok⟩ := g_no hok
    refine x_iald (k := x1.toNatClampNeg) hx hb hK hP 8 0 rfl rfl hin rfl dX9_output_16 ?_
    refine lv_if_ge (tgt := 24) hx hb dX9_output_17 (by decide) (fun c => ?_) (fun c => ?_)
    · replace hok := g_pos hok c
      refine lv_aload_n hx hb dX9_output_24 rfl (lv_at hl 0 rfl) ?_
      refine lv_iload_n hx hb dX9_output_25 rfl (lv_at hl 1 rfl) ?_
      obtain ⟨o2, o3, o4, o5, o6, o7, o8, o9, o10, o11, hq, hok⟩ := g_bnd10 hok
      refine cG (is := [0, 1, 2, 3, 4, 5, 6, 7, 9, 10, 11]) (wc := (wm_X9_runs cA h0 h0_g h0_p h0_rows h0_rows_e h0_sizes h0_outs h0_losses h0_kept h0_changed h0_causes h0_sorts h0_moved h0_levelOf h0_levelOften h0_to h0_round h0_tail h0_path h0_leastOn h0_period h0_amplitude h0_basin h0_numbered h0_isReached h0_tape h0_told h0_traced s0__isKept s0__done s0__undoable s0__redoable s0__all s0__v s0__loss s0__isOver s0__hasCauses s0__outMany s0__overMany s0__isHalted s0__levelMany s0__rounds s0__stuck s0__onRounds s0__longest s0__loudest s0__reached s0__isAnyOver s0__taped s0__at s0__ran s0_g s0_p s0_rows_e s0_sizes s0_outs s0_losses)) (w1 := (wm_X9_runs cA h0 h0_g h0_p h0_rows h0_rows_e h0_sizes h0_outs h0_losses h0_kept h0_changed h0_causes h0_sorts h0_moved h0_levelOf h0_levelOften h0_to h0_round h0_tail h0_path h0_leastOn h0_period h0_amplitude h0_basin h0_numbered h0_isReached h0_tape h0_told h0_traced s0__isKept s0__done s0__undoable s0__redoable o2 o3 o4 o5 s0__hasCauses o6 o7 o8 s0__levelMany s0__rounds s0__stuck s0__onRounds s0__longest s0__loudest s0__reached s0__isAnyOver s0__taped s0__at s0__ran s0_g o9 s0_rows_e s0_sizes o10 o11)) (rv := none) (st1 := []) (va_runV (Ts := wsX9_output) (As := [.int x1]) (rest := []) ⟨hx, hb, hml, hown, hts⟩ (c_X9_runs l G cA ts h0 h0_g h0_p h0_rows h0_rows_e h0_sizes h0_outs h0_losses h0_kept h0_changed h0_causes h0_sorts h0_moved h0_levelOf h0_levelOften h0_to h0_round h0_tail h0_path h0_leastOn h0_period h0_amplitude h0_basin h0_numbered h0_isReached h0_tape h0_told h0_traced x1 s0__isKept s0__done s0__undoable s0__redoable s0__all s0__v s0__loss s0__isOver s0__hasCauses s0__outMany s0__overMany s0__isHalted s0__levelMany s0__rounds s0__stuck s0__onRounds s0__longest s0__loudest s0__reached s0__isAnyOver s0__taped s0__at s0__ran s0_g s0_p s0_rows_e s0_sizes s0_outs s0_losses o2 o3 o4 o5 o6 o7 o8 o9 o10 o11 hq H.size) (cwV 1 hts gX9_output_X9_runs rfl rfl rfl (by decide +kernel) ⟨Nat.le_of_ble_eq_true rfl, Nat.le_of_ble_eq_true rfl⟩) (pre_V (ci := 9) (q0 := 0) (is := [0, 1, 2, 3, 4, 5, 6, 7, 9, 10, 11]) rfl rfl hP hD hS hA hK hZ (by decide +kernel) (by rfl)) rfl rfl hl.1 rfl (by exact lv_room (Nat.le_of_ble_eq_true rfl)) dX9_output_26 ⟨Nat.le_refl _, Nat.le_refl _⟩) hP hD hS hA (by decide +kernel) (by rfl) (by rfl) rfl (fun H locs hP hD hS => ?_)
      obtain ⟨hP, hD⟩ : va_P G vwCl (wm_X9_output cA h0 h0_g h0_p h0_rows h0_rows_e h0_sorts h0_sizes h0_outs h0_losses h0_kept h0_changed h0_causes h0_moved h0_levelOf h0_levelOften h0_to h0_round h0_tail h0_path h0_leastOn h0_period h0_amplitude h0_basin h0_numbered h0_isReached h0_tape h0_told h0_traced s0__isKept s0__done s0__undoable s0__redoable o2 o3 o4 o5 s0__hasCauses o6 o7 o8 s0__levelMany s0__rounds s0__stuck s0__onRounds s0__longest s0__loudest s0__reached s0__isAnyOver s0__taped s0__at s0__ran s0_g o9 s0_rows_e s0_sorts s0_sizes o10 o11) H ∧ va_D A (wm_X9_output cA h0 h0_g h0_p h0_rows h0_rows_e h0_sorts h0_sizes h0_outs h0_losses h0_kept h0_changed h0_causes h0_moved h0_levelOf h0_levelOften h0_to h0_round h0_tail h0_path h0_leastOn h0_period h0_amplitude h0_basin h0_numbered h0_isReached h0_tape h0_told h0_traced s0__isKept s0__done s0__undoable s0__redoable o2 o3 o4 o5 s0__hasCauses o6 o7 o8 s0__levelMany s0__rounds s0__stuck s0__onRounds s0__longest s0__loudest s0__reached s0__isAnyOver s0__taped s0__at s0__ran s0_g o9 s0_rows_e s0_sorts s0_sizes o10 o11) := PD_eq hP hD (rp_eq (js := [8]) 12 (by decide +kernel) rfl rfl (by rfl) (by rfl) (by decide +kernel))
      refine lv_iload_n hx hb dX9_output_29 rfl (lv_at hl 2 rfl) ?_
      refine lv_i2l (v := (x2.toInt64)) hx hb dX9_output_30 rfl ?_
      refine lv_lconst (v := 0) hx hb dX9_output_31 (by decide) ?_
      refine lv_aload_n hx hb dX9_output_32 rfl (lv_at hl 0 rfl) ?_
      refine va_get (ci := 9) (v := .int o6) (C := RX9) (T := TX9) (N := 49) hx hb hts hinX9 hown hK hP 0 rfl rfl 20 (by decide) (hts _ (List.mem_of_getElem? (i := 2) rfl)) (fun _ h9 => h9) rfl dX9_output_33 ?_
      refine lv_iconst (v := 1) hx hb dX9_output_36 (by decide) ?_
      refine lv_isub hx hb dX9_output_37 ?_
      refine lv_i2l (v := ((o6 - (1:Int32)).toInt64)) hx hb dX9_output_38 rfl ?_
      obtain ⟨r12, hq, hok⟩ := g_bnd1 hok
      refine cG (is := []) (wc := (wm_X0_find cA)) (w1 := (wm_X0_find cA)) (rv := (some (.int r12))) (st1 := [.int r12]) (va_runS (Ts := wsX9_output) (As := [.long (x2.toInt64), .long (0:Int64), .long ((o6 - (1:Int32)).toInt64)]) (rest := []) ⟨hx, hb, hml, hown, hts⟩ (c_X9_in l G cA ts (x2.toInt64) (0:Int64) ((o6 - (1:Int32)).toInt64) r12 hq H.size) (va_cwS 3 hts gX9_output_X9_in rfl rfl rfl (by decide +kernel) ⟨Nat.le_of_ble_eq_true rfl, Nat.le_of_ble_eq_true rfl⟩) (pre_S (is := []) hP hD hS hA hK hZ (by decide +kernel) (by rfl)) rfl rfl hl.1 rfl (by exact lv_room (Nat.le_of_ble_eq_true rfl)) dX9_output_39 ⟨Nat.le_refl _, Nat.le_refl _⟩) hP hD hS hA (by decide +kernel) (by rfl) (by rfl) rfl (fun H locs hP hD hS => ?_)
      have hP : va_P G vwCl (wm_X9_output cA h0 h0_g h0_p h0_rows h0_rows_e h0_sorts h0_sizes h0_outs h0_losses h0_kept h0_changed h0_causes h0_moved h0_levelOf h0_levelOften h0_to h0_round h0_tail h0_path h0_leastOn h0_period h0_amplitude h0_basin h0_numbered h0_isReached h0_tape h0_told h0_traced s0__isKept s0__done s0__undoable s0__redoable o2 o3 o4 o5 s0__hasCauses o6 o7 o8 s0__levelMany s0__rounds s0__stuck s0__onRounds s0__longest s0__loudest s0__reached s0__isAnyOver s0__taped s0__at s0__ran s0_g o9 s0_rows_e s0_sorts s0_sizes o10 o11) H := hP
      have hD : va_D A (wm_X9_output cA h0 h0_g h0_p h0_rows h0_rows_e h0_sorts h0_sizes h0_outs h0_losses h0_kept h0_changed h0_causes h0_moved h0_levelOf h0_levelOften h0_to h0_round h0_tail h0_path h0_leastOn h0_period h0_amplitude h0_basin h0_numbered h0_isReached h0_tape h0_told h0_traced s0__isKept s0__done s0__undoable s0__redoable o2 o3 o4 o5 s0__hasCauses o6 o7 o8 s0__levelMany s0__rounds s0__stuck s0__onRounds s0__longest s0__loudest s0__reached s0__isAnyOver s0__taped s0__at s0__ran s0_g o9 s0_rows_e s0_sorts s0_sizes o10 o11) := hD
      refine lv_if_eq (tgt := 54) hx hb dX9_output_42 (by decide) (fun c => ?_) (fun c => ?_)
      · replace hok := g_pos hok c
        refine lv_sipush (v := -1002) hx hb dX9_output_54 (by decide) ?_
        obtain ⟨e, hok⟩ := g_pr hok
        try subst e
        obtain ⟨e, hok⟩ := g_pr hok
        try subst e
        obtain ⟨e, hok⟩ := g_pr hok
        try subst e
        obtain ⟨e, hok⟩ := g_pr hok
        try subst e
        obtain ⟨e, hok⟩ := g_pr hok
        try subst e
        obtain ⟨e, hok⟩ := g_pr hok
        try subst e
        obtain ⟨e, hok⟩ := g_pr hok
        try subst e
        obtain ⟨e, hok⟩ := g_pr hok
        try subst e
        obtain ⟨e, hok⟩ := g_pr hok
        try subst e
        obtain ⟨e, hok⟩ := g_pr hok
        try subst e
        cases hok
        exact cr_i hx hb hr hlocks hQ dX9_output_57 hP hS
      replace hok := g_neg hok c
      refine lv_aload_n hx hb dX9_output_45 rfl (lv_at hl 0 rfl) ?_
      refine va_get (ci := 9) (v := .ref h0_outs) (C := RX9) (T := TX9) (N := 49) hx hb hts hinX9 hown hK hP 0 rfl rfl 18 (by decide) (hts _ (List.mem_of_getElem? (i := 3) rfl)) (fun _ h9 => h9) rfl dX9_output_46 ?_
      refine lv_iload_n hx hb dX9_output_49 rfl (lv_at hl 2 rfl) ?_
      obtain ⟨hin, hok⟩ := g_no hok
      refine x_iald (k := x2.toNatClampNeg) hx hb hK hP 10 0 rfl rfl hin rfl dX9_output_50 ?_
      refine lv_goto (tgt := 57) hx hb dX9_output_51 (by decide) ?_
      obtain ⟨e, hok⟩ := g_pr hok
      try subst e
      obtain ⟨e, hok⟩ := g_pr hok
      try subst e
      obtain ⟨e, hok⟩ := g_pr hok
      try subst e
      obtain ⟨e, hok⟩ := g_pr hok
      try subst e
      obtain ⟨e, hok⟩ := g_pr hok
      try subst e
      obtain ⟨e, hok⟩ := g_pr hok
      try subst e
      obtain ⟨e, hok⟩ := g_pr hok
      try subst e
      obtain ⟨e, hok⟩ := g_pr hok
      try subst e
      obtain ⟨e, hok⟩ := g_pr hok
      try subst e
      obtain ⟨e, hok⟩ := g_pr hok
      try subst e
      cases hok
      exact cr_i hx hb hr hlocks hQ dX9_output_57 hP hS
    replace hok := g_neg hok c
    refine lv_sipush (v := -1011) hx hb dX9_output_20 (by decide) ?_
    obtain ⟨e, hok⟩ := g_pr hok
    try subst e
    obtain ⟨e, hok⟩ := g_pr hok
    try subst e
    obtain ⟨e, hok⟩ := g_pr hok
    try subst e
    obtain ⟨e, hok⟩ := g_pr hok
    try subst e
    obtain ⟨e, hok⟩ := g_pr hok
    try subst e
    obtain ⟨e, hok⟩ := g_pr hok
    try subst e
    obtain ⟨e, hok⟩ := g_pr hok
    try subst e
    obtain ⟨e, hok⟩ := g_pr hok
    try subst e
    obtain ⟨e, hok⟩ := g_pr hok
    try subst e
    obtain ⟨e, hok⟩ := g_pr hok
    try subst e
    cases hok
    exact cr_i hx hb hr hlocks hQ dX9_output_23 hP hS
  replace hok := g_pos hok c
  refine lv_sipush (v := -1001) hx hb dX9_output_7 (by decide) ?_
  obtain ⟨e, hok⟩ := g_pr hok
  try subst e
  obtain ⟨e, hok⟩ := g_pr hok
  try subst e
  obtain ⟨e, hok⟩ := g_pr hok
  try subst e
  obtain ⟨e, hok⟩ := g_pr hok
  try subst e
  obtain ⟨e, hok⟩ := g_pr hok
  try subst e
  obtain ⟨e, hok⟩ := g_pr hok
  try subst e
  obtain ⟨e, hok⟩ := g_pr hok
  try subst e
  obtain ⟨e, hok⟩ := g_pr hok
  try subst e
  obtain ⟨e, hok⟩ := g_pr hok
  try subst e
  obtain ⟨e, hok⟩ := g_pr hok
  try subst e
  cases hok
  exact cr_i hx hb hr hlocks hQ dX9_output_10 hP hS
set_option maxHeartbeats 40000000 in
set_option maxRecDepth 100000 in
theorem c_X9_run (l : Launch) (G : va_G) (cA : Nat → ClassId) (ts : Nat → Nat) (h0 : Nat) (h0_g : Nat) (h0_p : Nat) (h0_rows : Nat) (h0_rows_e : Nat → Nat) (h0_sorts : Nat) (h0_sizes : Nat) (h0_outs : Nat) (h0_losses : Nat) (h0_kept : Nat) (h0_changed : Nat) (h0_causes : Nat) (h0_moved : Nat) (h0_levelOf : Nat) (h0_levelOften : Nat) (h0_to : Nat) (h0_round : Nat) (h0_tail : Nat) (h0_path : Nat) (h0_leastOn : Nat) (h0_period : Nat) (h0_amplitude : Nat) (h0_basin : Nat) (h0_numbered : Nat) (h0_isReached : Nat) (h0_tape : Nat) (h0_told : Nat) (h0_traced : Nat) (x1 : Int32) (x2 : Int32) (s0__isKept : Int32) (s0__done : Int32) (s0__undoable : Int32) (s0__redoable : Int32) (s0__all : Int32) (s0__v : Int32) (s0__loss : Int32) (s0__isOver : Int32) (s0__hasCauses : Int32) (s0__outMany : Int32) (s0__overMany : Int32) (s0__isHalted : Int32) (s0__levelMany : Int32) (s0__rounds : Int32) (s0__stuck : Int32) (s0__onRounds : Int32) (s0__longest : Int32) (s0__loudest : Int32) (s0__reached : Int32) (s0__isAnyOver : Int32) (s0__taped : Int32) (s0__at : Int32) (s0__ran : Int32) (s0_g : Nat → Int32) (s0_p : Nat → Int32) (s0_rows_e : Nat → Nat → Int64) (s0_sorts : Nat → Int32) (s0_sizes : Nat → Int32) (s0_outs : Nat → Int32) (s0_losses : Nat → Int32) (r : Int32) (o0__all : Int32) (o0__v : Int32) (o0__loss : Int32) (o0__isOver : Int32) (o0__outMany : Int32) (o0__overMany : Int32) (o0__isHalted : Int32) (o0_p : Nat → Int32) (o0_outs : Nat → Int32) (o0_losses : Nat → Int32) (hok : fX9_run x1 x2 s0__all s0__v s0__loss s0__isOver s0__outMany s0__overMany s0__isHalted s0_g s0_p s0_rows_e s0_sorts s0_sizes s0_outs s0_losses = some (r, o0__all, o0__v, o0__loss, o0__isOver, o0__outMany, o0__overMany, o0__isHalted, o0_p, o0_outs, o0_losses)) : Ct l G cA ts yX9_run wsX9_run 5 134 [.ref h0, .int x1, .int x2] (wm_X9_output cA h0 h0_g h0_p h0_rows h0_rows_e h0_sorts h0_sizes h0_outs h0_losses h0_kept h0_changed h0_causes h0_moved h0_levelOf h0_levelOften h0_to h0_round h0_tail h0_path h0_leastOn h0_period h0_amplitude h0_basin h0_numbered h0_isReached h0_tape h0_told h0_traced s0__isKept s0__done s0__undoable s0__redoable s0__all s0__v s0__loss s0__isOver s0__hasCauses s0__outMany s0__overMany s0__isHalted s0__levelMany s0__rounds s0__stuck s0__onRounds s0__longest s0__loudest s0__reached s0__isAnyOver s0__taped s0__at s0__ran s0_g s0_p s0_rows_e s0_sorts s0_sizes s0_outs s0_losses) (wm_X9_output cA h0 h0_g h0_p h0_rows h0_rows_e h0_sorts h0_sizes h0_outs h0_losses h0_kept h0_changed h0_causes h0_moved h0_levelOf h0_levelOften h0_to h0_round h0_tail h0_path h0_leastOn h0_period h0_amplitude h0_basin h0_numbered h0_isReached h0_tape h0_told h0_traced s0__isKept s0__done s0__undoable s0__redoable o0__all o0__v o0__loss o0__isOver s0__hasCauses o0__outMany o0__overMany o0__isHalted s0__levelMany s0__rounds s0__stuck s0__onRounds s0__longest s0__loudest s0__reached s0__isAnyOver s0__taped s0__at s0__ran s0_g o0_p s0_rows_e s0_sorts s0_sizes o0_outs o0_losses) (some (.int r)) := by
  refine Ct.intro (cc := cX9_run) (maxL := 3) (ret := some .int) (by decide +kernel) rfl (Nat.le_of_ble_eq_true rfl) ?_
  intro p e s m ar below meth c A Q hx hb hr hml hown hlocks hts hK hZ hA hQ hP hD hS ls hl
  have hown : s.vm.findClass RX9 = some m.cls := hown
  have hinX9 : ∀ w ∈ wsX90, w ∈ wsX9_run := fun _ h => List.mem_cons_of_mem _ (List.mem_append_right _ (h))
  have hl : lv_has ls 3 [(0, .ref h0), (1, .int x1), (2, .int x2)] := hl
  have hP : va_P G vwCl (wm_X9_output cA h0 h0_g h0_p h0_rows h0_rows_e h0_sorts h0_sizes h0_outs h0_losses h0_kept h0_changed h0_causes h0_moved h0_levelOf h0_levelOften h0_to h0_round h0_tail h0_path h0_leastOn h0_period h0_amplitude h0_basin h0_numbered h0_isReached h0_tape h0_told h0_traced s0__isKept s0__done s0__undoable s0__redoable s0__all s0__v s0__loss s0__isOver s0__hasCauses s0__outMany s0__overMany s0__isHalted s0__levelMany s0__rounds s0__stuck s0__onRounds s0__longest s0__loudest s0__reached s0__isAnyOver s0__taped s0__at s0__ran s0_g s0_p s0_rows_e s0_sorts s0_sizes s0_outs s0_losses) s.heap := hP
  have hD : va_D A (wm_X9_output cA h0 h0_g h0_p h0_rows h0_rows_e h0_sorts h0_sizes h0_outs h0_losses h0_kept h0_changed h0_causes h0_moved h0_levelOf h0_levelOften h0_to h0_round h0_tail h0_path h0_leastOn h0_period h0_amplitude h0_basin h0_numbered h0_isReached h0_tape h0_told h0_traced s0__isKept s0__done s0__undoable s0__redoable s0__all s0__v s0__loss s0__isOver s0__hasCauses s0__outMany s0__overMany s0__isHalted s0__levelMany s0__rounds s0__stuck s0__onRounds s0__longest s0__loudest s0__reached s0__isAnyOver s0__taped s0__at s0__ran s0_g s0_p s0_rows_e s0_sorts s0_sizes s0_outs s0_losses) := hD
  unfold fX9_run at hok
  refine lv_iload_n hx hb dX9_run_0 rfl (lv_at hl 1 rfl) ?_
  obtain ⟨r1, hq, hok⟩ := g_bnd1 hok
  refine cG (is := []) (wc := (wm_X0_find cA)) (w1 := (wm_X0_find cA)) (rv := (some (.int r1))) (st1 := [.int r1]) (va_runS (Ts := wsX9_run) (As := [.int x1]) (rest := []) ⟨hx, hb, hml, hown, hts⟩ (c_X9_isRow l G cA ts x1 r1 hq s.heap.size) (va_cwS 1 hts gX9_run_X9_isRow rfl rfl rfl (by decide +kernel) ⟨Nat.le_of_ble_eq_true rfl, Nat.le_of_ble_eq_true rfl⟩) (pre_S (is := []) hP hD hS hA hK hZ (by decide +kernel) (by rfl)) rfl rfl hl.1 rfl (by exact lv_room (Nat.le_of_ble_eq_true rfl)) dX9_run_1 ⟨Nat.le_refl _, Nat.le_refl _⟩) hP hD hS hA (by decide +kernel) (by rfl) (by rfl) rfl (fun H locs hP hD hS => ?_)
  have hP : va_P G vwCl (wm_X9_output cA h0 h0_g h0_p h0_rows h0_rows_e h0_sorts h0_sizes h0_outs h0_losses h0_kept h0_changed h0_causes h0_moved h0_levelOf h0_levelOften h0_to h0_round h0_tail h0_path h0_leastOn h0_period h0_amplitude h0_basin h0_numbered h0_isReached h0_tape h0_told h0_traced s0__isKept s0__done s0__undoable s0__redoable s0__all s0__v s0__loss s0__isOver s0__hasCauses s0__outMany s0__overMany s0__isHalted s0__levelMany s0__rounds s0__stuck s0__onRounds s0__longest s0__loudest s0__reached s0__isAnyOver s0__taped s0__at s0__ran s0_g s0_p s0_rows_e s0_sorts s0_sizes s0_outs s0_losses) H := hP
  have hD : va_D A (wm_X9_output cA h0 h0_g h0_p h0_rows h0_rows_e h0_sorts h0_sizes h0_outs h0_losses h0_kept h0_changed h0_causes h0_moved h0_levelOf h0_levelOften h0_to h0_round h0_tail h0_path h0_leastOn h0_period h0_amplitude h0_basin h0_numbered h0_isReached h0_tape h0_told h0_traced s0__isKept s0__done s0__undoable s0__redoable s0__all s0__v s0__loss s0__isOver s0__hasCauses s0__outMany s0__overMany s0__isHalted s0__levelMany s0__rounds s0__stuck s0__onRounds s0__longest s0__loudest s0__reached s0__isAnyOver s0__taped s0__at s0__ran s0_g s0_p s0_rows_e s0_sorts s0_sizes s0_outs s0_losses) := hD
  refine lv_if_eq (tgt := 19) hx hb dX9_run_4 (by decide) (fun c => ?_) (fun c => ?_)
  · replace hok := g_pos hok c
    refine lv_iconst (v := -1) hx hb dX9_run_19 (by decide) ?_
    obtain ⟨e, hok⟩ := g_pr hok
    try subst e
    obtain ⟨e, hok⟩ := g_pr hok
    try subst e
    obtain ⟨e, hok⟩ := g_pr hok
    try subst e
    obtain ⟨e, hok⟩ := g_pr hok
    try subst e
    obtain ⟨e, hok⟩ := g_pr hok
    try subst e
    obtain ⟨e, hok⟩ := g_pr hok
    try subst e
    obtain ⟨e, hok⟩ := g_pr hok
    try subst e
    obtain ⟨e, hok⟩ := g_pr hok
    try subst e
    obtain ⟨e, hok⟩ := g_pr hok
    try subst e
    obtain ⟨e, hok⟩ := g_pr hok
    try subst e
    cases hok
    exact cr_i hx hb hr hlocks hQ dX9_run_20 hP hS
  replace hok := g_neg hok c
  refine lv_iload_n hx hb dX9_run_7 rfl (lv_at hl 2 rfl) ?_
  refine lv_i2l (v := (x2.toInt64)) hx hb dX9_run_8 rfl ?_
  refine lv_lconst (v := 0) hx hb dX9_run_9 (by decide) ?_
  refine lv_ldc2 (v := 2) hx hb hown (hts _ (List.mem_of_getElem? (i := 1) rfl)) dX9_run_10 ?_
  obtain ⟨r2, hq, hok⟩ := g_bnd1 hok
  refine cG (is := []) (wc := (wm_X0_find cA)) (w1 := (wm_X0_find cA)) (rv := (some (.int r2))) (st1 := [.int r2]) (va_runS (Ts := wsX9_run) (As := [.long (x2.toInt64), .long (0:Int64), .long (2:Int64)]) (rest := []) ⟨hx, hb, hml, hown, hts⟩ (c_X9_in l G cA ts (x2.toInt64) (0:Int64) (2:Int64) r2 hq H.size) (va_cwS 3 hts gX9_run_X9_in rfl rfl rfl (by decide +kernel) ⟨Nat.le_of_ble_eq_true rfl, Nat.le_of_ble_eq_true rfl⟩) (pre_S (is := []) hP hD hS hA hK hZ (by decide +kernel) (by rfl)) rfl rfl hl.1 rfl (by exact lv_room (Nat.le_of_ble_eq_true rfl)) dX9_run_13 ⟨Nat.le_refl _, Nat.le_refl _⟩) hP hD hS hA (by decide +kernel) (by rfl) (by rfl) rfl (fun H locs hP hD hS => ?_)
  have hP : va_P G vwCl (wm_X9_output cA h0 h0_g h0_p h0_rows h0_rows_e h0_sorts h0_sizes h0_outs h0_losses h0_kept h0_changed h0_causes h0_moved h0_levelOf h0_levelOften h0_to h0_round h0_tail h0_path h0_leastOn h0_period h0_amplitude h0_basin h0_numbered h0_isReached h0_tape h0_told h0_traced s0__isKept s0__done s0__undoable s0__redoable s0__all s0__v s0__loss s0__isOver s0__hasCauses s0__outMany s0__overMany s0__isHalted s0__levelMany s0__rounds s0__stuck s0__onRounds s0__longest s0__loudest s0__reached s0__isAnyOver s0__taped s0__at s0__ran s0_g s0_p s0_rows_e s0_sorts s0_sizes s0_outs s0_losses) H := hP
  have hD : va_D A (wm_X9_output cA h0 h0_g h0_p h0_rows h0_rows_e h0_sorts h0_sizes h0_outs h0_losses h0_kept h0_changed h0_causes h0_moved h0_levelOf h0_levelOften h0_to h0_round h0_tail h0_path h0_leastOn h0_period h0_amplitude h0_basin h0_numbered h0_isReached h0_tape h0_told h0_traced s0__isKept s0__done s0__undoable s0__redoable s0__all s0__v s0__loss s0__isOver s0__hasCauses s0__outMany s0__overMany s0__isHalted s0__levelMany s0__rounds s0__stuck s0__onRounds s0__longest s0__loudest s0__reached s0__isAnyOver s0__taped s0__at s0__ran s0_g s0_p s0_rows_e s0_sorts s0_sizes s0_outs s0_losses) := hD
  refine lv_if_ne (tgt := 21) hx hb dX9_run_16 (by decide) (fun c => ?_) (fun c => ?_)
  · replace hok := g_neg hok c
    refine lv_aload_n hx hb dX9_run_21 rfl (lv_at hl 0 rfl) ?_
    refine va_get (ci := 9) (v := .ref h0_sorts) (C := RX9) (T := TX9) (N := 49) hx hb hts hinX9 hown hK hP 0 rfl rfl 15 (by decide) (hts _ (List.mem_of_getElem? (i := 2) rfl)) (fun _ h9 => h9) rfl dX9_run_22 ?_
    refine lv_iload_n hx hb dX9_run_25 rfl (lv_at hl 1 rfl) ?_
    obtain ⟨hin, hok⟩ := g_no hok
    refine x_iald (k := x1.toNatClampNeg) hx hb hK hP 8 0 rfl rfl hin rfl dX9_run_26 ?_
    refine lv_if_ge (tgt := 33) hx hb dX9_run_27 (by decide) (fun c => ?_) (fun c => ?_)
    · replace hok := g_pos hok c
      refine lv_aload_n hx hb dX9_run_33 rfl (lv_at hl 0 rfl) ?_
      refine lv_iload_n hx hb dX9_run_34 rfl (lv_at hl 1 rfl) ?_
      obtain ⟨o3, o4, o5, o6, o7, o8, o9, o10, o11, o12, hq, hok⟩ := g_bnd10 hok
      refine cG (is := [0, 1, 2, 3, 4, 5, 6, 7, 9, 10, 11]) (wc := (wm_X9_runs cA h0 h0_g h0_p h0_rows h0_rows_e h0_sizes h0_outs h0_losses h0_kept h0_changed h0_causes h0_sorts h0_moved h0_levelOf h0_levelOften h0_to h0_round h0_tail h0_path h0_leastOn h0_period h0_amplitude h0_basin h0_numbered h0_isReached h0_tape h0_told h0_traced s0__isKept s0__done s0__undoable s0__redoable s0__all s0__v s0__loss s0__isOver s0__hasCauses s0__outMany s0__overMany s0__isHalted s0__levelMany s0__rounds s0__stuck s0__onRounds s0__longest s0__loudest s0__reached s0__isAnyOver s0__taped s0__at s0__ran s0_g s0_p s0_rows_e s0_sizes s0_outs s0_losses)) (w1 := (wm_X9_runs cA h0 h0_g h0_p h0_rows h0_rows_e h0_sizes h0_outs h0_losses h0_kept h0_changed h0_causes h0_sorts h0_moved h0_levelOf h0_levelOften h0_to h0_round h0_tail h0_path h0_leastOn h0_period h0_amplitude h0_basin h0_numbered h0_isReached h0_tape h0_told h0_traced s0__isKept s0__done s0__undoable s0__redoable o3 o4 o5 o6 s0__hasCauses o7 o8 o9 s0__levelMany s0__rounds s0__stuck s0__onRounds s0__longest s0__loudest s0__reached s0__isAnyOver s0__taped s0__at s0__ran s0_g o10 s0_rows_e s0_sizes o11 o12)) (rv := none) (st1 := []) (va_runV (Ts := wsX9_run) (As := [.int x1]) (rest := []) ⟨hx, hb, hml, hown, hts⟩ (c_X9_runs l G cA ts h0 h0_g h0_p h0_rows h0_rows_e h0_sizes h0_outs h0_losses h0_kept h0_changed h0_causes h0_sorts h0_moved h0_levelOf h0_levelOften h0_to h0_round h0_tail h0_path h0_leastOn h0_period h0_amplitude h0_basin h0_numbered h0_isReached h0_tape h0_told h0_traced x1 s0__isKept s0__done s0__undoable s0__redoable s0__all s0__v s0__loss s0__isOver s0__hasCauses s0__outMany s0__overMany s0__isHalted s0__levelMany s0__rounds s0__stuck s0__onRounds s0__longest s0__loudest s0__reached s0__isAnyOver s0__taped s0__at s0__ran s0_g s0_p s0_rows_e s0_sizes s0_outs s0_losses o3 o4 o5 o6 o7 o8 o9 o10 o11 o12 hq H.size) (cwV 1 hts gX9_run_X9_runs rfl rfl rfl (by decide +kernel) ⟨Nat.le_of_ble_eq_true rfl, Nat.le_of_ble_eq_true rfl⟩) (pre_V (ci := 9) (q0 := 0) (is := [0, 1, 2, 3, 4, 5, 6, 7, 9, 10, 11]) rfl rfl hP hD hS hA hK hZ (by decide +kernel) (by rfl)) rfl rfl hl.1 rfl (by exact lv_room (Nat.le_of_ble_eq_true rfl)) dX9_run_35 ⟨Nat.le_refl _, Nat.le_refl _⟩) hP hD hS hA (by decide +kernel) (by rfl) (by rfl) rfl (fun H locs hP hD hS => ?_)
      obtain ⟨hP, hD⟩ : va_P G vwCl (wm_X9_output cA h0 h0_g h0_p h0_rows h0_rows_e h0_sorts h0_sizes h0_outs h0_losses h0_kept h0_changed h0_causes h0_moved h0_levelOf h0_levelOften h0_to h0_round h0_tail h0_path h0_leastOn h0_period h0_amplitude h0_basin h0_numbered h0_isReached h0_tape h0_told h0_traced s0__isKept s0__done s0__undoable s0__redoable o3 o4 o5 o6 s0__hasCauses o7 o8 o9 s0__levelMany s0__rounds s0__stuck s0__onRounds s0__longest s0__loudest s0__reached s0__isAnyOver s0__taped s0__at s0__ran s0_g o10 s0_rows_e s0_sorts s0_sizes o11 o12) H ∧ va_D A (wm_X9_output cA h0 h0_g h0_p h0_rows h0_rows_e h0_sorts h0_sizes h0_outs h0_losses h0_kept h0_changed h0_causes h0_moved h0_levelOf h0_levelOften h0_to h0_round h0_tail h0_path h0_leastOn h0_period h0_amplitude h0_basin h0_numbered h0_isReached h0_tape h0_told h0_traced s0__isKept s0__done s0__undoable s0__redoable o3 o4 o5 o6 s0__hasCauses o7 o8 o9 s0__levelMany s0__rounds s0__stuck s0__onRounds s0__longest s0__loudest s0__reached s0__isAnyOver s0__taped s0__at s0__ran s0_g o10 s0_rows_e s0_sorts s0_sizes o11 o12) := PD_eq hP hD (rp_eq (js := [8]) 12 (by decide +kernel) rfl rfl (by rfl) (by rfl) (by decide +kernel))
      refine lv_iload_n hx hb dX9_run_38 rfl (lv_at hl 2 rfl) ?_
      refine lv_if_ne (tgt := 49) hx hb dX9_run_39 (by decide) (fun c => ?_) (fun c => ?_)
      · replace hok := g_neg hok c
        refine lv_iload_n hx hb dX9_run_49 rfl (lv_at hl 2 rfl) ?_
        refine lv_iconst (v := 1) hx hb dX9_run_50 (by decide) ?_
        refine lv_icmp_ne (tgt := 61) hx hb dX9_run_51 (by decide) (fun c => ?_) (fun c => ?_)
        · replace hok := g_neg hok c
          refine lv_aload_n hx hb dX9_run_61 rfl (lv_at hl 0 rfl) ?_
          refine va_get (ci := 9) (v := .int o9) (C := RX9) (T := TX9) (N := 49) hx hb hts hinX9 hown hK hP 0 rfl rfl 22 (by decide) (hts _ (List.mem_of_getElem? (i := 5) rfl)) (fun _ h9 => h9) rfl dX9_run_62 ?_
          refine lv_if_eq (tgt := 72) hx hb dX9_run_65 (by decide) (fun c => ?_) (fun c => ?_)
          · replace hok := g_pos hok c
            refine lv_iconst (v := 0) hx hb dX9_run_72 (by decide) ?_
            obtain ⟨e, hok⟩ := g_pr hok
            try subst e
            obtain ⟨e, hok⟩ := g_pr hok
            try subst e
            obtain ⟨e, hok⟩ := g_pr hok
            try subst e
            obtain ⟨e, hok⟩ := g_pr hok
            try subst e
            obtain ⟨e, hok⟩ := g_pr hok
            try subst e
            obtain ⟨e, hok⟩ := g_pr hok
            try subst e
            obtain ⟨e, hok⟩ := g_pr hok
            try subst e
            obtain ⟨e, hok⟩ := g_pr hok
            try subst e
            obtain ⟨e, hok⟩ := g_pr hok
            try subst e
            obtain ⟨e, hok⟩ := g_pr hok
            try subst e
            cases hok
            exact cr_i hx hb hr hlocks hQ dX9_run_73 hP hS
          replace hok := g_neg hok c
          refine lv_iconst (v := 1) hx hb dX9_run_68 (by decide) ?_
          refine lv_goto (tgt := 73) hx hb dX9_run_69 (by decide) ?_
          obtain ⟨e, hok⟩ := g_pr hok
          try subst e
          obtain ⟨e, hok⟩ := g_pr hok
          try subst e
          obtain ⟨e, hok⟩ := g_pr hok
          try subst e
          obtain ⟨e, hok⟩ := g_pr hok
          try subst e
          obtain ⟨e, hok⟩ := g_pr hok
          try subst e
          obtain ⟨e, hok⟩ := g_pr hok
          try subst e
          obtain ⟨e, hok⟩ := g_pr hok
          try subst e
          obtain ⟨e, hok⟩ := g_pr hok
          try subst e
          obtain ⟨e, hok⟩ := g_pr hok
          try subst e
          obtain ⟨e, hok⟩ := g_pr hok
          try subst e
          cases hok
          exact cr_i hx hb hr hlocks hQ dX9_run_73 hP hS
        replace hok := g_pos hok c
        refine lv_aload_n hx hb dX9_run_54 rfl (lv_at hl 0 rfl) ?_
        refine va_get (ci := 9) (v := .int o8) (C := RX9) (T := TX9) (N := 49) hx hb hts hinX9 hown hK hP 0 rfl rfl 21 (by decide) (hts _ (List.mem_of_getElem? (i := 4) rfl)) (fun _ h9 => h9) rfl dX9_run_55 ?_
        refine lv_goto (tgt := 73) hx hb dX9_run_58 (by decide) ?_
        obtain ⟨e, hok⟩ := g_pr hok
        try subst e
        obtain ⟨e, hok⟩ := g_pr hok
        try subst e
        obtain ⟨e, hok⟩ := g_pr hok
        try subst e
        obtain ⟨e, hok⟩ := g_pr hok
        try subst e
        obtain ⟨e, hok⟩ := g_pr hok
        try subst e
        obtain ⟨e, hok⟩ := g_pr hok
        try subst e
        obtain ⟨e, hok⟩ := g_pr hok
        try subst e
        obtain ⟨e, hok⟩ := g_pr hok
        try subst e
        obtain ⟨e, hok⟩ := g_pr hok
        try subst e
        obtain ⟨e, hok⟩ := g_pr hok
        try subst e
        cases hok
        exact cr_i hx hb hr hlocks hQ dX9_run_73 hP hS
      replace hok := g_pos hok c
      refine lv_aload_n hx hb dX9_run_42 rfl (lv_at hl 0 rfl) ?_
      refine va_get (ci := 9) (v := .int o7) (C := RX9) (T := TX9) (N := 49) hx hb hts hinX9 hown hK hP 0 rfl rfl 20 (by decide) (hts _ (List.mem_of_getElem? (i := 3) rfl)) (fun _ h9 => h9) rfl dX9_run_43 ?_
      refine lv_goto (tgt := 73) hx hb dX9_run_46 (by decide) ?_
      obtain ⟨e, hok⟩ := g_pr hok
      try subst e
      obtain ⟨e, hok⟩ := g_pr hok
      try subst e
      obtain ⟨e, hok⟩ := g_pr hok
      try subst e
      obtain ⟨e, hok⟩ := g_pr hok
      try subst e
      obtain ⟨e, hok⟩ := g_pr hok
      try subst e
      obtain ⟨e, hok⟩ := g_pr hok
      try subst e
      obtain ⟨e, hok⟩ := g_pr hok
      try subst e
      obtain ⟨e, hok⟩ := g_pr hok
      try subst e
      obtain ⟨e, hok⟩ := g_pr hok
      try subst e
      obtain ⟨e, hok⟩ := g_pr hok
      try subst e
      cases hok
      exact cr_i hx hb hr hlocks hQ dX9_run_73 hP hS
    replace hok := g_neg hok c
    refine lv_bipush (v := -11) hx hb dX9_run_30 (by decide) ?_
    obtain ⟨e, hok⟩ := g_pr hok
    try subst e
    obtain ⟨e, hok⟩ := g_pr hok
    try subst e
    obtain ⟨e, hok⟩ := g_pr hok
    try subst e
    obtain ⟨e, hok⟩ := g_pr hok
    try subst e
    obtain ⟨e, hok⟩ := g_pr hok
    try subst e
    obtain ⟨e, hok⟩ := g_pr hok
    try subst e
    obtain ⟨e, hok⟩ := g_pr hok
    try subst e
    obtain ⟨e, hok⟩ := g_pr hok
    try subst e
    obtain ⟨e, hok⟩ := g_pr hok
    try subst e
    obtain ⟨e, hok⟩ := g_pr hok
    try subst e
    cases hok
    exact cr_i hx hb hr hlocks hQ dX9_run_32 hP hS
  replace hok := g_pos hok c
  refine lv_iconst (v := -1) hx hb dX9_run_19 (by decide) ?_
  obtain ⟨e, hok⟩ := g_pr hok
  try subst e
  obtain ⟨e, hok⟩ := g_pr hok
  try subst e
  obtain ⟨e, hok⟩ := g_pr hok
  try subst e
  obtain ⟨e, hok⟩ := g_pr hok
  try subst e
  obtain ⟨e, hok⟩ := g_pr hok
  try subst e
  obtain ⟨e, hok⟩ := g_pr hok
  try subst e
  obtain ⟨e, hok⟩ := g_pr hok
  try subst e
  obtain ⟨e, hok⟩ := g_pr hok
  try subst e
  obtain ⟨e, hok⟩ := g_pr hok
  try subst e
  obtain ⟨e, hok⟩ := g_pr hok
  try subst e
  cases hok
  exact cr_i hx hb hr hlocks hQ dX9_run_20 hP hS
set_option maxHeartbeats 40000000 in
set_option maxRecDepth 100000 in
theorem c_X9_go (l : Launch) (G : va_G) (cA : Nat → ClassId) (ts : Nat → Nat) (h0 : Nat) (h0_g : Nat) (h0_p : Nat) (h0_causes : Nat) (h0_rows : Nat) (h0_rows_e : Nat → Nat) (h0_sorts : Nat) (h0_sizes : Nat) (h0_outs : Nat) (h0_losses : Nat) (h0_kept : Nat) (h0_changed : Nat) (h0_moved : Nat) (h0_levelOf : Nat) (h0_levelOften : Nat) (h0_to : Nat) (h0_round : Nat) (h0_tail : Nat) (h0_path : Nat) (h0_leastOn : Nat) (h0_period : Nat) (h0_amplitude : Nat) (h0_basin : Nat) (h0_numbered : Nat) (h0_isReached : Nat) (h0_tape : Nat) (h0_told : Nat) (h0_traced : Nat) (x1 : Int32) (s0__isKept : Int32) (s0__done : Int32) (s0__undoable : Int32) (s0__redoable : Int32) (s0__all : Int32) (s0__v : Int32) (s0__loss : Int32) (s0__isOver : Int32) (s0__hasCauses : Int32) (s0__outMany : Int32) (s0__overMany : Int32) (s0__isHalted : Int32) (s0__levelMany : Int32) (s0__rounds : Int32) (s0__stuck : Int32) (s0__onRounds : Int32) (s0__longest : Int32) (s0__loudest : Int32) (s0__reached : Int32) (s0__isAnyOver : Int32) (s0__taped : Int32) (s0__at : Int32) (s0__ran : Int32) (s0_g : Nat → Int32) (s0_p : Nat → Int32) (s0_causes : Nat → Int32) (s0_rows_e : Nat → Nat → Int64) (s0_sorts : Nat → Int32) (s0_sizes : Nat → Int32) (s0_outs : Nat → Int32) (s0_losses : Nat → Int32) (r : Int32) (o0__done : Int32) (o0__all : Int32) (o0__v : Int32) (o0__loss : Int32) (o0__isOver : Int32) (o0__hasCauses : Int32) (o0__outMany : Int32) (o0__overMany : Int32) (o0__isHalted : Int32) (o0_g : Nat → Int32) (o0_p : Nat → Int32) (o0_causes : Nat → Int32) (o0_outs : Nat → Int32) (o0_losses : Nat → Int32) (hok : fX9_go x1 s0__done s0__all s0__v s0__loss s0__isOver s0__hasCauses s0__outMany s0__overMany s0__isHalted s0_g s0_p s0_causes s0_rows_e s0_sorts s0_sizes s0_outs s0_losses = some (r, o0__done, o0__all, o0__v, o0__loss, o0__isOver, o0__hasCauses, o0__outMany, o0__overMany, o0__isHalted, o0_g, o0_p, o0_causes, o0_outs, o0_losses)) : Ct l G cA ts yX9_go wsX9_go 5 134 [.ref h0, .int x1] (wm_X9_go cA h0 h0_g h0_p h0_causes h0_rows h0_rows_e h0_sorts h0_sizes h0_outs h0_losses h0_kept h0_changed h0_moved h0_levelOf h0_levelOften h0_to h0_round h0_tail h0_path h0_leastOn h0_period h0_amplitude h0_basin h0_numbered h0_isReached h0_tape h0_told h0_traced s0__isKept s0__done s0__undoable s0__redoable s0__all s0__v s0__loss s0__isOver s0__hasCauses s0__outMany s0__overMany s0__isHalted s0__levelMany s0__rounds s0__stuck s0__onRounds s0__longest s0__loudest s0__reached s0__isAnyOver s0__taped s0__at s0__ran s0_g s0_p s0_causes s0_rows_e s0_sorts s0_sizes s0_outs s0_losses) (wm_X9_go cA h0 h0_g h0_p h0_causes h0_rows h0_rows_e h0_sorts h0_sizes h0_outs h0_losses h0_kept h0_changed h0_moved h0_levelOf h0_levelOften h0_to h0_round h0_tail h0_path h0_leastOn h0_period h0_amplitude h0_basin h0_numbered h0_isReached h0_tape h0_told h0_traced s0__isKept o0__done s0__undoable s0__redoable o0__all o0__v o0__loss o0__isOver o0__hasCauses o0__outMany o0__overMany o0__isHalted s0__levelMany s0__rounds s0__stuck s0__onRounds s0__longest s0__loudest s0__reached s0__isAnyOver s0__taped s0__at s0__ran o0_g o0_p o0_causes s0_rows_e s0_sorts s0_sizes o0_outs o0_losses) (some (.int r)) := by
  refine Ct.intro (cc := cX9_go) (maxL := 2) (ret := some .int) (by decide +kernel) rfl (Nat.le_of_ble_eq_true rfl) ?_
  intro p e s m ar below meth c A Q hx hb hr hml hown hlocks hts hK hZ hA hQ hP hD hS ls hl
  have hown : s.vm.findClass RX9 = some m.cls := hown
  have hinX9 : ∀ w ∈ wsX90, w ∈ wsX9_go := fun _ h => List.mem_cons_of_mem _ (List.mem_append_right _ (h))
  have hl : lv_has ls 2 [(0, .ref h0), (1, .int x1)] := hl
  have hP : va_P G vwCl (wm_X9_go cA h0 h0_g h0_p h0_causes h0_rows h0_rows_e h0_sorts h0_sizes h0_outs h0_losses h0_kept h0_changed h0_moved h0_levelOf h0_levelOften h0_to h0_round h0_tail h0_path h0_leastOn h0_period h0_amplitude h0_basin h0_numbered h0_isReached h0_tape h0_told h0_traced s0__isKept s0__done s0__undoable s0__redoable s0__all s0__v s0__loss s0__isOver s0__hasCauses s0__outMany s0__overMany s0__isHalted s0__levelMany s0__rounds s0__stuck s0__onRounds s0__longest s0__loudest s0__reached s0__isAnyOver s0__taped s0__at s0__ran s0_g s0_p s0_causes s0_rows_e s0_sorts s0_sizes s0_outs s0_losses) s.heap := hP
  have hD : va_D A (wm_X9_go cA h0 h0_g h0_p h0_causes h0_rows h0_rows_e h0_sorts h0_sizes h0_outs h0_losses h0_kept h0_changed h0_moved h0_levelOf h0_levelOften h0_to h0_round h0_tail h0_path h0_leastOn h0_period h0_amplitude h0_basin h0_numbered h0_isReached h0_tape h0_told h0_traced s0__isKept s0__done s0__undoable s0__redoable s0__all s0__v s0__loss s0__isOver s0__hasCauses s0__outMany s0__overMany s0__isHalted s0__levelMany s0__rounds s0__stuck s0__onRounds s0__longest s0__loudest s0__reached s0__isAnyOver s0__taped s0__at s0__ran s0_g s0_p s0_causes s0_rows_e s0_sorts s0_sizes s0_outs s0_losses) := hD
  unfold fX9_go at hok
  refine lv_iload_n hx hb dX9_go_0 rfl (lv_at hl 1 rfl) ?_
  obtain ⟨r1, hq, hok⟩ := g_bnd1 hok
  refine cG (is := []) (wc := (wm_X0_find cA)) (w1 := (wm_X0_find cA)) (rv := (some (.int r1))) (st1 := [.int r1]) (va_runS (Ts := wsX9_go) (As := [.int x1]) (rest := []) ⟨hx, hb, hml, hown, hts⟩ (c_X9_isRow l G cA ts x1 r1 hq s.heap.size) (va_cwS 1 hts gX9_go_X9_isRow rfl rfl rfl (by decide +kernel) ⟨Nat.le_of_ble_eq_true rfl, Nat.le_of_ble_eq_true rfl⟩) (pre_S (is := []) hP hD hS hA hK hZ (by decide +kernel) (by rfl)) rfl rfl hl.1 rfl (by exact lv_room (Nat.le_of_ble_eq_true rfl)) dX9_go_1 ⟨Nat.le_refl _, Nat.le_refl _⟩) hP hD hS hA (by decide +kernel) (by rfl) (by rfl) rfl (fun H locs hP hD hS => ?_)
  have hP : va_P G vwCl (wm_X9_go cA h0 h0_g h0_p h0_causes h0_rows h0_rows_e h0_sorts h0_sizes h0_outs h0_losses h0_kept h0_changed h0_moved h0_levelOf h0_levelOften h0_to h0_round h0_tail h0_path h0_leastOn h0_period h0_amplitude h0_basin h0_numbered h0_isReached h0_tape h0_told h0_traced s0__isKept s0__done s0__undoable s0__redoable s0__all s0__v s0__loss s0__isOver s0__hasCauses s0__outMany s0__overMany s0__isHalted s0__levelMany s0__rounds s0__stuck s0__onRounds s0__longest s0__loudest s0__reached s0__isAnyOver s0__taped s0__at s0__ran s0_g s0_p s0_causes s0_rows_e s0_sorts s0_sizes s0_outs s0_losses) H := hP
  have hD : va_D A (wm_X9_go cA h0 h0_g h0_p h0_causes h0_rows h0_rows_e h0_sorts h0_sizes h0_outs h0_losses h0_kept h0_changed h0_moved h0_levelOf h0_levelOften h0_to h0_round h0_tail h0_path h0_leastOn h0_period h0_amplitude h0_basin h0_numbered h0_isReached h0_tape h0_told h0_traced s0__isKept s0__done s0__undoable s0__redoable s0__all s0__v s0__loss s0__isOver s0__hasCauses s0__outMany s0__overMany s0__isHalted s0__levelMany s0__rounds s0__stuck s0__onRounds s0__longest s0__loudest s0__reached s0__isAnyOver s0__taped s0__at s0__ran s0_g s0_p s0_causes s0_rows_e s0_sorts s0_sizes s0_outs s0_losses) := hD
  refine lv_if_ne (tgt := 9) hx hb dX9_go_4 (by decide) (fun c => ?_) (fun c => ?_)
  · replace hok := g_neg hok c
    refine lv_aload_n hx hb dX9_go_9 rfl (lv_at hl 0 rfl) ?_
    refine va_get (ci := 9) (v := .ref h0_sorts) (C := RX9) (T := TX9) (N := 49) hx hb hts hinX9 hown hK hP 0 rfl rfl 15 (by decide) (hts _ (List.mem_of_getElem? (i := 1) rfl)) (fun _ h9 => h9) rfl dX9_go_10 ?_
    refine lv_iload_n hx hb dX9_go_13 rfl (lv_at hl 1 rfl) ?_
    obtain ⟨hin, hok⟩ := g_no hok
    refine x_iald (k := x1.toNatClampNeg) hx hb hK hP 9 0 rfl rfl hin rfl dX9_go_14 ?_
    refine lv_if_ge (tgt := 21) hx hb dX9_go_15 (by decide) (fun c => ?_) (fun c => ?_)
    · replace hok := g_pos hok c
      refine lv_aload_n hx hb dX9_go_21 rfl (lv_at hl 0 rfl) ?_
      refine lv_iload_n hx hb dX9_go_22 rfl (lv_at hl 1 rfl) ?_
      obtain ⟨o2, o3, o4, o5, o6, o7, o8, o9, o10, o11, hq, hok⟩ := g_bnd10 hok
      refine cG (is := [0, 1, 2, 4, 5, 6, 7, 8, 10, 11, 12]) (wc := (wm_X9_runs cA h0 h0_g h0_p h0_rows h0_rows_e h0_sizes h0_outs h0_losses h0_kept h0_changed h0_causes h0_sorts h0_moved h0_levelOf h0_levelOften h0_to h0_round h0_tail h0_path h0_leastOn h0_period h0_amplitude h0_basin h0_numbered h0_isReached h0_tape h0_told h0_traced s0__isKept s0__done s0__undoable s0__redoable s0__all s0__v s0__loss s0__isOver s0__hasCauses s0__outMany s0__overMany s0__isHalted s0__levelMany s0__rounds s0__stuck s0__onRounds s0__longest s0__loudest s0__reached s0__isAnyOver s0__taped s0__at s0__ran s0_g s0_p s0_rows_e s0_sizes s0_outs s0_losses)) (w1 := (wm_X9_runs cA h0 h0_g h0_p h0_rows h0_rows_e h0_sizes h0_outs h0_losses h0_kept h0_changed h0_causes h0_sorts h0_moved h0_levelOf h0_levelOften h0_to h0_round h0_tail h0_path h0_leastOn h0_period h0_amplitude h0_basin h0_numbered h0_isReached h0_tape h0_told h0_traced s0__isKept s0__done s0__undoable s0__redoable o2 o3 o4 o5 s0__hasCauses o6 o7 o8 s0__levelMany s0__rounds s0__stuck s0__onRounds s0__longest s0__loudest s0__reached s0__isAnyOver s0__taped s0__at s0__ran s0_g o9 s0_rows_e s0_sizes o10 o11)) (rv := none) (st1 := []) (va_runV (Ts := wsX9_go) (As := [.int x1]) (rest := []) ⟨hx, hb, hml, hown, hts⟩ (c_X9_runs l G cA ts h0 h0_g h0_p h0_rows h0_rows_e h0_sizes h0_outs h0_losses h0_kept h0_changed h0_causes h0_sorts h0_moved h0_levelOf h0_levelOften h0_to h0_round h0_tail h0_path h0_leastOn h0_period h0_amplitude h0_basin h0_numbered h0_isReached h0_tape h0_told h0_traced x1 s0__isKept s0__done s0__undoable s0__redoable s0__all s0__v s0__loss s0__isOver s0__hasCauses s0__outMany s0__overMany s0__isHalted s0__levelMany s0__rounds s0__stuck s0__onRounds s0__longest s0__loudest s0__reached s0__isAnyOver s0__taped s0__at s0__ran s0_g s0_p s0_rows_e s0_sizes s0_outs s0_losses o2 o3 o4 o5 o6 o7 o8 o9 o10 o11 hq H.size) (cwV 1 hts gX9_go_X9_runs rfl rfl rfl (by decide +kernel) ⟨Nat.le_of_ble_eq_true rfl, Nat.le_of_ble_eq_true rfl⟩) (pre_V (ci := 9) (q0 := 0) (is := [0, 1, 2, 4, 5, 6, 7, 8, 10, 11, 12]) rfl rfl hP hD hS hA hK hZ (by decide +kernel) (by rfl)) rfl rfl hl.1 rfl (by exact lv_room (Nat.le_of_ble_eq_true rfl)) dX9_go_23 ⟨Nat.le_refl _, Nat.le_refl _⟩) hP hD hS hA (by decide +kernel) (by rfl) (by rfl) rfl (fun H locs hP hD hS => ?_)
      obtain ⟨hP, hD⟩ : va_P G vwCl (wm_X9_go cA h0 h0_g h0_p h0_causes h0_rows h0_rows_e h0_sorts h0_sizes h0_outs h0_losses h0_kept h0_changed h0_moved h0_levelOf h0_levelOften h0_to h0_round h0_tail h0_path h0_leastOn h0_period h0_amplitude h0_basin h0_numbered h0_isReached h0_tape h0_told h0_traced s0__isKept s0__done s0__undoable s0__redoable o2 o3 o4 o5 s0__hasCauses o6 o7 o8 s0__levelMany s0__rounds s0__stuck s0__onRounds s0__longest s0__loudest s0__reached s0__isAnyOver s0__taped s0__at s0__ran s0_g o9 s0_causes s0_rows_e s0_sorts s0_sizes o10 o11) H ∧ va_D A (wm_X9_go cA h0 h0_g h0_p h0_causes h0_rows h0_rows_e h0_sorts h0_sizes h0_outs h0_losses h0_kept h0_changed h0_moved h0_levelOf h0_levelOften h0_to h0_round h0_tail h0_path h0_leastOn h0_period h0_amplitude h0_basin h0_numbered h0_isReached h0_tape h0_told h0_traced s0__isKept s0__done s0__undoable s0__redoable o2 o3 o4 o5 s0__hasCauses o6 o7 o8 s0__levelMany s0__rounds s0__stuck s0__onRounds s0__longest s0__loudest s0__reached s0__isAnyOver s0__taped s0__at s0__ran s0_g o9 s0_causes s0_rows_e s0_sorts s0_sizes o10 o11) := PD_eq hP hD (rp_eq (js := [3, 9]) 13 (by decide +kernel) rfl rfl (by rfl) (by rfl) (by decide +kernel))
      refine lv_aload_n hx hb dX9_go_26 rfl (lv_at hl 0 rfl) ?_
      obtain ⟨o12, hq, hok⟩ := g_bnd1 hok
      refine cG (is := [0, 1, 2]) (wc := (wm_X9_begins cA h0 h0_g h0_p h0_kept h0_changed h0_causes h0_rows h0_sorts h0_sizes h0_moved h0_outs h0_losses h0_levelOf h0_levelOften h0_to h0_round h0_tail h0_path h0_leastOn h0_period h0_amplitude h0_basin h0_numbered h0_isReached h0_tape h0_told h0_traced s0__isKept s0__done s0__undoable s0__redoable o2 o3 o4 o5 s0__hasCauses o6 o7 o8 s0__levelMany s0__rounds s0__stuck s0__onRounds s0__longest s0__loudest s0__reached s0__isAnyOver s0__taped s0__at s0__ran s0_g o9)) (w1 := (wm_X9_begins cA h0 h0_g h0_p h0_kept h0_changed h0_causes h0_rows h0_sorts h0_sizes h0_moved h0_outs h0_losses h0_levelOf h0_levelOften h0_to h0_round h0_tail h0_path h0_leastOn h0_period h0_amplitude h0_basin h0_numbered h0_isReached h0_tape h0_told h0_traced s0__isKept s0__done s0__undoable s0__redoable o2 o3 o4 o5 s0__hasCauses o6 o7 o8 s0__levelMany s0__rounds s0__stuck s0__onRounds s0__longest s0__loudest s0__reached s0__isAnyOver s0__taped s0__at s0__ran o12 o9)) (rv := none) (st1 := []) (va_runV (Ts := wsX9_go) (As := []) (rest := []) ⟨hx, hb, hml, hown, hts⟩ (c_X9_lays l G cA ts h0 h0_g h0_p h0_kept h0_changed h0_causes h0_rows h0_sorts h0_sizes h0_moved h0_outs h0_losses h0_levelOf h0_levelOften h0_to h0_round h0_tail h0_path h0_leastOn h0_period h0_amplitude h0_basin h0_numbered h0_isReached h0_tape h0_told h0_traced s0__isKept s0__done s0__undoable s0__redoable o2 o3 o4 o5 s0__hasCauses o6 o7 o8 s0__levelMany s0__rounds s0__stuck s0__onRounds s0__longest s0__loudest s0__reached s0__isAnyOver s0__taped s0__at s0__ran s0_g o9 o12 hq H.size) (cwV 0 hts gX9_go_X9_lays rfl rfl rfl (by decide +kernel) ⟨Nat.le_of_ble_eq_true rfl, Nat.le_of_ble_eq_true rfl⟩) (pre_V (ci := 9) (q0 := 0) (is := [0, 1, 2]) rfl rfl hP hD hS hA hK hZ (by decide +kernel) (by rfl)) rfl rfl hl.1 rfl (by exact lv_room (Nat.le_of_ble_eq_true rfl)) dX9_go_27 ⟨Nat.le_refl _, Nat.le_refl _⟩) hP hD hS hA (by decide +kernel) (by rfl) (by rfl) rfl (fun H locs hP hD hS => ?_)
      have hP : va_P G vwCl (wm_X9_go cA h0 h0_g h0_p h0_causes h0_rows h0_rows_e h0_sorts h0_sizes h0_outs h0_losses h0_kept h0_changed h0_moved h0_levelOf h0_levelOften h0_to h0_round h0_tail h0_path h0_leastOn h0_period h0_amplitude h0_basin h0_numbered h0_isReached h0_tape h0_told h0_traced s0__isKept s0__done s0__undoable s0__redoable o2 o3 o4 o5 s0__hasCauses o6 o7 o8 s0__levelMany s0__rounds s0__stuck s0__onRounds s0__longest s0__loudest s0__reached s0__isAnyOver s0__taped s0__at s0__ran o12 o9 s0_causes s0_rows_e s0_sorts s0_sizes o10 o11) H := hP
      have hD : va_D A (wm_X9_go cA h0 h0_g h0_p h0_causes h0_rows h0_rows_e h0_sorts h0_sizes h0_outs h0_losses h0_kept h0_changed h0_moved h0_levelOf h0_levelOften h0_to h0_round h0_tail h0_path h0_leastOn h0_period h0_amplitude h0_basin h0_numbered h0_isReached h0_tape h0_told h0_traced s0__isKept s0__done s0__undoable s0__redoable o2 o3 o4 o5 s0__hasCauses o6 o7 o8 s0__levelMany s0__rounds s0__stuck s0__onRounds s0__longest s0__loudest s0__reached s0__isAnyOver s0__taped s0__at s0__ran o12 o9 s0_causes s0_rows_e s0_sorts s0_sizes o10 o11) := hD
      refine lv_aload_n hx hb dX9_go_30 rfl (lv_at hl 0 rfl) ?_
      refine lv_dup hx hb dX9_go_31 rfl ?_
      refine va_get (ci := 9) (v := .int s0__done) (C := RX9) (T := TX9) (N := 49) hx hb hts hinX9 hown hK hP 0 rfl rfl 3 (by decide) (hts _ (List.mem_of_getElem? (i := 2) rfl)) (fun _ h9 => h9) rfl dX9_go_32 ?_
      refine lv_aload_n hx hb dX9_go_35 rfl (lv_at hl 0 rfl) ?_
      refine va_get (ci := 9) (v := .int o6) (C := RX9) (T := TX9) (N := 49) hx hb hts hinX9 hown hK hP 0 rfl rfl 20 (by decide) (hts _ (List.mem_of_getElem? (i := 3) rfl)) (fun _ h9 => h9) rfl dX9_go_36 ?_
      refine lv_iadd hx hb dX9_go_39 ?_
      refine va_put (D := G) (ci := 9) (v := .int (s0__done + o6)) (ty := .int) (C := RX9) (T := TX9) (N := 49) hx hb hts hinX9 tyX9 tyX9_ok nmX9 hown hK hP hD hS 0 rfl rfl 3 (by decide) (hts _ (List.mem_of_getElem? (i := 2) rfl)) (fun _ h9 => h9) rfl (by decide +kernel) rfl rfl (Nat.le_of_ble_eq_true rfl) dX9_go_40 (fun H locs hP hD hS => ?_)
      have hP : va_P G vwCl (wm_X9_go cA h0 h0_g h0_p h0_causes h0_rows h0_rows_e h0_sorts h0_sizes h0_outs h0_losses h0_kept h0_changed h0_moved h0_levelOf h0_levelOften h0_to h0_round h0_tail h0_path h0_leastOn h0_period h0_amplitude h0_basin h0_numbered h0_isReached h0_tape h0_told h0_traced s0__isKept (s0__done + o6) s0__undoable s0__redoable o2 o3 o4 o5 s0__hasCauses o6 o7 o8 s0__levelMany s0__rounds s0__stuck s0__onRounds s0__longest s0__loudest s0__reached s0__isAnyOver s0__taped s0__at s0__ran o12 o9 s0_causes s0_rows_e s0_sorts s0_sizes o10 o11) H := hP
      have hD : va_D A (wm_X9_go cA h0 h0_g h0_p h0_causes h0_rows h0_rows_e h0_sorts h0_sizes h0_outs h0_losses h0_kept h0_changed h0_moved h0_levelOf h0_levelOften h0_to h0_round h0_tail h0_path h0_leastOn h0_period h0_amplitude h0_basin h0_numbered h0_isReached h0_tape h0_told h0_traced s0__isKept (s0__done + o6) s0__undoable s0__redoable o2 o3 o4 o5 s0__hasCauses o6 o7 o8 s0__levelMany s0__rounds s0__stuck s0__onRounds s0__longest s0__loudest s0__reached s0__isAnyOver s0__taped s0__at s0__ran o12 o9 s0_causes s0_rows_e s0_sorts s0_sizes o10 o11) := hD
      refine lv_aload_n hx hb dX9_go_43 rfl (lv_at hl 0 rfl) ?_
      refine va_get (ci := 9) (v := .int o8) (C := RX9) (T := TX9) (N := 49) hx hb hts hinX9 hown hK hP 0 rfl rfl 22 (by decide) (hts _ (List.mem_of_getElem? (i := 4) rfl)) (fun _ h9 => h9) rfl dX9_go_44 ?_
      refine lv_if_eq (tgt := 63) hx hb dX9_go_47 (by decide) (fun c => ?_) (fun c => ?_)
      · replace hok := g_pos hok c
        refine lv_aload_n hx hb dX9_go_63 rfl (lv_at hl 0 rfl) ?_
        refine va_get (ci := 9) (v := .int o6) (C := RX9) (T := TX9) (N := 49) hx hb hts hinX9 hown hK hP 0 rfl rfl 20 (by decide) (hts _ (List.mem_of_getElem? (i := 3) rfl)) (fun _ h9 => h9) rfl dX9_go_64 ?_
        obtain ⟨e, hok⟩ := g_pr hok
        try subst e
        obtain ⟨e, hok⟩ := g_pr hok
        try subst e
        obtain ⟨e, hok⟩ := g_pr hok
        try subst e
        obtain ⟨e, hok⟩ := g_pr hok
        try subst e
        obtain ⟨e, hok⟩ := g_pr hok
        try subst e
        obtain ⟨e, hok⟩ := g_pr hok
        try subst e
        obtain ⟨e, hok⟩ := g_pr hok
        try subst e
        obtain ⟨e, hok⟩ := g_pr hok
        try subst e
        obtain ⟨e, hok⟩ := g_pr hok
        try subst e
        obtain ⟨e, hok⟩ := g_pr hok
        try subst e
        obtain ⟨e, hok⟩ := g_pr hok
        try subst e
        obtain ⟨e, hok⟩ := g_pr hok
        try subst e
        obtain ⟨e, hok⟩ := g_pr hok
        try subst e
        obtain ⟨e, hok⟩ := g_pr hok
        try subst e
        cases hok
        exact cr_i hx hb hr hlocks hQ dX9_go_67 hP hS
      replace hok := g_neg hok c
      refine lv_aload_n hx hb dX9_go_50 rfl (lv_at hl 0 rfl) ?_
      refine lv_aload_n hx hb dX9_go_51 rfl (lv_at hl 0 rfl) ?_
      refine va_get (ci := 9) (v := .int o6) (C := RX9) (T := TX9) (N := 49) hx hb hts hinX9 hown hK hP 0 rfl rfl 20 (by decide) (hts _ (List.mem_of_getElem? (i := 3) rfl)) (fun _ h9 => h9) rfl dX9_go_52 ?_
      refine lv_iconst (v := 0) hx hb dX9_go_55 (by decide) ?_
      refine lv_aload_n hx hb dX9_go_56 rfl (lv_at hl 0 rfl) ?_
      refine va_get (ci := 9) (v := .int o3) (C := RX9) (T := TX9) (N := 49) hx hb hts hinX9 hown hK hP 0 rfl rfl 9 (by decide) (hts _ (List.mem_of_getElem? (i := 5) rfl)) (fun _ h9 => h9) rfl dX9_go_57 ?_
      obtain ⟨o13, o14, hq, hok⟩ := g_bnd2 hok
      refine cG (is := [0, 3]) (wc := (wm_X9_causes cA h0 h0_causes h0_g h0_kept h0_changed h0_p h0_rows h0_sorts h0_sizes h0_moved h0_outs h0_losses h0_levelOf h0_levelOften h0_to h0_round h0_tail h0_path h0_leastOn h0_period h0_amplitude h0_basin h0_numbered h0_isReached h0_tape h0_told h0_traced s0__isKept (s0__done + o6) s0__undoable s0__redoable o2 o3 o4 o5 s0__hasCauses o6 o7 o8 s0__levelMany s0__rounds s0__stuck s0__onRounds s0__longest s0__loudest s0__reached s0__isAnyOver s0__taped s0__at s0__ran s0_causes)) (w1 := (wm_X9_causes cA h0 h0_causes h0_g h0_kept h0_changed h0_p h0_rows h0_sorts h0_sizes h0_moved h0_outs h0_losses h0_levelOf h0_levelOften h0_to h0_round h0_tail h0_path h0_leastOn h0_period h0_amplitude h0_basin h0_numbered h0_isReached h0_tape h0_told h0_traced s0__isKept (s0__done + o6) s0__undoable s0__redoable o2 o3 o4 o5 o13 o6 o7 o8 s0__levelMany s0__rounds s0__stuck s0__onRounds s0__longest s0__loudest s0__reached s0__isAnyOver s0__taped s0__at s0__ran o14)) (rv := none) (st1 := []) (va_runV (Ts := wsX9_go) (As := [.int o6, .int (0:Int32), .int o3]) (rest := []) ⟨hx, hb, hml, hown, hts⟩ (c_X9_causes l G cA ts h0 h0_causes h0_g h0_kept h0_changed h0_p h0_rows h0_sorts h0_sizes h0_moved h0_outs h0_losses h0_levelOf h0_levelOften h0_to h0_round h0_tail h0_path h0_leastOn h0_period h0_amplitude h0_basin h0_numbered h0_isReached h0_tape h0_told h0_traced o6 (0:Int32) o3 s0__isKept (s0__done + o6) s0__undoable s0__redoable o2 o3 o4 o5 s0__hasCauses o6 o7 o8 s0__levelMany s0__rounds s0__stuck s0__onRounds s0__longest s0__loudest s0__reached s0__isAnyOver s0__taped s0__at s0__ran s0_causes o13 o14 hq H.size) (cwV 3 hts gX9_go_X9_causes rfl rfl rfl (by decide +kernel) ⟨Nat.le_of_ble_eq_true rfl, Nat.le_of_ble_eq_true rfl⟩) (pre_V (ci := 9) (q0 := 0) (is := [0, 3]) rfl rfl hP hD hS hA hK hZ (by decide +kernel) (by rfl)) rfl rfl hl.1 rfl (by exact lv_room (Nat.le_of_ble_eq_true rfl)) dX9_go_60 ⟨Nat.le_refl _, Nat.le_refl _⟩) hP hD hS hA (by decide +kernel) (by rfl) (by rfl) rfl (fun H locs hP hD hS => ?_)
      have hP : va_P G vwCl (wm_X9_go cA h0 h0_g h0_p h0_causes h0_rows h0_rows_e h0_sorts h0_sizes h0_outs h0_losses h0_kept h0_changed h0_moved h0_levelOf h0_levelOften h0_to h0_round h0_tail h0_path h0_leastOn h0_period h0_amplitude h0_basin h0_numbered h0_isReached h0_tape h0_told h0_traced s0__isKept (s0__done + o6) s0__undoable s0__redoable o2 o3 o4 o5 o13 o6 o7 o8 s0__levelMany s0__rounds s0__stuck s0__onRounds s0__longest s0__loudest s0__reached s0__isAnyOver s0__taped s0__at s0__ran o12 o9 o14 s0_rows_e s0_sorts s0_sizes o10 o11) H := hP
      have hD : va_D A (wm_X9_go cA h0 h0_g h0_p h0_causes h0_rows h0_rows_e h0_sorts h0_sizes h0_outs h0_losses h0_kept h0_changed h0_moved h0_levelOf h0_levelOften h0_to h0_round h0_tail h0_path h0_leastOn h0_period h0_amplitude h0_basin h0_numbered h0_isReached h0_tape h0_told h0_traced s0__isKept (s0__done + o6) s0__undoable s0__redoable o2 o3 o4 o5 o13 o6 o7 o8 s0__levelMany s0__rounds s0__stuck s0__onRounds s0__longest s0__loudest s0__reached s0__isAnyOver s0__taped s0__at s0__ran o12 o9 o14 s0_rows_e s0_sorts s0_sizes o10 o11) := hD
      refine lv_aload_n hx hb dX9_go_63 rfl (lv_at hl 0 rfl) ?_
      refine va_get (ci := 9) (v := .int o6) (C := RX9) (T := TX9) (N := 49) hx hb hts hinX9 hown hK hP 0 rfl rfl 20 (by decide) (hts _ (List.mem_of_getElem? (i := 3) rfl)) (fun _ h9 => h9) rfl dX9_go_64 ?_
      obtain ⟨e, hok⟩ := g_pr hok
      try subst e
      obtain ⟨e, hok⟩ := g_pr hok
      try subst e
      obtain ⟨e, hok⟩ := g_pr hok
      try subst e
      obtain ⟨e, hok⟩ := g_pr hok
      try subst e
      obtain ⟨e, hok⟩ := g_pr hok
      try subst e
      obtain ⟨e, hok⟩ := g_pr hok
      try subst e
      obtain ⟨e, hok⟩ := g_pr hok
      try subst e
      obtain ⟨e, hok⟩ := g_pr hok
      try subst e
      obtain ⟨e, hok⟩ := g_pr hok
      try subst e
      obtain ⟨e, hok⟩ := g_pr hok
      try subst e
      obtain ⟨e, hok⟩ := g_pr hok
      try subst e
      obtain ⟨e, hok⟩ := g_pr hok
      try subst e
      obtain ⟨e, hok⟩ := g_pr hok
      try subst e
      obtain ⟨e, hok⟩ := g_pr hok
      try subst e
      cases hok
      exact cr_i hx hb hr hlocks hQ dX9_go_67 hP hS
    replace hok := g_neg hok c
    refine lv_bipush (v := -11) hx hb dX9_go_18 (by decide) ?_
    obtain ⟨e, hok⟩ := g_pr hok
    try subst e
    obtain ⟨e, hok⟩ := g_pr hok
    try subst e
    obtain ⟨e, hok⟩ := g_pr hok
    try subst e
    obtain ⟨e, hok⟩ := g_pr hok
    try subst e
    obtain ⟨e, hok⟩ := g_pr hok
    try subst e
    obtain ⟨e, hok⟩ := g_pr hok
    try subst e
    obtain ⟨e, hok⟩ := g_pr hok
    try subst e
    obtain ⟨e, hok⟩ := g_pr hok
    try subst e
    obtain ⟨e, hok⟩ := g_pr hok
    try subst e
    obtain ⟨e, hok⟩ := g_pr hok
    try subst e
    obtain ⟨e, hok⟩ := g_pr hok
    try subst e
    obtain ⟨e, hok⟩ := g_pr hok
    try subst e
    obtain ⟨e, hok⟩ := g_pr hok
    try subst e
    obtain ⟨e, hok⟩ := g_pr hok
    try subst e
    cases hok
    exact cr_i hx hb hr hlocks hQ dX9_go_20 hP hS
  replace hok := g_pos hok c
  refine lv_iconst (v := -1) hx hb dX9_go_7 (by decide) ?_
  obtain ⟨e, hok⟩ := g_pr hok
  try subst e
  obtain ⟨e, hok⟩ := g_pr hok
  try subst e
  obtain ⟨e, hok⟩ := g_pr hok
  try subst e
  obtain ⟨e, hok⟩ := g_pr hok
  try subst e
  obtain ⟨e, hok⟩ := g_pr hok
  try subst e
  obtain ⟨e, hok⟩ := g_pr hok
  try subst e
  obtain ⟨e, hok⟩ := g_pr hok
  try subst e
  obtain ⟨e, hok⟩ := g_pr hok
  try subst e
  obtain ⟨e, hok⟩ := g_pr hok
  try subst e
  obtain ⟨e, hok⟩ := g_pr hok
  try subst e
  obtain ⟨e, hok⟩ := g_pr hok
  try subst e
  obtain ⟨e, hok⟩ := g_pr hok
  try subst e
  obtain ⟨e, hok⟩ := g_pr hok
  try subst e
  obtain ⟨e, hok⟩ := g_pr hok
  try subst e
  cases hok
  exact cr_i hx hb hr hlocks hQ dX9_go_8 hP hS
set_option maxHeartbeats 40000000 in
set_option maxRecDepth 100000 in
theorem c_X9_film (l : Launch) (G : va_G) (cA : Nat → ClassId) (ts : Nat → Nat) (h0 : Nat) (h0_g : Nat) (h0_p : Nat) (h0_rows : Nat) (h0_rows_e : Nat → Nat) (h0_sorts : Nat) (h0_sizes : Nat) (h0_outs : Nat) (h0_losses : Nat) (h0_kept : Nat) (h0_changed : Nat) (h0_causes : Nat) (h0_moved : Nat) (h0_levelOf : Nat) (h0_levelOften : Nat) (h0_to : Nat) (h0_round : Nat) (h0_tail : Nat) (h0_path : Nat) (h0_leastOn : Nat) (h0_period : Nat) (h0_amplitude : Nat) (h0_basin : Nat) (h0_numbered : Nat) (h0_isReached : Nat) (h0_tape : Nat) (h0_told : Nat) (h0_traced : Nat) (x1 : Int32) (x2 : Int32) (x3 : Int32) (s0__isKept : Int32) (s0__done : Int32) (s0__undoable : Int32) (s0__redoable : Int32) (s0__all : Int32) (s0__v : Int32) (s0__loss : Int32) (s0__isOver : Int32) (s0__hasCauses : Int32) (s0__outMany : Int32) (s0__overMany : Int32) (s0__isHalted : Int32) (s0__levelMany : Int32) (s0__rounds : Int32) (s0__stuck : Int32) (s0__onRounds : Int32) (s0__longest : Int32) (s0__loudest : Int32) (s0__reached : Int32) (s0__isAnyOver : Int32) (s0__taped : Int32) (s0__at : Int32) (s0__ran : Int32) (s0_g : Nat → Int32) (s0_p : Nat → Int32) (s0_rows_e : Nat → Nat → Int64) (s0_sorts : Nat → Int32) (s0_sizes : Nat → Int32) (s0_outs : Nat → Int32) (s0_losses : Nat → Int32) (r : Int32) (o0__all : Int32) (o0__v : Int32) (o0__loss : Int32) (o0__isOver : Int32) (o0__outMany : Int32) (o0__overMany : Int32) (o0__isHalted : Int32) (o0_p : Nat → Int32) (o0_rows_e : Nat → Nat → Int64) (o0_sorts : Nat → Int32) (o0_sizes : Nat → Int32) (o0_outs : Nat → Int32) (o0_losses : Nat → Int32) (hok : fX9_film x1 x2 x3 s0__all s0__v s0__loss s0__isOver s0__outMany s0__overMany s0__isHalted s0_g s0_p s0_rows_e s0_sorts s0_sizes s0_outs s0_losses = some (r, o0__all, o0__v, o0__loss, o0__isOver, o0__outMany, o0__overMany, o0__isHalted, o0_p, o0_rows_e, o0_sorts, o0_sizes, o0_outs, o0_losses)) : Ct l G cA ts yX9_film wsX9_film 5 134 [.ref h0, .int x1, .int x2, .int x3] (wm_X9_output cA h0 h0_g h0_p h0_rows h0_rows_e h0_sorts h0_sizes h0_outs h0_losses h0_kept h0_changed h0_causes h0_moved h0_levelOf h0_levelOften h0_to h0_round h0_tail h0_path h0_leastOn h0_period h0_amplitude h0_basin h0_numbered h0_isReached h0_tape h0_told h0_traced s0__isKept s0__done s0__undoable s0__redoable s0__all s0__v s0__loss s0__isOver s0__hasCauses s0__outMany s0__overMany s0__isHalted s0__levelMany s0__rounds s0__stuck s0__onRounds s0__longest s0__loudest s0__reached s0__isAnyOver s0__taped s0__at s0__ran s0_g s0_p s0_rows_e s0_sorts s0_sizes s0_outs s0_losses) (wm_X9_output cA h0 h0_g h0_p h0_rows h0_rows_e h0_sorts h0_sizes h0_outs h0_losses h0_kept h0_changed h0_causes h0_moved h0_levelOf h0_levelOften h0_to h0_round h0_tail h0_path h0_leastOn h0_period h0_amplitude h0_basin h0_numbered h0_isReached h0_tape h0_told h0_traced s0__isKept s0__done s0__undoable s0__redoable o0__all o0__v o0__loss o0__isOver s0__hasCauses o0__outMany o0__overMany o0__isHalted s0__levelMany s0__rounds s0__stuck s0__onRounds s0__longest s0__loudest s0__reached s0__isAnyOver s0__taped s0__at s0__ran s0_g o0_p o0_rows_e o0_sorts o0_sizes o0_outs o0_losses) (some (.int r)) := by
  refine Ct.intro (cc := cX9_film) (maxL := 5) (ret := some .int) (by decide +kernel) rfl (Nat.le_of_ble_eq_true rfl) ?_
  intro p e s m ar below meth c A Q hx hb hr hml hown hlocks hts hK hZ hA hQ hP hD hS ls hl
  have hown : s.vm.findClass RX9 = some m.cls := hown
  have hinX9 : ∀ w ∈ wsX90, w ∈ wsX9_film := fun _ h => List.mem_cons_of_mem _ (List.mem_append_right _ (h))
  have hl : lv_has ls 5 [(0, .ref h0), (1, .int x1), (2, .int x2), (3, .int x3)] := hl
  have hP : va_P G vwCl (wm_X9_output cA h0 h0_g h0_p h0_rows h0_rows_e h0_sorts h0_sizes h0_outs h0_losses h0_kept h0_changed h0_causes h0_moved h0_levelOf h0_levelOften h0_to h0_round h0_tail h0_path h0_leastOn h0_period h0_amplitude h0_basin h0_numbered h0_isReached h0_tape h0_told h0_traced s0__isKept s0__done s0__undoable s0__redoable s0__all s0__v s0__loss s0__isOver s0__hasCauses s0__outMany s0__overMany s0__isHalted s0__levelMany s0__rounds s0__stuck s0__onRounds s0__longest s0__loudest s0__reached s0__isAnyOver s0__taped s0__at s0__ran s0_g s0_p s0_rows_e s0_sorts s0_sizes s0_outs s0_losses) s.heap := hP
  have hD : va_D A (wm_X9_output cA h0 h0_g h0_p h0_rows h0_rows_e h0_sorts h0_sizes h0_outs h0_losses h0_kept h0_changed h0_causes h0_moved h0_levelOf h0_levelOften h0_to h0_round h0_tail h0_path h0_leastOn h0_period h0_amplitude h0_basin h0_numbered h0_isReached h0_tape h0_told h0_traced s0__isKept s0__done s0__undoable s0__redoable s0__all s0__v s0__loss s0__isOver s0__hasCauses s0__outMany s0__overMany s0__isHalted s0__levelMany s0__rounds s0__stuck s0__onRounds s0__longest s0__loudest s0__reached s0__isAnyOver s0__taped s0__at s0__ran s0_g s0_p s0_rows_e s0_sorts s0_sizes s0_outs s0_losses) := hD
  have L_59 : ∀ (n : Nat) (y4 : Int32) (c0__all : Int32) (c0__v : Int32) (c0__loss : Int32) (c0__isOver : Int32) (c0__outMany : Int32) (c0__overMany : Int32) (c0__isHalted : Int32) (c0_p : Nat → Int32) (c0_rows_e : Nat → Nat → Int64) (c0_sorts : Nat → Int32) (c0_sizes : Nat → Int32) (c0_outs : Nat → Int32) (c0_losses : Nat → Int32) (p0_0 : Nat → Nat → Int64) (H : Heap) (locs : List Loc) (ls : Array Slot), va_P G vwCl (wm_X9_output cA h0 h0_g h0_p h0_rows h0_rows_e h0_sorts h0_sizes h0_outs h0_losses h0_kept h0_changed h0_causes h0_moved h0_levelOf h0_levelOften h0_to h0_round h0_tail h0_path h0_leastOn h0_period h0_amplitude h0_basin h0_numbered h0_isReached h0_tape h0_told h0_traced s0__isKept s0__done s0__undoable s0__redoable c0__all c0__v c0__loss c0__isOver s0__hasCauses c0__outMany c0__overMany c0__isHalted s0__levelMany s0__rounds s0__stuck s0__onRounds s0__longest s0__loudest s0__reached s0__isAnyOver s0__taped s0__at s0__ran s0_g c0_p c0_rows_e c0_sorts c0_sizes c0_outs c0_losses) H → va_D A (wm_X9_output cA h0 h0_g h0_p h0_rows h0_rows_e h0_sorts h0_sizes h0_outs h0_losses h0_kept h0_changed h0_causes h0_moved h0_levelOf h0_levelOften h0_to h0_round h0_tail h0_path h0_leastOn h0_period h0_amplitude h0_basin h0_numbered h0_isReached h0_tape h0_told h0_traced s0__isKept s0__done s0__undoable s0__redoable c0__all c0__v c0__loss c0__isOver s0__hasCauses c0__outMany c0__overMany c0__isHalted s0__levelMany s0__rounds s0__stuck s0__onRounds s0__longest s0__loudest s0__reached s0__isAnyOver s0__taped s0__at s0__ran s0_g c0_p c0_rows_e c0_sorts c0_sizes c0_outs c0_losses) → va_S A s.heap H locs → lv_has ls 5 [(0, .ref h0), (1, .int x1), (4, .int y4)] → fX9_film_L59 x1 x2 x3 s0_g n y4 c0__all c0__v c0__loss c0__isOver c0__outMany c0__overMany c0__isHalted c0_p c0_rows_e c0_sorts c0_sizes c0_outs c0_losses = some p0_0 → (∀ (H : Heap) (locs : List Loc) (ls : Array Slot), va_P G vwCl (wm_X9_output cA h0 h0_g h0_p h0_rows h0_rows_e h0_sorts h0_sizes h0_outs h0_losses h0_kept h0_changed h0_causes h0_moved h0_levelOf h0_levelOften h0_to h0_round h0_tail h0_path h0_leastOn h0_period h0_amplitude h0_basin h0_numbered h0_isReached h0_tape h0_told h0_traced s0__isKept s0__done s0__undoable s0__redoable c0__all c0__v c0__loss c0__isOver s0__hasCauses c0__outMany c0__overMany c0__isHalted s0__levelMany s0__rounds s0__stuck s0__onRounds s0__longest s0__loudest s0__reached s0__isAnyOver s0__taped s0__at s0__ran s0_g c0_p p0_0 c0_sorts c0_sizes c0_outs c0_losses) H → va_D A (wm_X9_output cA h0 h0_g h0_p h0_rows h0_rows_e h0_sorts h0_sizes h0_outs h0_losses h0_kept h0_changed h0_causes h0_moved h0_levelOf h0_levelOften h0_to h0_round h0_tail h0_path h0_leastOn h0_period h0_amplitude h0_basin h0_numbered h0_isReached h0_tape h0_told h0_traced s0__isKept s0__done s0__undoable s0__redoable c0__all c0__v c0__loss c0__isOver s0__hasCauses c0__outMany c0__overMany c0__isHalted s0__levelMany s0__rounds s0__stuck s0__onRounds s0__longest s0__loudest s0__reached s0__isAnyOver s0__taped s0__at s0__ran s0_g c0_p p0_0 c0_sorts c0_sizes c0_outs c0_losses) → va_S A s.heap H locs → lv_has ls 5 [(0, .ref h0)] → W p l e (rmX 5 134) s m ar below meth c H locs 0 0 Q (F0 m 91 ls [])) → W p l e (rmX 5 134) s m ar below meth c H locs 0 0 Q (F0 m 59 ls []) := by
    intro n
    induction n with
    | zero =>
      intro y4 c0__all c0__v c0__loss c0__isOver c0__outMany c0__overMany c0__isHalted c0_p c0_rows_e c0_sorts c0_sizes c0_outs c0_losses p0_0 H locs ls hP hD hS hl hok
      rw [fX9_film_L59] at hok
      cases hok
    | succ n ih =>
      intro y4 c0__all c0__v c0__loss c0__isOver c0__outMany c0__overMany c0__isHalted c0_p c0_rows_e c0_sorts c0_sizes c0_outs c0_losses p0_0 H locs ls hP hD hS hl hok K
      rw [fX9_film_L59] at hok
      refine lv_iload hx hb dX9_film_59 (lv_at hl 2 rfl) ?_
      refine lv_aload_n hx hb dX9_film_61 rfl (lv_at hl 0 rfl) ?_
      refine va_get (ci := 9) (v := .int c0__outMany) (C := RX9) (T := TX9) (N := 49) hx hb hts hinX9 hown hK hP 0 rfl rfl 20 (by decide) (hts _ (List.mem_of_getElem? (i := 3) rfl)) (fun _ h9 => h9) rfl dX9_film_62 ?_
      refine lv_icmp_ge (tgt := 91) hx hb dX9_film_65 (by decide) (fun c => ?_) (fun c => ?_)
      · replace hok := g_pos hok c
        cases hok
        exact K _ _ _ hP hD hS (lv_sub hl [0] rfl)
      replace hok := g_neg hok c
      refine lv_aload_n hx hb dX9_film_68 rfl (lv_at hl 0 rfl) ?_
      refine va_get (ci := 9) (v := .ref h0_rows) (C := RX9) (T := TX9) (N := 49) hx hb hts hinX9 hown hK hP 0 rfl rfl 14 (by decide) (hts _ (List.mem_of_getElem? (i := 4) rfl)) (fun _ h9 => h9) rfl dX9_film_69 ?_
      refine lv_iload_n hx hb dX9_film_72 rfl (lv_at hl 1 rfl) ?_
      obtain ⟨hin18, hok⟩ := g_no hok
      refine x_aalda hx hb hK hP 3 6 rfl rfl hin18 dX9_film_73 ?_
      refine W.eq (congrArg (fun z => F0 m 74 ls (z :: [])) (rf_at (Nat.not_le.mp fun q => hin18 (Or.inr q)))) ?_
      refine lv_iload hx hb dX9_film_74 (lv_at hl 2 rfl) ?_
      refine lv_aload_n hx hb dX9_film_76 rfl (lv_at hl 0 rfl) ?_
      refine va_get (ci := 9) (v := .ref h0_outs) (C := RX9) (T := TX9) (N := 49) hx hb hts hinX9 hown hK hP 0 rfl rfl 18 (by decide) (hts _ (List.mem_of_getElem? (i := 5) rfl)) (fun _ h9 => h9) rfl dX9_film_77 ?_
      refine lv_iload hx hb dX9_film_80 (lv_at hl 2 rfl) ?_
      obtain ⟨hin, hok⟩ := g_no hok
      refine x_iald (k := y4.toNatClampNeg) hx hb hK hP 10 0 rfl rfl hin rfl dX9_film_82 ?_
      refine lv_i2l (v := ((c0_outs y4.toNatClampNeg).toInt64)) hx hb dX9_film_83 rfl ?_
      obtain ⟨hin, hok⟩ := g_no hok
      refine x_last (cA := cA 1) (n := 40) (f := (c0_rows_e x1.toNatClampNeg)) (k := y4.toNatClampNeg) hx hb hK hP hD hS (4 + 1 * x1.toNatClampNeg) 1 (by rcases lt4 (Nat.not_le.mp fun q => hin18 (Or.inr q)) with e | e | e | e <;> rw [e] <;> rfl) rfl hin rfl dX9_film_84 (fun H locs hP hD hS => ?_)
      obtain ⟨hP, hD⟩ : va_P G vwCl (wm_X9_output cA h0 h0_g h0_p h0_rows h0_rows_e h0_sorts h0_sizes h0_outs h0_losses h0_kept h0_changed h0_causes h0_moved h0_levelOf h0_levelOften h0_to h0_round h0_tail h0_path h0_leastOn h0_period h0_amplitude h0_basin h0_numbered h0_isReached h0_tape h0_told h0_traced s0__isKept s0__done s0__undoable s0__redoable c0__all c0__v c0__loss c0__isOver s0__hasCauses c0__outMany c0__overMany c0__isHalted s0__levelMany s0__rounds s0__stuck s0__onRounds s0__longest s0__loudest s0__reached s0__isAnyOver s0__taped s0__at s0__ran s0_g c0_p (va_up c0_rows_e x1.toNatClampNeg (vp_updL (c0_rows_e x1.toNatClampNeg) y4.toNatClampNeg ((c0_outs y4.toNatClampNeg).toInt64))) c0_sorts c0_sizes c0_outs c0_losses) H ∧ va_D A (wm_X9_output cA h0 h0_g h0_p h0_rows h0_rows_e h0_sorts h0_sizes h0_outs h0_losses h0_kept h0_changed h0_causes h0_moved h0_levelOf h0_levelOften h0_to h0_round h0_tail h0_path h0_leastOn h0_period h0_amplitude h0_basin h0_numbered h0_isReached h0_tape h0_told h0_traced s0__isKept s0__done s0__undoable s0__redoable c0__all c0__v c0__loss c0__isOver s0__hasCauses c0__outMany c0__overMany c0__isHalted s0__levelMany s0__rounds s0__stuck s0__onRounds s0__longest s0__loudest s0__reached s0__isAnyOver s0__taped s0__at s0__ran s0_g c0_p (va_up c0_rows_e x1.toNatClampNeg (vp_updL (c0_rows_e x1.toNatClampNeg) y4.toNatClampNeg ((c0_outs y4.toNatClampNeg).toInt64))) c0_sorts c0_sizes c0_outs c0_losses) := PD_eq hP hD (by rcases lt4 (Nat.not_le.mp fun q => hin18 (Or.inr q)) with e | e | e | e <;> rw [e] <;> rfl)
      refine lv_iinc (v := (y4 + 1)) (lv' := [(4, .int (y4 + 1)), (0, .ref h0), (1, .int x1)]) hx hb dX9_film_85 hl (k := 2) rfl rfl (by decide) rfl (fun ls hl => ?_)
      refine lv_goto (tgt := 59) hx hb dX9_film_88 (by decide) ?_
      exact ih (y4 + 1) c0__all c0__v c0__loss c0__isOver c0__outMany c0__overMany c0__isHalted c0_p (va_up c0_rows_e x1.toNatClampNeg (vp_updL (c0_rows_e x1.toNatClampNeg) y4.toNatClampNeg ((c0_outs y4.toNatClampNeg).toInt64))) c0_sorts c0_sizes c0_outs c0_losses p0_0 _ _ _ hP hD hS (lv_sub hl [1, 2, 0] rfl) hok K
  unfold fX9_film at hok
  refine lv_iload_n hx hb dX9_film_0 rfl (lv_at hl 1 rfl) ?_
  obtain ⟨r1, hq, hok⟩ := g_bnd1 hok
  refine cG (is := []) (wc := (wm_X0_find cA)) (w1 := (wm_X0_find cA)) (rv := (some (.int r1))) (st1 := [.int r1]) (va_runS (Ts := wsX9_film) (As := [.int x1]) (rest := []) ⟨hx, hb, hml, hown, hts⟩ (c_X9_isRow l G cA ts x1 r1 hq s.heap.size) (va_cwS 1 hts gX9_film_X9_isRow rfl rfl rfl (by decide +kernel) ⟨Nat.le_of_ble_eq_true rfl, Nat.le_of_ble_eq_true rfl⟩) (pre_S (is := []) hP hD hS hA hK hZ (by decide +kernel) (by rfl)) rfl rfl hl.1 rfl (by exact lv_room (Nat.le_of_ble_eq_true rfl)) dX9_film_1 ⟨Nat.le_refl _, Nat.le_refl _⟩) hP hD hS hA (by decide +kernel) (by rfl) (by rfl) rfl (fun H locs hP hD hS => ?_)
  have hP : va_P G vwCl (wm_X9_output cA h0 h0_g h0_p h0_rows h0_rows_e h0_sorts h0_sizes h0_outs h0_losses h0_kept h0_changed h0_causes h0_moved h0_levelOf h0_levelOften h0_to h0_round h0_tail h0_path h0_leastOn h0_period h0_amplitude h0_basin h0_numbered h0_isReached h0_tape h0_told h0_traced s0__isKept s0__done s0__undoable s0__redoable s0__all s0__v s0__loss s0__isOver s0__hasCauses s0__outMany s0__overMany s0__isHalted s0__levelMany s0__rounds s0__stuck s0__onRounds s0__longest s0__loudest s0__reached s0__isAnyOver s0__taped s0__at s0__ran s0_g s0_p s0_rows_e s0_sorts s0_sizes s0_outs s0_losses) H := hP
  have hD : va_D A (wm_X9_output cA h0 h0_g h0_p h0_rows h0_rows_e h0_sorts h0_sizes h0_outs h0_losses h0_kept h0_changed h0_causes h0_moved h0_levelOf h0_levelOften h0_to h0_round h0_tail h0_path h0_leastOn h0_period h0_amplitude h0_basin h0_numbered h0_isReached h0_tape h0_told h0_traced s0__isKept s0__done s0__undoable s0__redoable s0__all s0__v s0__loss s0__isOver s0__hasCauses s0__outMany s0__overMany s0__isHalted s0__levelMany s0__rounds s0__stuck s0__onRounds s0__longest s0__loudest s0__reached s0__isAnyOver s0__taped s0__at s0__ran s0_g s0_p s0_rows_e s0_sorts s0_sizes s0_outs s0_losses) := hD
  refine lv_if_eq (tgt := 26) hx hb dX9_film_4 (by decide) (fun c => ?_) (fun c => ?_)
  · replace hok := g_pos hok c
    refine lv_iconst (v := -1) hx hb dX9_film_26 (by decide) ?_
    obtain ⟨e, hok⟩ := g_pr hok
    try subst e
    obtain ⟨e, hok⟩ := g_pr hok
    try subst e
    obtain ⟨e, hok⟩ := g_pr hok
    try subst e
    obtain ⟨e, hok⟩ := g_pr hok
    try subst e
    obtain ⟨e, hok⟩ := g_pr hok
    try subst e
    obtain ⟨e, hok⟩ := g_pr hok
    try subst e
    obtain ⟨e, hok⟩ := g_pr hok
    try subst e
    obtain ⟨e, hok⟩ := g_pr hok
    try subst e
    obtain ⟨e, hok⟩ := g_pr hok
    try subst e
    obtain ⟨e, hok⟩ := g_pr hok
    try subst e
    obtain ⟨e, hok⟩ := g_pr hok
    try subst e
    obtain ⟨e, hok⟩ := g_pr hok
    try subst e
    obtain ⟨e, hok⟩ := g_pr hok
    try subst e
    cases hok
    exact cr_i hx hb hr hlocks hQ dX9_film_27 hP hS
  replace hok := g_neg hok c
  refine lv_iload_n hx hb dX9_film_7 rfl (lv_at hl 2 rfl) ?_
  refine lv_i2l (v := (x2.toInt64)) hx hb dX9_film_8 rfl ?_
  refine lv_lconst (v := 0) hx hb dX9_film_9 (by decide) ?_
  refine lv_ldc2 (v := 2) hx hb hown (hts _ (List.mem_of_getElem? (i := 1) rfl)) dX9_film_10 ?_
  obtain ⟨r2, hq, hok⟩ := g_bnd1 hok
  refine cG (is := []) (wc := (wm_X0_find cA)) (w1 := (wm_X0_find cA)) (rv := (some (.int r2))) (st1 := [.int r2]) (va_runS (Ts := wsX9_film) (As := [.long (x2.toInt64), .long (0:Int64), .long (2:Int64)]) (rest := []) ⟨hx, hb, hml, hown, hts⟩ (c_X9_in l G cA ts (x2.toInt64) (0:Int64) (2:Int64) r2 hq H.size) (va_cwS 3 hts gX9_film_X9_in rfl rfl rfl (by decide +kernel) ⟨Nat.le_of_ble_eq_true rfl, Nat.le_of_ble_eq_true rfl⟩) (pre_S (is := []) hP hD hS hA hK hZ (by decide +kernel) (by rfl)) rfl rfl hl.1 rfl (by exact lv_room (Nat.le_of_ble_eq_true rfl)) dX9_film_13 ⟨Nat.le_refl _, Nat.le_refl _⟩) hP hD hS hA (by decide +kernel) (by rfl) (by rfl) rfl (fun H locs hP hD hS => ?_)
  have hP : va_P G vwCl (wm_X9_output cA h0 h0_g h0_p h0_rows h0_rows_e h0_sorts h0_sizes h0_outs h0_losses h0_kept h0_changed h0_causes h0_moved h0_levelOf h0_levelOften h0_to h0_round h0_tail h0_path h0_leastOn h0_period h0_amplitude h0_basin h0_numbered h0_isReached h0_tape h0_told h0_traced s0__isKept s0__done s0__undoable s0__redoable s0__all s0__v s0__loss s0__isOver s0__hasCauses s0__outMany s0__overMany s0__isHalted s0__levelMany s0__rounds s0__stuck s0__onRounds s0__longest s0__loudest s0__reached s0__isAnyOver s0__taped s0__at s0__ran s0_g s0_p s0_rows_e s0_sorts s0_sizes s0_outs s0_losses) H := hP
  have hD : va_D A (wm_X9_output cA h0 h0_g h0_p h0_rows h0_rows_e h0_sorts h0_sizes h0_outs h0_losses h0_kept h0_changed h0_causes h0_moved h0_levelOf h0_levelOften h0_to h0_round h0_tail h0_path h0_leastOn h0_period h0_amplitude h0_basin h0_numbered h0_isReached h0_tape h0_told h0_traced s0__isKept s0__done s0__undoable s0__redoable s0__all s0__v s0__loss s0__isOver s0__hasCauses s0__outMany s0__overMany s0__isHalted s0__levelMany s0__rounds s0__stuck s0__onRounds s0__longest s0__loudest s0__reached s0__isAnyOver s0__taped s0__at s0__ran s0_g s0_p s0_rows_e s0_sorts s0_sizes s0_outs s0_losses) := hD
  refine lv_if_eq (tgt := 26) hx hb dX9_film_16 (by decide) (fun c => ?_) (fun c => ?_)
  · replace hok := g_pos hok c
    refine lv_iconst (v := -1) hx hb dX9_film_26 (by decide) ?_
    obtain ⟨e, hok⟩ := g_pr hok
    try subst e
    obtain ⟨e, hok⟩ := g_pr hok
    try subst e
    obtain ⟨e, hok⟩ := g_pr hok
    try subst e
    obtain ⟨e, hok⟩ := g_pr hok
    try subst e
    obtain ⟨e, hok⟩ := g_pr hok
    try subst e
    obtain ⟨e, hok⟩ := g_pr hok
    try subst e
    obtain ⟨e, hok⟩ := g_pr hok
    try subst e
    obtain ⟨e, hok⟩ := g_pr hok
    try subst e
    obtain ⟨e, hok⟩ := g_pr hok
    try subst e
    obtain ⟨e, hok⟩ := g_pr hok
    try subst e
    obtain ⟨e, hok⟩ := g_pr hok
    try subst e
    obtain ⟨e, hok⟩ := g_pr hok
    try subst e
    obtain ⟨e, hok⟩ := g_pr hok
    try subst e
    cases hok
    exact cr_i hx hb hr hlocks hQ dX9_film_27 hP hS
  replace hok := g_neg hok c
  refine lv_iload_n hx hb dX9_film_19 rfl (lv_at hl 3 rfl) ?_
  obtain ⟨r3, hq, hok⟩ := g_bnd1 hok
  refine cG (is := []) (wc := (wm_X0_find cA)) (w1 := (wm_X0_find cA)) (rv := (some (.int r3))) (st1 := [.int r3]) (va_runS (Ts := wsX9_film) (As := [.int x3]) (rest := []) ⟨hx, hb, hml, hown, hts⟩ (c_X9_isRow l G cA ts x3 r3 hq H.size) (va_cwS 1 hts gX9_film_X9_isRow rfl rfl rfl (by decide +kernel) ⟨Nat.le_of_ble_eq_true rfl, Nat.le_of_ble_eq_true rfl⟩) (pre_S (is := []) hP hD hS hA hK hZ (by decide +kernel) (by rfl)) rfl rfl hl.1 rfl (by exact lv_room (Nat.le_of_ble_eq_true rfl)) dX9_film_20 ⟨Nat.le_refl _, Nat.le_refl _⟩) hP hD hS hA (by decide +kernel) (by rfl) (by rfl) rfl (fun H locs hP hD hS => ?_)
  have hP : va_P G vwCl (wm_X9_output cA h0 h0_g h0_p h0_rows h0_rows_e h0_sorts h0_sizes h0_outs h0_losses h0_kept h0_changed h0_causes h0_moved h0_levelOf h0_levelOften h0_to h0_round h0_tail h0_path h0_leastOn h0_period h0_amplitude h0_basin h0_numbered h0_isReached h0_tape h0_told h0_traced s0__isKept s0__done s0__undoable s0__redoable s0__all s0__v s0__loss s0__isOver s0__hasCauses s0__outMany s0__overMany s0__isHalted s0__levelMany s0__rounds s0__stuck s0__onRounds s0__longest s0__loudest s0__reached s0__isAnyOver s0__taped s0__at s0__ran s0_g s0_p s0_rows_e s0_sorts s0_sizes s0_outs s0_losses) H := hP
  have hD : va_D A (wm_X9_output cA h0 h0_g h0_p h0_rows h0_rows_e h0_sorts h0_sizes h0_outs h0_losses h0_kept h0_changed h0_causes h0_moved h0_levelOf h0_levelOften h0_to h0_round h0_tail h0_path h0_leastOn h0_period h0_amplitude h0_basin h0_numbered h0_isReached h0_tape h0_told h0_traced s0__isKept s0__done s0__undoable s0__redoable s0__all s0__v s0__loss s0__isOver s0__hasCauses s0__outMany s0__overMany s0__isHalted s0__levelMany s0__rounds s0__stuck s0__onRounds s0__longest s0__loudest s0__reached s0__isAnyOver s0__taped s0__at s0__ran s0_g s0_p s0_rows_e s0_sorts s0_sizes s0_outs s0_losses) := hD
  refine lv_if_ne (tgt := 28) hx hb dX9_film_23 (by decide) (fun c => ?_) (fun c => ?_)
  · replace hok := g_neg hok c
    refine lv_aload_n hx hb dX9_film_28 rfl (lv_at hl 0 rfl) ?_
    refine va_get (ci := 9) (v := .ref h0_sorts) (C := RX9) (T := TX9) (N := 49) hx hb hts hinX9 hown hK hP 0 rfl rfl 15 (by decide) (hts _ (List.mem_of_getElem? (i := 2) rfl)) (fun _ h9 => h9) rfl dX9_film_29 ?_
    refine lv_iload_n hx hb dX9_film_32 rfl (lv_at hl 3 rfl) ?_
    obtain ⟨hin, hok⟩ := g_no hok
    refine x_iald (k := x3.toNatClampNeg) hx hb hK hP 8 0 rfl rfl hin rfl dX9_film_33 ?_
    refine lv_if_ge (tgt := 40) hx hb dX9_film_34 (by decide) (fun c => ?_) (fun c => ?_)
    · replace hok := g_pos hok c
      refine lv_aload_n hx hb dX9_film_40 rfl (lv_at hl 0 rfl) ?_
      refine lv_iload_n hx hb dX9_film_41 rfl (lv_at hl 3 rfl) ?_
      obtain ⟨o4, o5, o6, o7, o8, o9, o10, o11, o12, o13, hq, hok⟩ := g_bnd10 hok
      refine cG (is := [0, 1, 2, 3, 4, 5, 6, 7, 9, 10, 11]) (wc := (wm_X9_runs cA h0 h0_g h0_p h0_rows h0_rows_e h0_sizes h0_outs h0_losses h0_kept h0_changed h0_causes h0_sorts h0_moved h0_levelOf h0_levelOften h0_to h0_round h0_tail h0_path h0_leastOn h0_period h0_amplitude h0_basin h0_numbered h0_isReached h0_tape h0_told h0_traced s0__isKept s0__done s0__undoable s0__redoable s0__all s0__v s0__loss s0__isOver s0__hasCauses s0__outMany s0__overMany s0__isHalted s0__levelMany s0__rounds s0__stuck s0__onRounds s0__longest s0__loudest s0__reached s0__isAnyOver s0__taped s0__at s0__ran s0_g s0_p s0_rows_e s0_sizes s0_outs s0_losses)) (w1 := (wm_X9_runs cA h0 h0_g h0_p h0_rows h0_rows_e h0_sizes h0_outs h0_losses h0_kept h0_changed h0_causes h0_sorts h0_moved h0_levelOf h0_levelOften h0_to h0_round h0_tail h0_path h0_leastOn h0_period h0_amplitude h0_basin h0_numbered h0_isReached h0_tape h0_told h0_traced s0__isKept s0__done s0__undoable s0__redoable o4 o5 o6 o7 s0__hasCauses o8 o9 o10 s0__levelMany s0__rounds s0__stuck s0__onRounds s0__longest s0__loudest s0__reached s0__isAnyOver s0__taped s0__at s0__ran s0_g o11 s0_rows_e s0_sizes o12 o13)) (rv := none) (st1 := []) (va_runV (Ts := wsX9_film) (As := [.int x3]) (rest := []) ⟨hx, hb, hml, hown, hts⟩ (c_X9_runs l G cA ts h0 h0_g h0_p h0_rows h0_rows_e h0_sizes h0_outs h0_losses h0_kept h0_changed h0_causes h0_sorts h0_moved h0_levelOf h0_levelOften h0_to h0_round h0_tail h0_path h0_leastOn h0_period h0_amplitude h0_basin h0_numbered h0_isReached h0_tape h0_told h0_traced x3 s0__isKept s0__done s0__undoable s0__redoable s0__all s0__v s0__loss s0__isOver s0__hasCauses s0__outMany s0__overMany s0__isHalted s0__levelMany s0__rounds s0__stuck s0__onRounds s0__longest s0__loudest s0__reached s0__isAnyOver s0__taped s0__at s0__ran s0_g s0_p s0_rows_e s0_sizes s0_outs s0_losses o4 o5 o6 o7 o8 o9 o10 o11 o12 o13 hq H.size) (cwV 1 hts gX9_film_X9_runs rfl rfl rfl (by decide +kernel) ⟨Nat.le_of_ble_eq_true rfl, Nat.le_of_ble_eq_true rfl⟩) (pre_V (ci := 9) (q0 := 0) (is := [0, 1, 2, 3, 4, 5, 6, 7, 9, 10, 11]) rfl rfl hP hD hS hA hK hZ (by decide +kernel) (by rfl)) rfl rfl hl.1 rfl (by exact lv_room (Nat.le_of_ble_eq_true rfl)) dX9_film_42 ⟨Nat.le_refl _, Nat.le_refl _⟩) hP hD hS hA (by decide +kernel) (by rfl) (by rfl) rfl (fun H locs hP hD hS => ?_)
      obtain ⟨hP, hD⟩ : va_P G vwCl (wm_X9_output cA h0 h0_g h0_p h0_rows h0_rows_e h0_sorts h0_sizes h0_outs h0_losses h0_kept h0_changed h0_causes h0_moved h0_levelOf h0_levelOften h0_to h0_round h0_tail h0_path h0_leastOn h0_period h0_amplitude h0_basin h0_numbered h0_isReached h0_tape h0_told h0_traced s0__isKept s0__done s0__undoable s0__redoable o4 o5 o6 o7 s0__hasCauses o8 o9 o10 s0__levelMany s0__rounds s0__stuck s0__onRounds s0__longest s0__loudest s0__reached s0__isAnyOver s0__taped s0__at s0__ran s0_g o11 s0_rows_e s0_sorts s0_sizes o12 o13) H ∧ va_D A (wm_X9_output cA h0 h0_g h0_p h0_rows h0_rows_e h0_sorts h0_sizes h0_outs h0_losses h0_kept h0_changed h0_causes h0_moved h0_levelOf h0_levelOften h0_to h0_round h0_tail h0_path h0_leastOn h0_period h0_amplitude h0_basin h0_numbered h0_isReached h0_tape h0_told h0_traced s0__isKept s0__done s0__undoable s0__redoable o4 o5 o6 o7 s0__hasCauses o8 o9 o10 s0__levelMany s0__rounds s0__stuck s0__onRounds s0__longest s0__loudest s0__reached s0__isAnyOver s0__taped s0__at s0__ran s0_g o11 s0_rows_e s0_sorts s0_sizes o12 o13) := PD_eq hP hD (rp_eq (js := [8]) 12 (by decide +kernel) rfl rfl (by rfl) (by rfl) (by decide +kernel))
      refine lv_aload_n hx hb dX9_film_45 rfl (lv_at hl 0 rfl) ?_
      refine lv_iload_n hx hb dX9_film_46 rfl (lv_at hl 1 rfl) ?_
      refine lv_iload_n hx hb dX9_film_47 rfl (lv_at hl 2 rfl) ?_
      refine lv_aload_n hx hb dX9_film_48 rfl (lv_at hl 0 rfl) ?_
      refine va_get (ci := 9) (v := .int o8) (C := RX9) (T := TX9) (N := 49) hx hb hts hinX9 hown hK hP 0 rfl rfl 20 (by decide) (hts _ (List.mem_of_getElem? (i := 3) rfl)) (fun _ h9 => h9) rfl dX9_film_49 ?_
      obtain ⟨r14, o15, o16, o17, hq, hok⟩ := g_bnd4 hok
      refine cG (is := [0, 3, 4, 5, 6, 7, 8, 9]) (wc := (wm_X9_row cA h0 h0_rows h0_rows_e h0_sorts h0_sizes h0_g h0_kept h0_changed h0_p h0_causes h0_moved h0_outs h0_losses h0_levelOf h0_levelOften h0_to h0_round h0_tail h0_path h0_leastOn h0_period h0_amplitude h0_basin h0_numbered h0_isReached h0_tape h0_told h0_traced s0__isKept s0__done s0__undoable s0__redoable o4 o5 o6 o7 s0__hasCauses o8 o9 o10 s0__levelMany s0__rounds s0__stuck s0__onRounds s0__longest s0__loudest s0__reached s0__isAnyOver s0__taped s0__at s0__ran s0_rows_e s0_sorts s0_sizes)) (w1 := (wm_X9_row cA h0 h0_rows h0_rows_e h0_sorts h0_sizes h0_g h0_kept h0_changed h0_p h0_causes h0_moved h0_outs h0_losses h0_levelOf h0_levelOften h0_to h0_round h0_tail h0_path h0_leastOn h0_period h0_amplitude h0_basin h0_numbered h0_isReached h0_tape h0_told h0_traced s0__isKept s0__done s0__undoable s0__redoable o4 o5 o6 o7 s0__hasCauses o8 o9 o10 s0__levelMany s0__rounds s0__stuck s0__onRounds s0__longest s0__loudest s0__reached s0__isAnyOver s0__taped s0__at s0__ran o15 o16 o17)) (rv := (some (.int r14))) (st1 := [.int r14]) (va_runV (Ts := wsX9_film) (As := [.int x1, .int x2, .int o8]) (rest := []) ⟨hx, hb, hml, hown, hts⟩ (c_X9_row l G cA ts h0 h0_rows h0_rows_e h0_sorts h0_sizes h0_g h0_kept h0_changed h0_p h0_causes h0_moved h0_outs h0_losses h0_levelOf h0_levelOften h0_to h0_round h0_tail h0_path h0_leastOn h0_period h0_amplitude h0_basin h0_numbered h0_isReached h0_tape h0_told h0_traced x1 x2 o8 s0__isKept s0__done s0__undoable s0__redoable o4 o5 o6 o7 s0__hasCauses o8 o9 o10 s0__levelMany s0__rounds s0__stuck s0__onRounds s0__longest s0__loudest s0__reached s0__isAnyOver s0__taped s0__at s0__ran s0_rows_e s0_sorts s0_sizes r14 o15 o16 o17 hq H.size) (cwV 3 hts gX9_film_X9_row rfl rfl rfl (by decide +kernel) ⟨Nat.le_of_ble_eq_true rfl, Nat.le_of_ble_eq_true rfl⟩) (pre_V (ci := 9) (q0 := 0) (is := [0, 3, 4, 5, 6, 7, 8, 9]) rfl rfl hP hD hS hA hK hZ (by decide +kernel) (by rfl)) rfl rfl hl.1 rfl (by exact lv_room (Nat.le_of_ble_eq_true rfl)) dX9_film_52 ⟨Nat.le_refl _, Nat.le_refl _⟩) hP hD hS hA (by decide +kernel) (by rfl) (by rfl) rfl (fun H locs hP hD hS => ?_)
      have hP : va_P G vwCl (wm_X9_output cA h0 h0_g h0_p h0_rows h0_rows_e h0_sorts h0_sizes h0_outs h0_losses h0_kept h0_changed h0_causes h0_moved h0_levelOf h0_levelOften h0_to h0_round h0_tail h0_path h0_leastOn h0_period h0_amplitude h0_basin h0_numbered h0_isReached h0_tape h0_told h0_traced s0__isKept s0__done s0__undoable s0__redoable o4 o5 o6 o7 s0__hasCauses o8 o9 o10 s0__levelMany s0__rounds s0__stuck s0__onRounds s0__longest s0__loudest s0__reached s0__isAnyOver s0__taped s0__at s0__ran s0_g o11 o15 o16 o17 o12 o13) H := hP
      have hD : va_D A (wm_X9_output cA h0 h0_g h0_p h0_rows h0_rows_e h0_sorts h0_sizes h0_outs h0_losses h0_kept h0_changed h0_causes h0_moved h0_levelOf h0_levelOften h0_to h0_round h0_tail h0_path h0_leastOn h0_period h0_amplitude h0_basin h0_numbered h0_isReached h0_tape h0_told h0_traced s0__isKept s0__done s0__undoable s0__redoable o4 o5 o6 o7 s0__hasCauses o8 o9 o10 s0__levelMany s0__rounds s0__stuck s0__onRounds s0__longest s0__loudest s0__reached s0__isAnyOver s0__taped s0__at s0__ran s0_g o11 o15 o16 o17 o12 o13) := hD
      refine lv_pop hx hb dX9_film_55 rfl ?_
      refine lv_iconst (v := 0) hx hb dX9_film_56 (by decide) ?_
      refine lv_istore (lv' := [(4, .int (0:Int32)), (0, .ref h0), (1, .int x1), (2, .int x2), (3, .int x3)]) hx hb dX9_film_57 hl (by decide) rfl (fun ls hl => ?_)
      obtain ⟨o19, hq, hok⟩ := g_bnd1 hok
      refine L_59 FUEL (0:Int32) o4 o5 o6 o7 o8 o9 o10 o11 o15 o16 o17 o12 o13 o19 _ _ _ hP hD hS (lv_sub hl [1, 2, 0] rfl) hq (fun H locs ls hP hD hS hl => ?_)
      refine lv_aload_n hx hb dX9_film_91 rfl (lv_at hl 0 rfl) ?_
      refine va_get (ci := 9) (v := .int o8) (C := RX9) (T := TX9) (N := 49) hx hb hts hinX9 hown hK hP 0 rfl rfl 20 (by decide) (hts _ (List.mem_of_getElem? (i := 3) rfl)) (fun _ h9 => h9) rfl dX9_film_92 ?_
      obtain ⟨e, hok⟩ := g_pr hok
      try subst e
      obtain ⟨e, hok⟩ := g_pr hok
      try subst e
      obtain ⟨e, hok⟩ := g_pr hok
      try subst e
      obtain ⟨e, hok⟩ := g_pr hok
      try subst e
      obtain ⟨e, hok⟩ := g_pr hok
      try subst e
      obtain ⟨e, hok⟩ := g_pr hok
      try subst e
      obtain ⟨e, hok⟩ := g_pr hok
      try subst e
      obtain ⟨e, hok⟩ := g_pr hok
      try subst e
      obtain ⟨e, hok⟩ := g_pr hok
      try subst e
      obtain ⟨e, hok⟩ := g_pr hok
      try subst e
      obtain ⟨e, hok⟩ := g_pr hok
      try subst e
      obtain ⟨e, hok⟩ := g_pr hok
      try subst e
      obtain ⟨e, hok⟩ := g_pr hok
      try subst e
      cases hok
      exact cr_i hx hb hr hlocks hQ dX9_film_95 hP hS
    replace hok := g_neg hok c
    refine lv_bipush (v := -11) hx hb dX9_film_37 (by decide) ?_
    obtain ⟨e, hok⟩ := g_pr hok
    try subst e
    obtain ⟨e, hok⟩ := g_pr hok
    try subst e
    obtain ⟨e, hok⟩ := g_pr hok
    try subst e
    obtain ⟨e, hok⟩ := g_pr hok
    try subst e
    obtain ⟨e, hok⟩ := g_pr hok
    try subst e
    obtain ⟨e, hok⟩ := g_pr hok
    try subst e
    obtain ⟨e, hok⟩ := g_pr hok
    try subst e
    obtain ⟨e, hok⟩ := g_pr hok
    try subst e
    obtain ⟨e, hok⟩ := g_pr hok
    try subst e
    obtain ⟨e, hok⟩ := g_pr hok
    try subst e
    obtain ⟨e, hok⟩ := g_pr hok
    try subst e
    obtain ⟨e, hok⟩ := g_pr hok
    try subst e
    obtain ⟨e, hok⟩ := g_pr hok
    try subst e
    cases hok
    exact cr_i hx hb hr hlocks hQ dX9_film_39 hP hS
  replace hok := g_pos hok c
  refine lv_iconst (v := -1) hx hb dX9_film_26 (by decide) ?_
  obtain ⟨e, hok⟩ := g_pr hok
  try subst e
  obtain ⟨e, hok⟩ := g_pr hok
  try subst e
  obtain ⟨e, hok⟩ := g_pr hok
  try subst e
  obtain ⟨e, hok⟩ := g_pr hok
  try subst e
  obtain ⟨e, hok⟩ := g_pr hok
  try subst e
  obtain ⟨e, hok⟩ := g_pr hok
  try subst e
  obtain ⟨e, hok⟩ := g_pr hok
  try subst e
  obtain ⟨e, hok⟩ := g_pr hok
  try subst e
  obtain ⟨e, hok⟩ := g_pr hok
  try subst e
  obtain ⟨e, hok⟩ := g_pr hok
  try subst e
  obtain ⟨e, hok⟩ := g_pr hok
  try subst e
  obtain ⟨e, hok⟩ := g_pr hok
  try subst e
  obtain ⟨e, hok⟩ := g_pr hok
  try subst e
  cases hok
  exact cr_i hx hb hr hlocks hQ dX9_film_27 hP hS
