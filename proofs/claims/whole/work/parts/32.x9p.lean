set_option maxHeartbeats 40000000 in
set_option maxRecDepth 100000 in
theorem c_X9_fits (l : Launch) (G : va_G) (cA : Nat → ClassId) (ts : Nat → Nat) (h0 : Nat) (h0_g : Nat) (h0_p : Nat) (h0_rows : Nat) (h0_rows_e : Nat → Nat) (h0_sorts : Nat) (h0_sizes : Nat) (h0_outs : Nat) (h0_losses : Nat) (h0_kept : Nat) (h0_changed : Nat) (h0_causes : Nat) (h0_moved : Nat) (h0_levelOf : Nat) (h0_levelOften : Nat) (h0_to : Nat) (h0_round : Nat) (h0_tail : Nat) (h0_path : Nat) (h0_leastOn : Nat) (h0_period : Nat) (h0_amplitude : Nat) (h0_basin : Nat) (h0_numbered : Nat) (h0_isReached : Nat) (h0_tape : Nat) (h0_told : Nat) (h0_traced : Nat) (x1 : Int32) (x2 : Int32) (x3 : Int32) (s0__isKept : Int32) (s0__done : Int32) (s0__undoable : Int32) (s0__redoable : Int32) (s0__all : Int32) (s0__v : Int32) (s0__loss : Int32) (s0__isOver : Int32) (s0__hasCauses : Int32) (s0__outMany : Int32) (s0__overMany : Int32) (s0__isHalted : Int32) (s0__levelMany : Int32) (s0__rounds : Int32) (s0__stuck : Int32) (s0__onRounds : Int32) (s0__longest : Int32) (s0__loudest : Int32) (s0__reached : Int32) (s0__isAnyOver : Int32) (s0__taped : Int32) (s0__at : Int32) (s0__ran : Int32) (s0_g : Nat → Int32) (s0_p : Nat → Int32) (s0_rows_e : Nat → Nat → Int64) (s0_sorts : Nat → Int32) (s0_sizes : Nat → Int32) (s0_outs : Nat → Int32) (s0_losses : Nat → Int32) (r : Int32) (o0__all : Int32) (o0__v : Int32) (o0__loss : Int32) (o0__isOver : Int32) (o0__outMany : Int32) (o0__overMany : Int32) (o0__isHalted : Int32) (o0_g : Nat → Int32) (o0_p : Nat → Int32) (o0_outs : Nat → Int32) (o0_losses : Nat → Int32) (hok : fX9_fits x1 x2 x3 s0__all s0__v s0__loss s0__isOver s0__outMany s0__overMany s0__isHalted s0_g s0_p s0_rows_e s0_sorts s0_sizes s0_outs s0_losses = some (r, o0__all, o0__v, o0__loss, o0__isOver, o0__outMany, o0__overMany, o0__isHalted, o0_g, o0_p, o0_outs, o0_losses)) : Ct l G cA ts yX9_fits wsX9_fits 7 184 [.ref h0, .int x1, .int x2, .int x3] (wm_X9_output cA h0 h0_g h0_p h0_rows h0_rows_e h0_sorts h0_sizes h0_outs h0_losses h0_kept h0_changed h0_causes h0_moved h0_levelOf h0_levelOften h0_to h0_round h0_tail h0_path h0_leastOn h0_period h0_amplitude h0_basin h0_numbered h0_isReached h0_tape h0_told h0_traced s0__isKept s0__done s0__undoable s0__redoable s0__all s0__v s0__loss s0__isOver s0__hasCauses s0__outMany s0__overMany s0__isHalted s0__levelMany s0__rounds s0__stuck s0__onRounds s0__longest s0__loudest s0__reached s0__isAnyOver s0__taped s0__at s0__ran s0_g s0_p s0_rows_e s0_sorts s0_sizes s0_outs s0_losses) (wm_X9_output cA h0 h0_g h0_p h0_rows h0_rows_e h0_sorts h0_sizes h0_outs h0_losses h0_kept h0_changed h0_causes h0_moved h0_levelOf h0_levelOften h0_to h0_round h0_tail h0_path h0_leastOn h0_period h0_amplitude h0_basin h0_numbered h0_isReached h0_tape h0_told h0_traced s0__isKept s0__done s0__undoable s0__redoable o0__all o0__v o0__loss o0__isOver s0__hasCauses o0__outMany o0__overMany o0__isHalted s0__levelMany s0__rounds s0__stuck s0__onRounds s0__longest s0__loudest s0__reached s0__isAnyOver s0__taped s0__at s0__ran o0_g o0_p s0_rows_e s0_sorts s0_sizes o0_outs o0_losses) (some (.int r)) := by
  refine Ct.intro (cc := cX9_fits) (maxL := 4) (ret := some .int) (by decide +kernel) rfl (Nat.le_of_ble_eq_true rfl) ?_
  intro p e s m ar below meth c A Q hx hb hr hml hown hlocks hts hK hZ hA hQ hP hD hS ls hl
  have hown : s.vm.findClass RX9 = some m.cls := hown
  have hinX9 : ∀ w ∈ wsX90, w ∈ wsX9_fits := fun _ h => List.mem_cons_of_mem _ (List.mem_append_right _ (h))
  have hl : lv_has ls 4 [(0, .ref h0), (1, .int x1), (2, .int x2), (3, .int x3)] := hl
  have hP : va_P G vwCl (wm_X9_output cA h0 h0_g h0_p h0_rows h0_rows_e h0_sorts h0_sizes h0_outs h0_losses h0_kept h0_changed h0_causes h0_moved h0_levelOf h0_levelOften h0_to h0_round h0_tail h0_path h0_leastOn h0_period h0_amplitude h0_basin h0_numbered h0_isReached h0_tape h0_told h0_traced s0__isKept s0__done s0__undoable s0__redoable s0__all s0__v s0__loss s0__isOver s0__hasCauses s0__outMany s0__overMany s0__isHalted s0__levelMany s0__rounds s0__stuck s0__onRounds s0__longest s0__loudest s0__reached s0__isAnyOver s0__taped s0__at s0__ran s0_g s0_p s0_rows_e s0_sorts s0_sizes s0_outs s0_losses) s.heap := hP
  have hD : va_D A (wm_X9_output cA h0 h0_g h0_p h0_rows h0_rows_e h0_sorts h0_sizes h0_outs h0_losses h0_kept h0_changed h0_causes h0_moved h0_levelOf h0_levelOften h0_to h0_round h0_tail h0_path h0_leastOn h0_period h0_amplitude h0_basin h0_numbered h0_isReached h0_tape h0_told h0_traced s0__isKept s0__done s0__undoable s0__redoable s0__all s0__v s0__loss s0__isOver s0__hasCauses s0__outMany s0__overMany s0__isHalted s0__levelMany s0__rounds s0__stuck s0__onRounds s0__longest s0__loudest s0__reached s0__isAnyOver s0__taped s0__at s0__ran s0_g s0_p s0_rows_e s0_sorts s0_sizes s0_outs s0_losses) := hD
  unfold fX9_fits at hok
  refine lv_iload_n hx hb dX9_fits_0 rfl (lv_at hl 1 rfl) ?_
  obtain ⟨r1, hq, hok⟩ := g_bnd1 hok
  refine cG (is := []) (wc := (wm_X0_find cA)) (w1 := (wm_X0_find cA)) (rv := (some (.int r1))) (st1 := [.int r1]) (va_runS (Ts := wsX9_fits) (As := [.int x1]) (rest := []) ⟨hx, hb, hml, hown, hts⟩ (c_X9_isRow l G cA ts x1 r1 hq s.heap.size) (va_cwS 1 hts gX9_fits_X9_isRow rfl rfl rfl (by decide +kernel) ⟨Nat.le_of_ble_eq_true rfl, Nat.le_of_ble_eq_true rfl⟩) (pre_S (is := []) hP hD hS hA hK hZ (by decide +kernel) (by rfl)) rfl rfl hl.1 rfl (by exact lv_room (Nat.le_of_ble_eq_true rfl)) dX9_fits_1 ⟨Nat.le_refl _, Nat.le_refl _⟩) hP hD hS hA (by decide +kernel) (by rfl) (by rfl) rfl (fun H locs hP hD hS => ?_)
  have hP : va_P G vwCl (wm_X9_output cA h0 h0_g h0_p h0_rows h0_rows_e h0_sorts h0_sizes h0_outs h0_losses h0_kept h0_changed h0_causes h0_moved h0_levelOf h0_levelOften h0_to h0_round h0_tail h0_path h0_leastOn h0_period h0_amplitude h0_basin h0_numbered h0_isReached h0_tape h0_told h0_traced s0__isKept s0__done s0__undoable s0__redoable s0__all s0__v s0__loss s0__isOver s0__hasCauses s0__outMany s0__overMany s0__isHalted s0__levelMany s0__rounds s0__stuck s0__onRounds s0__longest s0__loudest s0__reached s0__isAnyOver s0__taped s0__at s0__ran s0_g s0_p s0_rows_e s0_sorts s0_sizes s0_outs s0_losses) H := hP
  have hD : va_D A (wm_X9_output cA h0 h0_g h0_p h0_rows h0_rows_e h0_sorts h0_sizes h0_outs h0_losses h0_kept h0_changed h0_causes h0_moved h0_levelOf h0_levelOften h0_to h0_round h0_tail h0_path h0_leastOn h0_period h0_amplitude h0_basin h0_numbered h0_isReached h0_tape h0_told h0_traced s0__isKept s0__done s0__undoable s0__redoable s0__all s0__v s0__loss s0__isOver s0__hasCauses s0__outMany s0__overMany s0__isHalted s0__levelMany s0__rounds s0__stuck s0__onRounds s0__longest s0__loudest s0__reached s0__isAnyOver s0__taped s0__at s0__ran s0_g s0_p s0_rows_e s0_sorts s0_sizes s0_outs s0_losses) := hD
  refine lv_if_eq (tgt := 26) hx hb dX9_fits_4 (by decide) (fun c => ?_) (fun c => ?_)
  · replace hok := g_pos hok c
    refine lv_sipush (v := -1001) hx hb dX9_fits_26 (by decide) ?_
    obtain ⟨e, hok⟩ := g_pr hok
    try subst e
    obtain ⟨e, hok⟩ := g_pr hok
    try subst e
    obtain ⟨e, hok⟩ := g_pr hok
    try subst e
    obtain ⟨e, hok⟩ := g_pr hok
    try subst e
    obtain ⟨e, hok⟩ := g_pr hok
    try subst e
    obtain ⟨e, hok⟩ := g_pr hok
    try subst e
    obtain ⟨e, hok⟩ := g_pr hok
    try subst e
    obtain ⟨e, hok⟩ := g_pr hok
    try subst e
    obtain ⟨e, hok⟩ := g_pr hok
    try subst e
    obtain ⟨e, hok⟩ := g_pr hok
    try subst e
    obtain ⟨e, hok⟩ := g_pr hok
    try subst e
    cases hok
    exact cr_i hx hb hr hlocks hQ dX9_fits_29 hP hS
  replace hok := g_neg hok c
  refine lv_iload_n hx hb dX9_fits_7 rfl (lv_at hl 2 rfl) ?_
  obtain ⟨r2, hq, hok⟩ := g_bnd1 hok
  refine cG (is := []) (wc := (wm_X0_find cA)) (w1 := (wm_X0_find cA)) (rv := (some (.int r2))) (st1 := [.int r2]) (va_runS (Ts := wsX9_fits) (As := [.int x2]) (rest := []) ⟨hx, hb, hml, hown, hts⟩ (c_X9_isRow l G cA ts x2 r2 hq H.size) (va_cwS 1 hts gX9_fits_X9_isRow rfl rfl rfl (by decide +kernel) ⟨Nat.le_of_ble_eq_true rfl, Nat.le_of_ble_eq_true rfl⟩) (pre_S (is := []) hP hD hS hA hK hZ (by decide +kernel) (by rfl)) rfl rfl hl.1 rfl (by exact lv_room (Nat.le_of_ble_eq_true rfl)) dX9_fits_8 ⟨Nat.le_refl _, Nat.le_refl _⟩) hP hD hS hA (by decide +kernel) (by rfl) (by rfl) rfl (fun H locs hP hD hS => ?_)
  have hP : va_P G vwCl (wm_X9_output cA h0 h0_g h0_p h0_rows h0_rows_e h0_sorts h0_sizes h0_outs h0_losses h0_kept h0_changed h0_causes h0_moved h0_levelOf h0_levelOften h0_to h0_round h0_tail h0_path h0_leastOn h0_period h0_amplitude h0_basin h0_numbered h0_isReached h0_tape h0_told h0_traced s0__isKept s0__done s0__undoable s0__redoable s0__all s0__v s0__loss s0__isOver s0__hasCauses s0__outMany s0__overMany s0__isHalted s0__levelMany s0__rounds s0__stuck s0__onRounds s0__longest s0__loudest s0__reached s0__isAnyOver s0__taped s0__at s0__ran s0_g s0_p s0_rows_e s0_sorts s0_sizes s0_outs s0_losses) H := hP
  have hD : va_D A (wm_X9_output cA h0 h0_g h0_p h0_rows h0_rows_e h0_sorts h0_sizes h0_outs h0_losses h0_kept h0_changed h0_causes h0_moved h0_levelOf h0_levelOften h0_to h0_round h0_tail h0_path h0_leastOn h0_period h0_amplitude h0_basin h0_numbered h0_isReached h0_tape h0_told h0_traced s0__isKept s0__done s0__undoable s0__redoable s0__all s0__v s0__loss s0__isOver s0__hasCauses s0__outMany s0__overMany s0__isHalted s0__levelMany s0__rounds s0__stuck s0__onRounds s0__longest s0__loudest s0__reached s0__isAnyOver s0__taped s0__at s0__ran s0_g s0_p s0_rows_e s0_sorts s0_sizes s0_outs s0_losses) := hD
  refine lv_if_eq (tgt := 26) hx hb dX9_fits_11 (by decide) (fun c => ?_) (fun c => ?_)
  · replace hok := g_pos hok c
    refine lv_sipush (v := -1001) hx hb dX9_fits_26 (by decide) ?_
    obtain ⟨e, hok⟩ := g_pr hok
    try subst e
    obtain ⟨e, hok⟩ := g_pr hok
    try subst e
    obtain ⟨e, hok⟩ := g_pr hok
    try subst e
    obtain ⟨e, hok⟩ := g_pr hok
    try subst e
    obtain ⟨e, hok⟩ := g_pr hok
    try subst e
    obtain ⟨e, hok⟩ := g_pr hok
    try subst e
    obtain ⟨e, hok⟩ := g_pr hok
    try subst e
    obtain ⟨e, hok⟩ := g_pr hok
    try subst e
    obtain ⟨e, hok⟩ := g_pr hok
    try subst e
    obtain ⟨e, hok⟩ := g_pr hok
    try subst e
    obtain ⟨e, hok⟩ := g_pr hok
    try subst e
    cases hok
    exact cr_i hx hb hr hlocks hQ dX9_fits_29 hP hS
  replace hok := g_neg hok c
  refine lv_iload_n hx hb dX9_fits_14 rfl (lv_at hl 3 rfl) ?_
  refine lv_i2l (v := (x3.toInt64)) hx hb dX9_fits_15 rfl ?_
  refine lv_lconst (v := 0) hx hb dX9_fits_16 (by decide) ?_
  refine lv_ldc2 (v := 5) hx hb hown (hts _ (List.mem_of_getElem? (i := 1) rfl)) dX9_fits_17 ?_
  obtain ⟨r3, hq, hok⟩ := g_bnd1 hok
  refine cG (is := []) (wc := (wm_X0_find cA)) (w1 := (wm_X0_find cA)) (rv := (some (.int r3))) (st1 := [.int r3]) (va_runS (Ts := wsX9_fits) (As := [.long (x3.toInt64), .long (0:Int64), .long (5:Int64)]) (rest := []) ⟨hx, hb, hml, hown, hts⟩ (c_X9_in l G cA ts (x3.toInt64) (0:Int64) (5:Int64) r3 hq H.size) (va_cwS 3 hts gX9_fits_X9_in rfl rfl rfl (by decide +kernel) ⟨Nat.le_of_ble_eq_true rfl, Nat.le_of_ble_eq_true rfl⟩) (pre_S (is := []) hP hD hS hA hK hZ (by decide +kernel) (by rfl)) rfl rfl hl.1 rfl (by exact lv_room (Nat.le_of_ble_eq_true rfl)) dX9_fits_20 ⟨Nat.le_refl _, Nat.le_refl _⟩) hP hD hS hA (by decide +kernel) (by rfl) (by rfl) rfl (fun H locs hP hD hS => ?_)
  have hP : va_P G vwCl (wm_X9_output cA h0 h0_g h0_p h0_rows h0_rows_e h0_sorts h0_sizes h0_outs h0_losses h0_kept h0_changed h0_causes h0_moved h0_levelOf h0_levelOften h0_to h0_round h0_tail h0_path h0_leastOn h0_period h0_amplitude h0_basin h0_numbered h0_isReached h0_tape h0_told h0_traced s0__isKept s0__done s0__undoable s0__redoable s0__all s0__v s0__loss s0__isOver s0__hasCauses s0__outMany s0__overMany s0__isHalted s0__levelMany s0__rounds s0__stuck s0__onRounds s0__longest s0__loudest s0__reached s0__isAnyOver s0__taped s0__at s0__ran s0_g s0_p s0_rows_e s0_sorts s0_sizes s0_outs s0_losses) H := hP
  have hD : va_D A (wm_X9_output cA h0 h0_g h0_p h0_rows h0_rows_e h0_sorts h0_sizes h0_outs h0_losses h0_kept h0_changed h0_causes h0_moved h0_levelOf h0_levelOften h0_to h0_round h0_tail h0_path h0_leastOn h0_period h0_amplitude h0_basin h0_numbered h0_isReached h0_tape h0_told h0_traced s0__isKept s0__done s0__undoable s0__redoable s0__all s0__v s0__loss s0__isOver s0__hasCauses s0__outMany s0__overMany s0__isHalted s0__levelMany s0__rounds s0__stuck s0__onRounds s0__longest s0__loudest s0__reached s0__isAnyOver s0__taped s0__at s0__ran s0_g s0_p s0_rows_e s0_sorts s0_sizes s0_outs s0_losses) := hD
  refine lv_if_ne (tgt := 30) hx hb dX9_fits_23 (by decide) (fun c => ?_) (fun c => ?_)
  · replace hok := g_neg hok c
    refine lv_aload_n hx hb dX9_fits_30 rfl (lv_at hl 0 rfl) ?_
    refine va_get (ci := 9) (v := .ref h0_sorts) (C := RX9) (T := TX9) (N := 49) hx hb hts hinX9 hown hK hP 0 rfl rfl 15 (by decide) (hts _ (List.mem_of_getElem? (i := 2) rfl)) (fun _ h9 => h9) rfl dX9_fits_31 ?_
    refine lv_iload_n hx hb dX9_fits_34 rfl (lv_at hl 1 rfl) ?_
    obtain ⟨hin, hok⟩ := g_no hok
    refine x_iald (k := x1.toNatClampNeg) hx hb hK hP 8 0 rfl rfl hin rfl dX9_fits_35 ?_
    refine lv_if_lt (tgt := 48) hx hb dX9_fits_36 (by decide) (fun c => ?_) (fun c => ?_)
    · replace hok := g_pos hok c
      refine lv_sipush (v := -1011) hx hb dX9_fits_48 (by decide) ?_
      obtain ⟨e, hok⟩ := g_pr hok
      try subst e
      obtain ⟨e, hok⟩ := g_pr hok
      try subst e
      obtain ⟨e, hok⟩ := g_pr hok
      try subst e
      obtain ⟨e, hok⟩ := g_pr hok
      try subst e
      obtain ⟨e, hok⟩ := g_pr hok
      try subst e
      obtain ⟨e, hok⟩ := g_pr hok
      try subst e
      obtain ⟨e, hok⟩ := g_pr hok
      try subst e
      obtain ⟨e, hok⟩ := g_pr hok
      try subst e
      obtain ⟨e, hok⟩ := g_pr hok
      try subst e
      obtain ⟨e, hok⟩ := g_pr hok
      try subst e
      obtain ⟨e, hok⟩ := g_pr hok
      try subst e
      cases hok
      exact cr_i hx hb hr hlocks hQ dX9_fits_51 hP hS
    replace hok := g_neg hok c
    refine lv_aload_n hx hb dX9_fits_39 rfl (lv_at hl 0 rfl) ?_
    refine va_get (ci := 9) (v := .ref h0_sorts) (C := RX9) (T := TX9) (N := 49) hx hb hts hinX9 hown hK hP 0 rfl rfl 15 (by decide) (hts _ (List.mem_of_getElem? (i := 2) rfl)) (fun _ h9 => h9) rfl dX9_fits_40 ?_
    refine lv_iload_n hx hb dX9_fits_43 rfl (lv_at hl 2 rfl) ?_
    obtain ⟨hin, hok⟩ := g_no hok
    refine x_iald (k := x2.toNatClampNeg) hx hb hK hP 8 0 rfl rfl hin rfl dX9_fits_44 ?_
    refine lv_if_ge (tgt := 52) hx hb dX9_fits_45 (by decide) (fun c => ?_) (fun c => ?_)
    · replace hok := g_pos hok c
      refine lv_iload_n hx hb dX9_fits_52 rfl (lv_at hl 3 rfl) ?_
      by_cases c0 : x3 = 0
      · replace hok := g_pos hok c0
        have e9 : (x3).toInt = 0 := by rw [c0]; rfl
        refine lv_tableIn (tgt := 84) (off := 31) hx hb dX9_fits_53 (by rw [e9]; decide) (by rw [e9]; decide) (by rw [e9]; rfl) (by decide) ?_
        refine lv_aload_n hx hb dX9_fits_84 rfl (lv_at hl 0 rfl) ?_
        refine lv_bipush (v := 7) hx hb dX9_fits_85 (by decide) ?_
        refine lv_iconst (v := 4) hx hb dX9_fits_87 (by decide) ?_
        refine lv_iload_n hx hb dX9_fits_88 rfl (lv_at hl 1 rfl) ?_
        refine lv_iload_n hx hb dX9_fits_89 rfl (lv_at hl 2 rfl) ?_
        obtain ⟨r4, o5, o6, o7, o8, o9, o10, o11, o12, o13, o14, o15, hq, hok⟩ := g_bnd12 hok
        refine cG (is := [0, 1, 2, 3, 4, 5, 6, 7, 9, 10, 11]) (wc := (wm_X9_runs cA h0 h0_g h0_p h0_rows h0_rows_e h0_sizes h0_outs h0_losses h0_kept h0_changed h0_causes h0_sorts h0_moved h0_levelOf h0_levelOften h0_to h0_round h0_tail h0_path h0_leastOn h0_period h0_amplitude h0_basin h0_numbered h0_isReached h0_tape h0_told h0_traced s0__isKept s0__done s0__undoable s0__redoable s0__all s0__v s0__loss s0__isOver s0__hasCauses s0__outMany s0__overMany s0__isHalted s0__levelMany s0__rounds s0__stuck s0__onRounds s0__longest s0__loudest s0__reached s0__isAnyOver s0__taped s0__at s0__ran s0_g s0_p s0_rows_e s0_sizes s0_outs s0_losses)) (w1 := (wm_X9_runs cA h0 h0_g h0_p h0_rows h0_rows_e h0_sizes h0_outs h0_losses h0_kept h0_changed h0_causes h0_sorts h0_moved h0_levelOf h0_levelOften h0_to h0_round h0_tail h0_path h0_leastOn h0_period h0_amplitude h0_basin h0_numbered h0_isReached h0_tape h0_told h0_traced s0__isKept s0__done s0__undoable s0__redoable o5 o6 o7 o8 s0__hasCauses o9 o10 o11 s0__levelMany s0__rounds s0__stuck s0__onRounds s0__longest s0__loudest s0__reached s0__isAnyOver s0__taped s0__at s0__ran o12 o13 s0_rows_e s0_sizes o14 o15)) (rv := (some (.int r4))) (st1 := [.int r4]) (va_runV (Ts := wsX9_fits) (As := [.int (7:Int32), .int (4:Int32), .int x1, .int x2]) (rest := []) ⟨hx, hb, hml, hown, hts⟩ (c_X9_setBy l G cA ts h0 h0_g h0_p h0_rows h0_rows_e h0_sizes h0_outs h0_losses h0_kept h0_changed h0_causes h0_sorts h0_moved h0_levelOf h0_levelOften h0_to h0_round h0_tail h0_path h0_leastOn h0_period h0_amplitude h0_basin h0_numbered h0_isReached h0_tape h0_told h0_traced (7:Int32) (4:Int32) x1 x2 s0__isKept s0__done s0__undoable s0__redoable s0__all s0__v s0__loss s0__isOver s0__hasCauses s0__outMany s0__overMany s0__isHalted s0__levelMany s0__rounds s0__stuck s0__onRounds s0__longest s0__loudest s0__reached s0__isAnyOver s0__taped s0__at s0__ran s0_g s0_p s0_rows_e s0_sizes s0_outs s0_losses r4 o5 o6 o7 o8 o9 o10 o11 o12 o13 o14 o15 hq H.size) (cwV 4 hts gX9_fits_X9_setBy rfl rfl rfl (by decide +kernel) ⟨Nat.le_of_ble_eq_true rfl, Nat.le_of_ble_eq_true rfl⟩) (pre_V (ci := 9) (q0 := 0) (is := [0, 1, 2, 3, 4, 5, 6, 7, 9, 10, 11]) rfl rfl hP hD hS hA hK hZ (by decide +kernel) (by rfl)) rfl rfl hl.1 rfl (by exact lv_room (Nat.le_of_ble_eq_true rfl)) dX9_fits_90 ⟨Nat.le_refl _, Nat.le_refl _⟩) hP hD hS hA (by decide +kernel) (by rfl) (by rfl) rfl (fun H locs hP hD hS => ?_)
        obtain ⟨hP, hD⟩ : va_P G vwCl (wm_X9_output cA h0 h0_g h0_p h0_rows h0_rows_e h0_sorts h0_sizes h0_outs h0_losses h0_kept h0_changed h0_causes h0_moved h0_levelOf h0_levelOften h0_to h0_round h0_tail h0_path h0_leastOn h0_period h0_amplitude h0_basin h0_numbered h0_isReached h0_tape h0_told h0_traced s0__isKept s0__done s0__undoable s0__redoable o5 o6 o7 o8 s0__hasCauses o9 o10 o11 s0__levelMany s0__rounds s0__stuck s0__onRounds s0__longest s0__loudest s0__reached s0__isAnyOver s0__taped s0__at s0__ran o12 o13 s0_rows_e s0_sorts s0_sizes o14 o15) H ∧ va_D A (wm_X9_output cA h0 h0_g h0_p h0_rows h0_rows_e h0_sorts h0_sizes h0_outs h0_losses h0_kept h0_changed h0_causes h0_moved h0_levelOf h0_levelOften h0_to h0_round h0_tail h0_path h0_leastOn h0_period h0_amplitude h0_basin h0_numbered h0_isReached h0_tape h0_told h0_traced s0__isKept s0__done s0__undoable s0__redoable o5 o6 o7 o8 s0__hasCauses o9 o10 o11 s0__levelMany s0__rounds s0__stuck s0__onRounds s0__longest s0__loudest s0__reached s0__isAnyOver s0__taped s0__at s0__ran o12 o13 s0_rows_e s0_sorts s0_sizes o14 o15) := PD_eq hP hD (rp_eq (js := [8]) 12 (by decide +kernel) rfl rfl (by rfl) (by rfl) (by decide +kernel))
        obtain ⟨e, hok⟩ := g_pr hok
        try subst e
        obtain ⟨e, hok⟩ := g_pr hok
        try subst e
        obtain ⟨e, hok⟩ := g_pr hok
        try subst e
        obtain ⟨e, hok⟩ := g_pr hok
        try subst e
        obtain ⟨e, hok⟩ := g_pr hok
        try subst e
        obtain ⟨e, hok⟩ := g_pr hok
        try subst e
        obtain ⟨e, hok⟩ := g_pr hok
        try subst e
        obtain ⟨e, hok⟩ := g_pr hok
        try subst e
        obtain ⟨e, hok⟩ := g_pr hok
        try subst e
        obtain ⟨e, hok⟩ := g_pr hok
        try subst e
        obtain ⟨e, hok⟩ := g_pr hok
        try subst e
        cases hok
        exact cr_i hx hb hr hlocks hQ dX9_fits_93 hP hS
      replace hok := g_neg hok c0
      by_cases c1 : x3 = 1
      · replace hok := g_pos hok c1
        have e9 : (x3).toInt = 1 := by rw [c1]; rfl
        refine lv_tableIn (tgt := 94) (off := 41) hx hb dX9_fits_53 (by rw [e9]; decide) (by rw [e9]; decide) (by rw [e9]; rfl) (by decide) ?_
        refine lv_aload_n hx hb dX9_fits_94 rfl (lv_at hl 0 rfl) ?_
        refine lv_bipush (v := 8) hx hb dX9_fits_95 (by decide) ?_
        refine lv_iconst (v := 4) hx hb dX9_fits_97 (by decide) ?_
        refine lv_iload_n hx hb dX9_fits_98 rfl (lv_at hl 1 rfl) ?_
        refine lv_iload_n hx hb dX9_fits_99 rfl (lv_at hl 2 rfl) ?_
        obtain ⟨r16, o17, o18, o19, o20, o21, o22, o23, o24, o25, o26, o27, hq, hok⟩ := g_bnd12 hok
        refine cG (is := [0, 1, 2, 3, 4, 5, 6, 7, 9, 10, 11]) (wc := (wm_X9_runs cA h0 h0_g h0_p h0_rows h0_rows_e h0_sizes h0_outs h0_losses h0_kept h0_changed h0_causes h0_sorts h0_moved h0_levelOf h0_levelOften h0_to h0_round h0_tail h0_path h0_leastOn h0_period h0_amplitude h0_basin h0_numbered h0_isReached h0_tape h0_told h0_traced s0__isKept s0__done s0__undoable s0__redoable s0__all s0__v s0__loss s0__isOver s0__hasCauses s0__outMany s0__overMany s0__isHalted s0__levelMany s0__rounds s0__stuck s0__onRounds s0__longest s0__loudest s0__reached s0__isAnyOver s0__taped s0__at s0__ran s0_g s0_p s0_rows_e s0_sizes s0_outs s0_losses)) (w1 := (wm_X9_runs cA h0 h0_g h0_p h0_rows h0_rows_e h0_sizes h0_outs h0_losses h0_kept h0_changed h0_causes h0_sorts h0_moved h0_levelOf h0_levelOften h0_to h0_round h0_tail h0_path h0_leastOn h0_period h0_amplitude h0_basin h0_numbered h0_isReached h0_tape h0_told h0_traced s0__isKept s0__done s0__undoable s0__redoable o17 o18 o19 o20 s0__hasCauses o21 o22 o23 s0__levelMany s0__rounds s0__stuck s0__onRounds s0__longest s0__loudest s0__reached s0__isAnyOver s0__taped s0__at s0__ran o24 o25 s0_rows_e s0_sizes o26 o27)) (rv := (some (.int r16))) (st1 := [.int r16]) (va_runV (Ts := wsX9_fits) (As := [.int (8:Int32), .int (4:Int32), .int x1, .int x2]) (rest := []) ⟨hx, hb, hml, hown, hts⟩ (c_X9_setBy l G cA ts h0 h0_g h0_p h0_rows h0_rows_e h0_sizes h0_outs h0_losses h0_kept h0_changed h0_causes h0_sorts h0_moved h0_levelOf h0_levelOften h0_to h0_round h0_tail h0_path h0_leastOn h0_period h0_amplitude h0_basin h0_numbered h0_isReached h0_tape h0_told h0_traced (8:Int32) (4:Int32) x1 x2 s0__isKept s0__done s0__undoable s0__redoable s0__all s0__v s0__loss s0__isOver s0__hasCauses s0__outMany s0__overMany s0__isHalted s0__levelMany s0__rounds s0__stuck s0__onRounds s0__longest s0__loudest s0__reached s0__isAnyOver s0__taped s0__at s0__ran s0_g s0_p s0_rows_e s0_sizes s0_outs s0_losses r16 o17 o18 o19 o20 o21 o22 o23 o24 o25 o26 o27 hq H.size) (cwV 4 hts gX9_fits_X9_setBy rfl rfl rfl (by decide +kernel) ⟨Nat.le_of_ble_eq_true rfl, Nat.le_of_ble_eq_true rfl⟩) (pre_V (ci := 9) (q0 := 0) (is := [0, 1, 2, 3, 4, 5, 6, 7, 9, 10, 11]) rfl rfl hP hD hS hA hK hZ (by decide +kernel) (by rfl)) rfl rfl hl.1 rfl (by exact lv_room (Nat.le_of_ble_eq_true rfl)) dX9_fits_100 ⟨Nat.le_refl _, Nat.le_refl _⟩) hP hD hS hA (by decide +kernel) (by rfl) (by rfl) rfl (fun H locs hP hD hS => ?_)
        obtain ⟨hP, hD⟩ : va_P G vwCl (wm_X9_output cA h0 h0_g h0_p h0_rows h0_rows_e h0_sorts h0_sizes h0_outs h0_losses h0_kept h0_changed h0_causes h0_moved h0_levelOf h0_levelOften h0_to h0_round h0_tail h0_path h0_leastOn h0_period h0_amplitude h0_basin h0_numbered h0_isReached h0_tape h0_told h0_traced s0__isKept s0__done s0__undoable s0__redoable o17 o18 o19 o20 s0__hasCauses o21 o22 o23 s0__levelMany s0__rounds s0__stuck s0__onRounds s0__longest s0__loudest s0__reached s0__isAnyOver s0__taped s0__at s0__ran o24 o25 s0_rows_e s0_sorts s0_sizes o26 o27) H ∧ va_D A (wm_X9_output cA h0 h0_g h0_p h0_rows h0_rows_e h0_sorts h0_sizes h0_outs h0_losses h0_kept h0_changed h0_causes h0_moved h0_levelOf h0_levelOften h0_to h0_round h0_tail h0_path h0_leastOn h0_period h0_amplitude h0_basin h0_numbered h0_isReached h0_tape h0_told h0_traced s0__isKept s0__done s0__undoable s0__redoable o17 o18 o19 o20 s0__hasCauses o21 o22 o23 s0__levelMany s0__rounds s0__stuck s0__onRounds s0__longest s0__loudest s0__reached s0__isAnyOver s0__taped s0__at s0__ran o24 o25 s0_rows_e s0_sorts s0_sizes o26 o27) := PD_eq hP hD (rp_eq (js := [8]) 12 (by decide +kernel) rfl rfl (by rfl) (by rfl) (by decide +kernel))
        obtain ⟨e, hok⟩ := g_pr hok
        try subst e
        obtain ⟨e, hok⟩ := g_pr hok
        try subst e
        obtain ⟨e, hok⟩ := g_pr hok
        try subst e
        obtain ⟨e, hok⟩ := g_pr hok
        try subst e
        obtain ⟨e, hok⟩ := g_pr hok
        try subst e
        obtain ⟨e, hok⟩ := g_pr hok
        try subst e
        obtain ⟨e, hok⟩ := g_pr hok
        try subst e
        obtain ⟨e, hok⟩ := g_pr hok
        try subst e
        obtain ⟨e, hok⟩ := g_pr hok
        try subst e
        obtain ⟨e, hok⟩ := g_pr hok
        try subst e
        obtain ⟨e, hok⟩ := g_pr hok
        try subst e
        cases hok
        exact cr_i hx hb hr hlocks hQ dX9_fits_103 hP hS
      replace hok := g_neg hok c1
      by_cases c2 : x3 = 2
      · replace hok := g_pos hok c2
        have e9 : (x3).toInt = 2 := by rw [c2]; rfl
        refine lv_tableIn (tgt := 104) (off := 51) hx hb dX9_fits_53 (by rw [e9]; decide) (by rw [e9]; decide) (by rw [e9]; rfl) (by decide) ?_
        refine lv_aload_n hx hb dX9_fits_104 rfl (lv_at hl 0 rfl) ?_
        refine lv_bipush (v := 6) hx hb dX9_fits_105 (by decide) ?_
        refine lv_bipush (v := 6) hx hb dX9_fits_107 (by decide) ?_
        refine lv_iload_n hx hb dX9_fits_109 rfl (lv_at hl 1 rfl) ?_
        refine lv_iload_n hx hb dX9_fits_110 rfl (lv_at hl 2 rfl) ?_
        obtain ⟨r28, o29, o30, o31, o32, o33, o34, o35, o36, o37, o38, o39, hq, hok⟩ := g_bnd12 hok
        refine cG (is := [0, 1, 2, 3, 4, 5, 6, 7, 9, 10, 11]) (wc := (wm_X9_runs cA h0 h0_g h0_p h0_rows h0_rows_e h0_sizes h0_outs h0_losses h0_kept h0_changed h0_causes h0_sorts h0_moved h0_levelOf h0_levelOften h0_to h0_round h0_tail h0_path h0_leastOn h0_period h0_amplitude h0_basin h0_numbered h0_isReached h0_tape h0_told h0_traced s0__isKept s0__done s0__undoable s0__redoable s0__all s0__v s0__loss s0__isOver s0__hasCauses s0__outMany s0__overMany s0__isHalted s0__levelMany s0__rounds s0__stuck s0__onRounds s0__longest s0__loudest s0__reached s0__isAnyOver s0__taped s0__at s0__ran s0_g s0_p s0_rows_e s0_sizes s0_outs s0_losses)) (w1 := (wm_X9_runs cA h0 h0_g h0_p h0_rows h0_rows_e h0_sizes h0_outs h0_losses h0_kept h0_changed h0_causes h0_sorts h0_moved h0_levelOf h0_levelOften h0_to h0_round h0_tail h0_path h0_leastOn h0_period h0_amplitude h0_basin h0_numbered h0_isReached h0_tape h0_told h0_traced s0__isKept s0__done s0__undoable s0__redoable o29 o30 o31 o32 s0__hasCauses o33 o34 o35 s0__levelMany s0__rounds s0__stuck s0__onRounds s0__longest s0__loudest s0__reached s0__isAnyOver s0__taped s0__at s0__ran o36 o37 s0_rows_e s0_sizes o38 o39)) (rv := (some (.int r28))) (st1 := [.int r28]) (va_runV (Ts := wsX9_fits) (As := [.int (6:Int32), .int (6:Int32), .int x1, .int x2]) (rest := []) ⟨hx, hb, hml, hown, hts⟩ (c_X9_setBy l G cA ts h0 h0_g h0_p h0_rows h0_rows_e h0_sizes h0_outs h0_losses h0_kept h0_changed h0_causes h0_sorts h0_moved h0_levelOf h0_levelOften h0_to h0_round h0_tail h0_path h0_leastOn h0_period h0_amplitude h0_basin h0_numbered h0_isReached h0_tape h0_told h0_traced (6:Int32) (6:Int32) x1 x2 s0__isKept s0__done s0__undoable s0__redoable s0__all s0__v s0__loss s0__isOver s0__hasCauses s0__outMany s0__overMany s0__isHalted s0__levelMany s0__rounds s0__stuck s0__onRounds s0__longest s0__loudest s0__reached s0__isAnyOver s0__taped s0__at s0__ran s0_g s0_p s0_rows_e s0_sizes s0_outs s0_losses r28 o29 o30 o31 o32 o33 o34 o35 o36 o37 o38 o39 hq H.size) (cwV 4 hts gX9_fits_X9_setBy rfl rfl rfl (by decide +kernel) ⟨Nat.le_of_ble_eq_true rfl, Nat.le_of_ble_eq_true rfl⟩) (pre_V (ci := 9) (q0 := 0) (is := [0, 1, 2, 3, 4, 5, 6, 7, 9, 10, 11]) rfl rfl hP hD hS hA hK hZ (by decide +kernel) (by rfl)) rfl rfl hl.1 rfl (by exact lv_room (Nat.le_of_ble_eq_true rfl)) dX9_fits_111 ⟨Nat.le_refl _, Nat.le_refl _⟩) hP hD hS hA (by decide +kernel) (by rfl) (by rfl) rfl (fun H locs hP hD hS => ?_)
        obtain ⟨hP, hD⟩ : va_P G vwCl (wm_X9_output cA h0 h0_g h0_p h0_rows h0_rows_e h0_sorts h0_sizes h0_outs h0_losses h0_kept h0_changed h0_causes h0_moved h0_levelOf h0_levelOften h0_to h0_round h0_tail h0_path h0_leastOn h0_period h0_amplitude h0_basin h0_numbered h0_isReached h0_tape h0_told h0_traced s0__isKept s0__done s0__undoable s0__redoable o29 o30 o31 o32 s0__hasCauses o33 o34 o35 s0__levelMany s0__rounds s0__stuck s0__onRounds s0__longest s0__loudest s0__reached s0__isAnyOver s0__taped s0__at s0__ran o36 o37 s0_rows_e s0_sorts s0_sizes o38 o39) H ∧ va_D A (wm_X9_output cA h0 h0_g h0_p h0_rows h0_rows_e h0_sorts h0_sizes h0_outs h0_losses h0_kept h0_changed h0_causes h0_moved h0_levelOf h0_levelOften h0_to h0_round h0_tail h0_path h0_leastOn h0_period h0_amplitude h0_basin h0_numbered h0_isReached h0_tape h0_told h0_traced s0__isKept s0__done s0__undoable s0__redoable o29 o30 o31 o32 s0__hasCauses o33 o34 o35 s0__levelMany s0__rounds s0__stuck s0__onRounds s0__longest s0__loudest s0__reached s0__isAnyOver s0__taped s0__at s0__ran o36 o37 s0_rows_e s0_sorts s0_sizes o38 o39) := PD_eq hP hD (rp_eq (js := [8]) 12 (by decide +kernel) rfl rfl (by rfl) (by rfl) (by decide +kernel))
        obtain ⟨e, hok⟩ := g_pr hok
        try subst e
        obtain ⟨e, hok⟩ := g_pr hok
        try subst e
        obtain ⟨e, hok⟩ := g_pr hok
        try subst e
        obtain ⟨e, hok⟩ := g_pr hok
        try subst e
        obtain ⟨e, hok⟩ := g_pr hok
        try subst e
        obtain ⟨e, hok⟩ := g_pr hok
        try subst e
        obtain ⟨e, hok⟩ := g_pr hok
        try subst e
        obtain ⟨e, hok⟩ := g_pr hok
        try subst e
        obtain ⟨e, hok⟩ := g_pr hok
        try subst e
        obtain ⟨e, hok⟩ := g_pr hok
        try subst e
        obtain ⟨e, hok⟩ := g_pr hok
        try subst e
        cases hok
        exact cr_i hx hb hr hlocks hQ dX9_fits_114 hP hS
      replace hok := g_neg hok c2
      by_cases c3 : x3 = 3
      · replace hok := g_pos hok c3
        have e9 : (x3).toInt = 3 := by rw [c3]; rfl
        refine lv_tableIn (tgt := 115) (off := 62) hx hb dX9_fits_53 (by rw [e9]; decide) (by rw [e9]; decide) (by rw [e9]; rfl) (by decide) ?_
        refine lv_aload_n hx hb dX9_fits_115 rfl (lv_at hl 0 rfl) ?_
        refine lv_bipush (v := 9) hx hb dX9_fits_116 (by decide) ?_
        refine lv_iconst (v := 1) hx hb dX9_fits_118 (by decide) ?_
        refine lv_iload_n hx hb dX9_fits_119 rfl (lv_at hl 1 rfl) ?_
        refine lv_iload_n hx hb dX9_fits_120 rfl (lv_at hl 2 rfl) ?_
        obtain ⟨r40, o41, o42, o43, o44, o45, o46, o47, o48, o49, o50, o51, hq, hok⟩ := g_bnd12 hok
        refine cG (is := [0, 1, 2, 3, 4, 5, 6, 7, 9, 10, 11]) (wc := (wm_X9_runs cA h0 h0_g h0_p h0_rows h0_rows_e h0_sizes h0_outs h0_losses h0_kept h0_changed h0_causes h0_sorts h0_moved h0_levelOf h0_levelOften h0_to h0_round h0_tail h0_path h0_leastOn h0_period h0_amplitude h0_basin h0_numbered h0_isReached h0_tape h0_told h0_traced s0__isKept s0__done s0__undoable s0__redoable s0__all s0__v s0__loss s0__isOver s0__hasCauses s0__outMany s0__overMany s0__isHalted s0__levelMany s0__rounds s0__stuck s0__onRounds s0__longest s0__loudest s0__reached s0__isAnyOver s0__taped s0__at s0__ran s0_g s0_p s0_rows_e s0_sizes s0_outs s0_losses)) (w1 := (wm_X9_runs cA h0 h0_g h0_p h0_rows h0_rows_e h0_sizes h0_outs h0_losses h0_kept h0_changed h0_causes h0_sorts h0_moved h0_levelOf h0_levelOften h0_to h0_round h0_tail h0_path h0_leastOn h0_period h0_amplitude h0_basin h0_numbered h0_isReached h0_tape h0_told h0_traced s0__isKept s0__done s0__undoable s0__redoable o41 o42 o43 o44 s0__hasCauses o45 o46 o47 s0__levelMany s0__rounds s0__stuck s0__onRounds s0__longest s0__loudest s0__reached s0__isAnyOver s0__taped s0__at s0__ran o48 o49 s0_rows_e s0_sizes o50 o51)) (rv := (some (.int r40))) (st1 := [.int r40]) (va_runV (Ts := wsX9_fits) (As := [.int (9:Int32), .int (1:Int32), .int x1, .int x2]) (rest := []) ⟨hx, hb, hml, hown, hts⟩ (c_X9_setBy l G cA ts h0 h0_g h0_p h0_rows h0_rows_e h0_sizes h0_outs h0_losses h0_kept h0_changed h0_causes h0_sorts h0_moved h0_levelOf h0_levelOften h0_to h0_round h0_tail h0_path h0_leastOn h0_period h0_amplitude h0_basin h0_numbered h0_isReached h0_tape h0_told h0_traced (9:Int32) (1:Int32) x1 x2 s0__isKept s0__done s0__undoable s0__redoable s0__all s0__v s0__loss s0__isOver s0__hasCauses s0__outMany s0__overMany s0__isHalted s0__levelMany s0__rounds s0__stuck s0__onRounds s0__longest s0__loudest s0__reached s0__isAnyOver s0__taped s0__at s0__ran s0_g s0_p s0_rows_e s0_sizes s0_outs s0_losses r40 o41 o42 o43 o44 o45 o46 o47 o48 o49 o50 o51 hq H.size) (cwV 4 hts gX9_fits_X9_setBy rfl rfl rfl (by decide +kernel) ⟨Nat.le_of_ble_eq_true rfl, Nat.le_of_ble_eq_true rfl⟩) (pre_V (ci := 9) (q0 := 0) (is := [0, 1, 2, 3, 4, 5, 6, 7, 9, 10, 11]) rfl rfl hP hD hS hA hK hZ (by decide +kernel) (by rfl)) rfl rfl hl.1 rfl (by exact lv_room (Nat.le_of_ble_eq_true rfl)) dX9_fits_121 ⟨Nat.le_refl _, Nat.le_refl _⟩) hP hD hS hA (by decide +kernel) (by rfl) (by rfl) rfl (fun H locs hP hD hS => ?_)
        obtain ⟨hP, hD⟩ : va_P G vwCl (wm_X9_output cA h0 h0_g h0_p h0_rows h0_rows_e h0_sorts h0_sizes h0_outs h0_losses h0_kept h0_changed h0_causes h0_moved h0_levelOf h0_levelOften h0_to h0_round h0_tail h0_path h0_leastOn h0_period h0_amplitude h0_basin h0_numbered h0_isReached h0_tape h0_told h0_traced s0__isKept s0__done s0__undoable s0__redoable o41 o42 o43 o44 s0__hasCauses o45 o46 o47 s0__levelMany s0__rounds s0__stuck s0__onRounds s0__longest s0__loudest s0__reached s0__isAnyOver s0__taped s0__at s0__ran o48 o49 s0_rows_e s0_sorts s0_sizes o50 o51) H ∧ va_D A (wm_X9_output cA h0 h0_g h0_p h0_rows h0_rows_e h0_sorts h0_sizes h0_outs h0_losses h0_kept h0_changed h0_causes h0_moved h0_levelOf h0_levelOften h0_to h0_round h0_tail h0_path h0_leastOn h0_period h0_amplitude h0_basin h0_numbered h0_isReached h0_tape h0_told h0_traced s0__isKept s0__done s0__undoable s0__redoable o41 o42 o43 o44 s0__hasCauses o45 o46 o47 s0__levelMany s0__rounds s0__stuck s0__onRounds s0__longest s0__loudest s0__reached s0__isAnyOver s0__taped s0__at s0__ran o48 o49 s0_rows_e s0_sorts s0_sizes o50 o51) := PD_eq hP hD (rp_eq (js := [8]) 12 (by decide +kernel) rfl rfl (by rfl) (by rfl) (by decide +kernel))
        obtain ⟨e, hok⟩ := g_pr hok
        try subst e
        obtain ⟨e, hok⟩ := g_pr hok
        try subst e
        obtain ⟨e, hok⟩ := g_pr hok
        try subst e
        obtain ⟨e, hok⟩ := g_pr hok
        try subst e
        obtain ⟨e, hok⟩ := g_pr hok
        try subst e
        obtain ⟨e, hok⟩ := g_pr hok
        try subst e
        obtain ⟨e, hok⟩ := g_pr hok
        try subst e
        obtain ⟨e, hok⟩ := g_pr hok
        try subst e
        obtain ⟨e, hok⟩ := g_pr hok
        try subst e
        obtain ⟨e, hok⟩ := g_pr hok
        try subst e
        obtain ⟨e, hok⟩ := g_pr hok
        try subst e
        cases hok
        exact cr_i hx hb hr hlocks hQ dX9_fits_124 hP hS
      replace hok := g_neg hok c3
      refine lv_tableOut (tgt := 125) hx hb dX9_fits_53 (by have b0 := lv_neT (a := 0) c0 rfl; have b1 := lv_neT (a := 1) c1 rfl; have b2 := lv_neT (a := 2) c2 rfl; have b3 := lv_neT (a := 3) c3 rfl; omega) (by decide) ?_
      refine lv_aload_n hx hb dX9_fits_125 rfl (lv_at hl 0 rfl) ?_
      refine lv_iload_n hx hb dX9_fits_126 rfl (lv_at hl 1 rfl) ?_
      refine lv_iload_n hx hb dX9_fits_127 rfl (lv_at hl 2 rfl) ?_
      refine lv_iload_n hx hb dX9_fits_128 rfl (lv_at hl 3 rfl) ?_
      refine lv_iconst (v := 5) hx hb dX9_fits_129 (by decide) ?_
      refine lv_icmp_ne (tgt := 137) hx hb dX9_fits_130 (by decide) (fun c => ?_) (fun c => ?_)
      · replace hok := g_neg hok c
        refine lv_iconst (v := 0) hx hb dX9_fits_137 (by decide) ?_
        obtain ⟨r52, o53, o54, o55, o56, o57, o58, o59, o60, o61, o62, o63, hq, hok⟩ := g_bnd12 hok
        refine cG (is := [0, 1, 2, 3, 4, 5, 6, 7, 9, 10, 11]) (wc := (wm_X9_runs cA h0 h0_g h0_p h0_rows h0_rows_e h0_sizes h0_outs h0_losses h0_kept h0_changed h0_causes h0_sorts h0_moved h0_levelOf h0_levelOften h0_to h0_round h0_tail h0_path h0_leastOn h0_period h0_amplitude h0_basin h0_numbered h0_isReached h0_tape h0_told h0_traced s0__isKept s0__done s0__undoable s0__redoable s0__all s0__v s0__loss s0__isOver s0__hasCauses s0__outMany s0__overMany s0__isHalted s0__levelMany s0__rounds s0__stuck s0__onRounds s0__longest s0__loudest s0__reached s0__isAnyOver s0__taped s0__at s0__ran s0_g s0_p s0_rows_e s0_sizes s0_outs s0_losses)) (w1 := (wm_X9_runs cA h0 h0_g h0_p h0_rows h0_rows_e h0_sizes h0_outs h0_losses h0_kept h0_changed h0_causes h0_sorts h0_moved h0_levelOf h0_levelOften h0_to h0_round h0_tail h0_path h0_leastOn h0_period h0_amplitude h0_basin h0_numbered h0_isReached h0_tape h0_told h0_traced s0__isKept s0__done s0__undoable s0__redoable o53 o54 o55 o56 s0__hasCauses o57 o58 o59 s0__levelMany s0__rounds s0__stuck s0__onRounds s0__longest s0__loudest s0__reached s0__isAnyOver s0__taped s0__at s0__ran o60 o61 s0_rows_e s0_sizes o62 o63)) (rv := (some (.int r52))) (st1 := [.int r52]) (va_runV (Ts := wsX9_fits) (As := [.int x1, .int x2, .int (0:Int32)]) (rest := []) ⟨hx, hb, hml, hown, hts⟩ (c_X9_coefficient l G cA ts h0 h0_g h0_p h0_rows h0_rows_e h0_sizes h0_outs h0_losses h0_kept h0_changed h0_causes h0_sorts h0_moved h0_levelOf h0_levelOften h0_to h0_round h0_tail h0_path h0_leastOn h0_period h0_amplitude h0_basin h0_numbered h0_isReached h0_tape h0_told h0_traced x1 x2 (0:Int32) s0__isKept s0__done s0__undoable s0__redoable s0__all s0__v s0__loss s0__isOver s0__hasCauses s0__outMany s0__overMany s0__isHalted s0__levelMany s0__rounds s0__stuck s0__onRounds s0__longest s0__loudest s0__reached s0__isAnyOver s0__taped s0__at s0__ran s0_g s0_p s0_rows_e s0_sizes s0_outs s0_losses r52 o53 o54 o55 o56 o57 o58 o59 o60 o61 o62 o63 hq H.size) (cwV 3 hts gX9_fits_X9_coefficient rfl rfl rfl (by decide +kernel) ⟨Nat.le_of_ble_eq_true rfl, Nat.le_of_ble_eq_true rfl⟩) (pre_V (ci := 9) (q0 := 0) (is := [0, 1, 2, 3, 4, 5, 6, 7, 9, 10, 11]) rfl rfl hP hD hS hA hK hZ (by decide +kernel) (by rfl)) rfl rfl hl.1 rfl (by exact lv_room (Nat.le_of_ble_eq_true rfl)) dX9_fits_138 ⟨Nat.le_refl _, Nat.le_refl _⟩) hP hD hS hA (by decide +kernel) (by rfl) (by rfl) rfl (fun H locs hP hD hS => ?_)
        obtain ⟨hP, hD⟩ : va_P G vwCl (wm_X9_output cA h0 h0_g h0_p h0_rows h0_rows_e h0_sorts h0_sizes h0_outs h0_losses h0_kept h0_changed h0_causes h0_moved h0_levelOf h0_levelOften h0_to h0_round h0_tail h0_path h0_leastOn h0_period h0_amplitude h0_basin h0_numbered h0_isReached h0_tape h0_told h0_traced s0__isKept s0__done s0__undoable s0__redoable o53 o54 o55 o56 s0__hasCauses o57 o58 o59 s0__levelMany s0__rounds s0__stuck s0__onRounds s0__longest s0__loudest s0__reached s0__isAnyOver s0__taped s0__at s0__ran o60 o61 s0_rows_e s0_sorts s0_sizes o62 o63) H ∧ va_D A (wm_X9_output cA h0 h0_g h0_p h0_rows h0_rows_e h0_sorts h0_sizes h0_outs h0_losses h0_kept h0_changed h0_causes h0_moved h0_levelOf h0_levelOften h0_to h0_round h0_tail h0_path h0_leastOn h0_period h0_amplitude h0_basin h0_numbered h0_isReached h0_tape h0_told h0_traced s0__isKept s0__done s0__undoable s0__redoable o53 o54 o55 o56 s0__hasCauses o57 o58 o59 s0__levelMany s0__rounds s0__stuck s0__onRounds s0__longest s0__loudest s0__reached s0__isAnyOver s0__taped s0__at s0__ran o60 o61 s0_rows_e s0_sorts s0_sizes o62 o63) := PD_eq hP hD (rp_eq (js := [8]) 12 (by decide +kernel) rfl rfl (by rfl) (by rfl) (by decide +kernel))
        obtain ⟨e, hok⟩ := g_pr hok
        try subst e
        obtain ⟨e, hok⟩ := g_pr hok
        try subst e
        obtain ⟨e, hok⟩ := g_pr hok
        try subst e
        obtain ⟨e, hok⟩ := g_pr hok
        try subst e
        obtain ⟨e, hok⟩ := g_pr hok
        try subst e
        obtain ⟨e, hok⟩ := g_pr hok
        try subst e
        obtain ⟨e, hok⟩ := g_pr hok
        try subst e
        obtain ⟨e, hok⟩ := g_pr hok
        try subst e
        obtain ⟨e, hok⟩ := g_pr hok
        try subst e
        obtain ⟨e, hok⟩ := g_pr hok
        try subst e
        obtain ⟨e, hok⟩ := g_pr hok
        try subst e
        cases hok
        exact cr_i hx hb hr hlocks hQ dX9_fits_141 hP hS
      replace hok := g_pos hok c
      refine lv_iconst (v := 1) hx hb dX9_fits_133 (by decide) ?_
      refine lv_goto (tgt := 138) hx hb dX9_fits_134 (by decide) ?_
      obtain ⟨r64, o65, o66, o67, o68, o69, o70, o71, o72, o73, o74, o75, hq, hok⟩ := g_bnd12 hok
      refine cG (is := [0, 1, 2, 3, 4, 5, 6, 7, 9, 10, 11]) (wc := (wm_X9_runs cA h0 h0_g h0_p h0_rows h0_rows_e h0_sizes h0_outs h0_losses h0_kept h0_changed h0_causes h0_sorts h0_moved h0_levelOf h0_levelOften h0_to h0_round h0_tail h0_path h0_leastOn h0_period h0_amplitude h0_basin h0_numbered h0_isReached h0_tape h0_told h0_traced s0__isKept s0__done s0__undoable s0__redoable s0__all s0__v s0__loss s0__isOver s0__hasCauses s0__outMany s0__overMany s0__isHalted s0__levelMany s0__rounds s0__stuck s0__onRounds s0__longest s0__loudest s0__reached s0__isAnyOver s0__taped s0__at s0__ran s0_g s0_p s0_rows_e s0_sizes s0_outs s0_losses)) (w1 := (wm_X9_runs cA h0 h0_g h0_p h0_rows h0_rows_e h0_sizes h0_outs h0_losses h0_kept h0_changed h0_causes h0_sorts h0_moved h0_levelOf h0_levelOften h0_to h0_round h0_tail h0_path h0_leastOn h0_period h0_amplitude h0_basin h0_numbered h0_isReached h0_tape h0_told h0_traced s0__isKept s0__done s0__undoable s0__redoable o65 o66 o67 o68 s0__hasCauses o69 o70 o71 s0__levelMany s0__rounds s0__stuck s0__onRounds s0__longest s0__loudest s0__reached s0__isAnyOver s0__taped s0__at s0__ran o72 o73 s0_rows_e s0_sizes o74 o75)) (rv := (some (.int r64))) (st1 := [.int r64]) (va_runV (Ts := wsX9_fits) (As := [.int x1, .int x2, .int (1:Int32)]) (rest := []) ⟨hx, hb, hml, hown, hts⟩ (c_X9_coefficient l G cA ts h0 h0_g h0_p h0_rows h0_rows_e h0_sizes h0_outs h0_losses h0_kept h0_changed h0_causes h0_sorts h0_moved h0_levelOf h0_levelOften h0_to h0_round h0_tail h0_path h0_leastOn h0_period h0_amplitude h0_basin h0_numbered h0_isReached h0_tape h0_told h0_traced x1 x2 (1:Int32) s0__isKept s0__done s0__undoable s0__redoable s0__all s0__v s0__loss s0__isOver s0__hasCauses s0__outMany s0__overMany s0__isHalted s0__levelMany s0__rounds s0__stuck s0__onRounds s0__longest s0__loudest s0__reached s0__isAnyOver s0__taped s0__at s0__ran s0_g s0_p s0_rows_e s0_sizes s0_outs s0_losses r64 o65 o66 o67 o68 o69 o70 o71 o72 o73 o74 o75 hq H.size) (cwV 3 hts gX9_fits_X9_coefficient rfl rfl rfl (by decide +kernel) ⟨Nat.le_of_ble_eq_true rfl, Nat.le_of_ble_eq_true rfl⟩) (pre_V (ci := 9) (q0 := 0) (is := [0, 1, 2, 3, 4, 5, 6, 7, 9, 10, 11]) rfl rfl hP hD hS hA hK hZ (by decide +kernel) (by rfl)) rfl rfl hl.1 rfl (by exact lv_room (Nat.le_of_ble_eq_true rfl)) dX9_fits_138 ⟨Nat.le_refl _, Nat.le_refl _⟩) hP hD hS hA (by decide +kernel) (by rfl) (by rfl) rfl (fun H locs hP hD hS => ?_)
      obtain ⟨hP, hD⟩ : va_P G vwCl (wm_X9_output cA h0 h0_g h0_p h0_rows h0_rows_e h0_sorts h0_sizes h0_outs h0_losses h0_kept h0_changed h0_causes h0_moved h0_levelOf h0_levelOften h0_to h0_round h0_tail h0_path h0_leastOn h0_period h0_amplitude h0_basin h0_numbered h0_isReached h0_tape h0_told h0_traced s0__isKept s0__done s0__undoable s0__redoable o65 o66 o67 o68 s0__hasCauses o69 o70 o71 s0__levelMany s0__rounds s0__stuck s0__onRounds s0__longest s0__loudest s0__reached s0__isAnyOver s0__taped s0__at s0__ran o72 o73 s0_rows_e s0_sorts s0_sizes o74 o75) H ∧ va_D A (wm_X9_output cA h0 h0_g h0_p h0_rows h0_rows_e h0_sorts h0_sizes h0_outs h0_losses h0_kept h0_changed h0_causes h0_moved h0_levelOf h0_levelOften h0_to h0_round h0_tail h0_path h0_leastOn h0_period h0_amplitude h0_basin h0_numbered h0_isReached h0_tape h0_told h0_traced s0__isKept s0__done s0__undoable s0__redoable o65 o66 o67 o68 s0__hasCauses o69 o70 o71 s0__levelMany s0__rounds s0__stuck s0__onRounds s0__longest s0__loudest s0__reached s0__isAnyOver s0__taped s0__at s0__ran o72 o73 s0_rows_e s0_sorts s0_sizes o74 o75) := PD_eq hP hD (rp_eq (js := [8]) 12 (by decide +kernel) rfl rfl (by rfl) (by rfl) (by decide +kernel))
      obtain ⟨e, hok⟩ := g_pr hok
      try subst e
      obtain ⟨e, hok⟩ := g_pr hok
      try subst e
      obtain ⟨e, hok⟩ := g_pr hok
      try subst e
      obtain ⟨e, hok⟩ := g_pr hok
      try subst e
      obtain ⟨e, hok⟩ := g_pr hok
      try subst e
      obtain ⟨e, hok⟩ := g_pr hok
      try subst e
      obtain ⟨e, hok⟩ := g_pr hok
      try subst e
      obtain ⟨e, hok⟩ := g_pr hok
      try subst e
      obtain ⟨e, hok⟩ := g_pr hok
      try subst e
      obtain ⟨e, hok⟩ := g_pr hok
      try subst e
      obtain ⟨e, hok⟩ := g_pr hok
      try subst e
      cases hok
      exact cr_i hx hb hr hlocks hQ dX9_fits_141 hP hS
    replace hok := g_neg hok c
    refine lv_sipush (v := -1011) hx hb dX9_fits_48 (by decide) ?_
    obtain ⟨e, hok⟩ := g_pr hok
    try subst e
    obtain ⟨e, hok⟩ := g_pr hok
    try subst e
    obtain ⟨e, hok⟩ := g_pr hok
    try subst e
    obtain ⟨e, hok⟩ := g_pr hok
    try subst e
    obtain ⟨e, hok⟩ := g_pr hok
    try subst e
    obtain ⟨e, hok⟩ := g_pr hok
    try subst e
    obtain ⟨e, hok⟩ := g_pr hok
    try subst e
    obtain ⟨e, hok⟩ := g_pr hok
    try subst e
    obtain ⟨e, hok⟩ := g_pr hok
    try subst e
    obtain ⟨e, hok⟩ := g_pr hok
    try subst e
    obtain ⟨e, hok⟩ := g_pr hok
    try subst e
    cases hok
    exact cr_i hx hb hr hlocks hQ dX9_fits_51 hP hS
  replace hok := g_pos hok c
  refine lv_sipush (v := -1001) hx hb dX9_fits_26 (by decide) ?_
  obtain ⟨e, hok⟩ := g_pr hok
  try subst e
  obtain ⟨e, hok⟩ := g_pr hok
  try subst e
  obtain ⟨e, hok⟩ := g_pr hok
  try subst e
  obtain ⟨e, hok⟩ := g_pr hok
  try subst e
  obtain ⟨e, hok⟩ := g_pr hok
  try subst e
  obtain ⟨e, hok⟩ := g_pr hok
  try subst e
  obtain ⟨e, hok⟩ := g_pr hok
  try subst e
  obtain ⟨e, hok⟩ := g_pr hok
  try subst e
  obtain ⟨e, hok⟩ := g_pr hok
  try subst e
  obtain ⟨e, hok⟩ := g_pr hok
  try subst e
  obtain ⟨e, hok⟩ := g_pr hok
  try subst e
  cases hok
  exact cr_i hx hb hr hlocks hQ dX9_fits_29 hP hS
set_option maxHeartbeats 40000000 in
set_option maxRecDepth 100000 in
theorem c_X9_judge (l : Launch) (G : va_G) (cA : Nat → ClassId) (ts : Nat → Nat) (h0 : Nat) (h0_g : Nat) (h0_p : Nat) (h0_rows : Nat) (h0_rows_e : Nat → Nat) (h0_sorts : Nat) (h0_sizes : Nat) (h0_outs : Nat) (h0_losses : Nat) (h0_kept : Nat) (h0_changed : Nat) (h0_causes : Nat) (h0_moved : Nat) (h0_levelOf : Nat) (h0_levelOften : Nat) (h0_to : Nat) (h0_round : Nat) (h0_tail : Nat) (h0_path : Nat) (h0_leastOn : Nat) (h0_period : Nat) (h0_amplitude : Nat) (h0_basin : Nat) (h0_numbered : Nat) (h0_isReached : Nat) (h0_tape : Nat) (h0_told : Nat) (h0_traced : Nat) (x1 : Int32) (x2 : Int32) (s0__isKept : Int32) (s0__done : Int32) (s0__undoable : Int32) (s0__redoable : Int32) (s0__all : Int32) (s0__v : Int32) (s0__loss : Int32) (s0__isOver : Int32) (s0__hasCauses : Int32) (s0__outMany : Int32) (s0__overMany : Int32) (s0__isHalted : Int32) (s0__levelMany : Int32) (s0__rounds : Int32) (s0__stuck : Int32) (s0__onRounds : Int32) (s0__longest : Int32) (s0__loudest : Int32) (s0__reached : Int32) (s0__isAnyOver : Int32) (s0__taped : Int32) (s0__at : Int32) (s0__ran : Int32) (s0_g : Nat → Int32) (s0_p : Nat → Int32) (s0_rows_e : Nat → Nat → Int64) (s0_sorts : Nat → Int32) (s0_sizes : Nat → Int32) (s0_outs : Nat → Int32) (s0_losses : Nat → Int32) (r : Int32) (o0__all : Int32) (o0__v : Int32) (o0__loss : Int32) (o0__isOver : Int32) (o0__outMany : Int32) (o0__overMany : Int32) (o0__isHalted : Int32) (o0_p : Nat → Int32) (o0_outs : Nat → Int32) (o0_losses : Nat → Int32) (hok : fX9_judge x1 x2 s0__all s0__v s0__loss s0__isOver s0__outMany s0__overMany s0__isHalted s0_g s0_p s0_rows_e s0_sorts s0_sizes s0_outs s0_losses = some (r, o0__all, o0__v, o0__loss, o0__isOver, o0__outMany, o0__overMany, o0__isHalted, o0_p, o0_outs, o0_losses)) : Ct l G cA ts yX9_judge wsX9_judge 5 134 [.ref h0, .int x1, .int x2] (wm_X9_output cA h0 h0_g h0_p h0_rows h0_rows_e h0_sorts h0_sizes h0_outs h0_losses h0_kept h0_changed h0_causes h0_moved h0_levelOf h0_levelOften h0_to h0_round h0_tail h0_path h0_leastOn h0_period h0_amplitude h0_basin h0_numbered h0_isReached h0_tape h0_told h0_traced s0__isKept s0__done s0__undoable s0__redoable s0__all s0__v s0__loss s0__isOver s0__hasCauses s0__outMany s0__overMany s0__isHalted s0__levelMany s0__rounds s0__stuck s0__onRounds s0__longest s0__loudest s0__reached s0__isAnyOver s0__taped s0__at s0__ran s0_g s0_p s0_rows_e s0_sorts s0_sizes s0_outs s0_losses) (wm_X9_output cA h0 h0_g h0_p h0_rows h0_rows_e h0_sorts h0_sizes h0_outs h0_losses h0_kept h0_changed h0_causes h0_moved h0_levelOf h0_levelOften h0_to h0_round h0_tail h0_path h0_leastOn h0_period h0_amplitude h0_basin h0_numbered h0_isReached h0_tape h0_told h0_traced s0__isKept s0__done s0__undoable s0__redoable o0__all o0__v o0__loss o0__isOver s0__hasCauses o0__outMany o0__overMany o0__isHalted s0__levelMany s0__rounds s0__stuck s0__onRounds s0__longest s0__loudest s0__reached s0__isAnyOver s0__taped s0__at s0__ran s0_g o0_p s0_rows_e s0_sorts s0_sizes o0_outs o0_losses) (some (.int r)) := by
  refine Ct.intro (cc := cX9_judge) (maxL := 4) (ret := some .int) (by decide +kernel) rfl (Nat.le_of_ble_eq_true rfl) ?_
  intro p e s m ar below meth c A Q hx hb hr hml hown hlocks hts hK hZ hA hQ hP hD hS ls hl
  have hown : s.vm.findClass RX9 = some m.cls := hown
  have hinX9 : ∀ w ∈ wsX90, w ∈ wsX9_judge := fun _ h => List.mem_cons_of_mem _ (List.mem_append_right _ (h))
  have hl : lv_has ls 4 [(0, .ref h0), (1, .int x1), (2, .int x2)] := hl
  have hP : va_P G vwCl (wm_X9_output cA h0 h0_g h0_p h0_rows h0_rows_e h0_sorts h0_sizes h0_outs h0_losses h0_kept h0_changed h0_causes h0_moved h0_levelOf h0_levelOften h0_to h0_round h0_tail h0_path h0_leastOn h0_period h0_amplitude h0_basin h0_numbered h0_isReached h0_tape h0_told h0_traced s0__isKept s0__done s0__undoable s0__redoable s0__all s0__v s0__loss s0__isOver s0__hasCauses s0__outMany s0__overMany s0__isHalted s0__levelMany s0__rounds s0__stuck s0__onRounds s0__longest s0__loudest s0__reached s0__isAnyOver s0__taped s0__at s0__ran s0_g s0_p s0_rows_e s0_sorts s0_sizes s0_outs s0_losses) s.heap := hP
  have hD : va_D A (wm_X9_output cA h0 h0_g h0_p h0_rows h0_rows_e h0_sorts h0_sizes h0_outs h0_losses h0_kept h0_changed h0_causes h0_moved h0_levelOf h0_levelOften h0_to h0_round h0_tail h0_path h0_leastOn h0_period h0_amplitude h0_basin h0_numbered h0_isReached h0_tape h0_told h0_traced s0__isKept s0__done s0__undoable s0__redoable s0__all s0__v s0__loss s0__isOver s0__hasCauses s0__outMany s0__overMany s0__isHalted s0__levelMany s0__rounds s0__stuck s0__onRounds s0__longest s0__loudest s0__reached s0__isAnyOver s0__taped s0__at s0__ran s0_g s0_p s0_rows_e s0_sorts s0_sizes s0_outs s0_losses) := hD
  have L_44 : ∀ (n : Nat) (y3 : Int32) (c0__all : Int32) (c0__v : Int32) (c0__loss : Int32) (c0__isOver : Int32) (c0__outMany : Int32) (c0__overMany : Int32) (c0__isHalted : Int32) (c0_p : Nat → Int32) (c0_outs : Nat → Int32) (c0_losses : Nat → Int32) (oE : ((Int32)) ⊕ (Unit)) (H : Heap) (locs : List Loc) (ls : Array Slot), va_P G vwCl (wm_X9_output cA h0 h0_g h0_p h0_rows h0_rows_e h0_sorts h0_sizes h0_outs h0_losses h0_kept h0_changed h0_causes h0_moved h0_levelOf h0_levelOften h0_to h0_round h0_tail h0_path h0_leastOn h0_period h0_amplitude h0_basin h0_numbered h0_isReached h0_tape h0_told h0_traced s0__isKept s0__done s0__undoable s0__redoable c0__all c0__v c0__loss c0__isOver s0__hasCauses c0__outMany c0__overMany c0__isHalted s0__levelMany s0__rounds s0__stuck s0__onRounds s0__longest s0__loudest s0__reached s0__isAnyOver s0__taped s0__at s0__ran s0_g c0_p s0_rows_e s0_sorts s0_sizes c0_outs c0_losses) H → va_D A (wm_X9_output cA h0 h0_g h0_p h0_rows h0_rows_e h0_sorts h0_sizes h0_outs h0_losses h0_kept h0_changed h0_causes h0_moved h0_levelOf h0_levelOften h0_to h0_round h0_tail h0_path h0_leastOn h0_period h0_amplitude h0_basin h0_numbered h0_isReached h0_tape h0_told h0_traced s0__isKept s0__done s0__undoable s0__redoable c0__all c0__v c0__loss c0__isOver s0__hasCauses c0__outMany c0__overMany c0__isHalted s0__levelMany s0__rounds s0__stuck s0__onRounds s0__longest s0__loudest s0__reached s0__isAnyOver s0__taped s0__at s0__ran s0_g c0_p s0_rows_e s0_sorts s0_sizes c0_outs c0_losses) → va_S A s.heap H locs → lv_has ls 4 [(0, .ref h0), (2, .int x2), (3, .int y3)] → fX9_judge_L44 x1 x2 s0_g s0_rows_e s0_sorts s0_sizes n y3 c0__all c0__v c0__loss c0__isOver c0__outMany c0__overMany c0__isHalted c0_p c0_outs c0_losses = some oE → (∀ (p0_0 : Int32), oE = .inl p0_0 → ∀ (H : Heap) (locs : List Loc) (ls : Array Slot), va_P G vwCl (wm_X9_output cA h0 h0_g h0_p h0_rows h0_rows_e h0_sorts h0_sizes h0_outs h0_losses h0_kept h0_changed h0_causes h0_moved h0_levelOf h0_levelOften h0_to h0_round h0_tail h0_path h0_leastOn h0_period h0_amplitude h0_basin h0_numbered h0_isReached h0_tape h0_told h0_traced s0__isKept s0__done s0__undoable s0__redoable c0__all c0__v c0__loss c0__isOver s0__hasCauses c0__outMany c0__overMany c0__isHalted s0__levelMany s0__rounds s0__stuck s0__onRounds s0__longest s0__loudest s0__reached s0__isAnyOver s0__taped s0__at s0__ran s0_g c0_p s0_rows_e s0_sorts s0_sizes c0_outs c0_losses) H → va_D A (wm_X9_output cA h0 h0_g h0_p h0_rows h0_rows_e h0_sorts h0_sizes h0_outs h0_losses h0_kept h0_changed h0_causes h0_moved h0_levelOf h0_levelOften h0_to h0_round h0_tail h0_path h0_leastOn h0_period h0_amplitude h0_basin h0_numbered h0_isReached h0_tape h0_told h0_traced s0__isKept s0__done s0__undoable s0__redoable c0__all c0__v c0__loss c0__isOver s0__hasCauses c0__outMany c0__overMany c0__isHalted s0__levelMany s0__rounds s0__stuck s0__onRounds s0__longest s0__loudest s0__reached s0__isAnyOver s0__taped s0__at s0__ran s0_g c0_p s0_rows_e s0_sorts s0_sizes c0_outs c0_losses) → va_S A s.heap H locs → lv_has ls 4 [(3, .int p0_0)] → W p l e (rmX 5 134) s m ar below meth c H locs 0 0 Q (F0 m 81 ls [])) → (∀ (_ : Unit), oE = .inr (()) → ∀ (H : Heap) (locs : List Loc) (ls : Array Slot), va_P G vwCl (wm_X9_output cA h0 h0_g h0_p h0_rows h0_rows_e h0_sorts h0_sizes h0_outs h0_losses h0_kept h0_changed h0_causes h0_moved h0_levelOf h0_levelOften h0_to h0_round h0_tail h0_path h0_leastOn h0_period h0_amplitude h0_basin h0_numbered h0_isReached h0_tape h0_told h0_traced s0__isKept s0__done s0__undoable s0__redoable c0__all c0__v c0__loss c0__isOver s0__hasCauses c0__outMany c0__overMany c0__isHalted s0__levelMany s0__rounds s0__stuck s0__onRounds s0__longest s0__loudest s0__reached s0__isAnyOver s0__taped s0__at s0__ran s0_g c0_p s0_rows_e s0_sorts s0_sizes c0_outs c0_losses) H → va_D A (wm_X9_output cA h0 h0_g h0_p h0_rows h0_rows_e h0_sorts h0_sizes h0_outs h0_losses h0_kept h0_changed h0_causes h0_moved h0_levelOf h0_levelOften h0_to h0_round h0_tail h0_path h0_leastOn h0_period h0_amplitude h0_basin h0_numbered h0_isReached h0_tape h0_told h0_traced s0__isKept s0__done s0__undoable s0__redoable c0__all c0__v c0__loss c0__isOver s0__hasCauses c0__outMany c0__overMany c0__isHalted s0__levelMany s0__rounds s0__stuck s0__onRounds s0__longest s0__loudest s0__reached s0__isAnyOver s0__taped s0__at s0__ran s0_g c0_p s0_rows_e s0_sorts s0_sizes c0_outs c0_losses) → va_S A s.heap H locs → lv_has ls 4 [(0, .ref h0), (2, .int x2)] → W p l e (rmX 5 134) s m ar below meth c H locs 0 0 Q (F0 m 89 ls [])) → W p l e (rmX 5 134) s m ar below meth c H locs 0 0 Q (F0 m 44 ls []) := by
    intro n
    induction n with
    | zero =>
      intro y3 c0__all c0__v c0__loss c0__isOver c0__outMany c0__overMany c0__isHalted c0_p c0_outs c0_losses oE H locs ls hP hD hS hl hok
      rw [fX9_judge_L44] at hok
      cases hok
    | succ n ih =>
      intro y3 c0__all c0__v c0__loss c0__isOver c0__outMany c0__overMany c0__isHalted c0_p c0_outs c0_losses oE H locs ls hP hD hS hl hok  K0 K1
      rw [fX9_judge_L44] at hok
      refine lv_iload_n hx hb dX9_judge_44 rfl (lv_at hl 2 rfl) ?_
      refine lv_aload_n hx hb dX9_judge_45 rfl (lv_at hl 0 rfl) ?_
      refine va_get (ci := 9) (v := .ref h0_sizes) (C := RX9) (T := TX9) (N := 49) hx hb hts hinX9 hown hK hP 0 rfl rfl 16 (by decide) (hts _ (List.mem_of_getElem? (i := 2) rfl)) (fun _ h9 => h9) rfl dX9_judge_46 ?_
      refine lv_iload_n hx hb dX9_judge_49 rfl (lv_at hl 1 rfl) ?_
      obtain ⟨hin, hok⟩ := g_no hok
      refine x_iald (k := x2.toNatClampNeg) hx hb hK hP 9 0 rfl rfl hin rfl dX9_judge_50 ?_
      refine lv_icmp_ge (tgt := 89) hx hb dX9_judge_51 (by decide) (fun c => ?_) (fun c => ?_)
      · replace hok := g_pos hok c
        cases hok
        exact K1 () rfl _ _ _ hP hD hS (lv_sub hl [0, 1] rfl)
      replace hok := g_neg hok c
      refine lv_iload_n hx hb dX9_judge_54 rfl (lv_at hl 2 rfl) ?_
      refine lv_aload_n hx hb dX9_judge_55 rfl (lv_at hl 0 rfl) ?_
      refine va_get (ci := 9) (v := .int c0__outMany) (C := RX9) (T := TX9) (N := 49) hx hb hts hinX9 hown hK hP 0 rfl rfl 20 (by decide) (hts _ (List.mem_of_getElem? (i := 3) rfl)) (fun _ h9 => h9) rfl dX9_judge_56 ?_
      refine lv_icmp_ge (tgt := 81) hx hb dX9_judge_59 (by decide) (fun c => ?_) (fun c => ?_)
      · replace hok := g_pos hok c
        cases hok
        exact K0 _ rfl _ _ _ hP hD hS (lv_sub hl [2] rfl)
      replace hok := g_neg hok c
      refine lv_aload_n hx hb dX9_judge_62 rfl (lv_at hl 0 rfl) ?_
      refine va_get (ci := 9) (v := .ref h0_rows) (C := RX9) (T := TX9) (N := 49) hx hb hts hinX9 hown hK hP 0 rfl rfl 14 (by decide) (hts _ (List.mem_of_getElem? (i := 4) rfl)) (fun _ h9 => h9) rfl dX9_judge_63 ?_
      refine lv_iload_n hx hb dX9_judge_66 rfl (lv_at hl 1 rfl) ?_
      obtain ⟨hin13, hok⟩ := g_no hok
      refine x_aalda hx hb hK hP 3 6 rfl rfl hin13 dX9_judge_67 ?_
      refine W.eq (congrArg (fun z => F0 m 68 ls (z :: [])) (rf_at (Nat.not_le.mp fun q => hin13 (Or.inr q)))) ?_
      refine lv_iload_n hx hb dX9_judge_68 rfl (lv_at hl 2 rfl) ?_
      obtain ⟨hin, hok⟩ := g_no hok
      refine x_lald (cA := cA 1) (n := 40) (f := (s0_rows_e x2.toNatClampNeg)) (k := y3.toNatClampNeg) hx hb hK hP (4 + 1 * x2.toNatClampNeg) 1 (by rcases lt4 (Nat.not_le.mp fun q => hin13 (Or.inr q)) with e | e | e | e <;> rw [e] <;> rfl) rfl hin rfl dX9_judge_69 ?_
      refine lv_aload_n hx hb dX9_judge_70 rfl (lv_at hl 0 rfl) ?_
      refine va_get (ci := 9) (v := .ref h0_outs) (C := RX9) (T := TX9) (N := 49) hx hb hts hinX9 hown hK hP 0 rfl rfl 18 (by decide) (hts _ (List.mem_of_getElem? (i := 5) rfl)) (fun _ h9 => h9) rfl dX9_judge_71 ?_
      refine lv_iload_n hx hb dX9_judge_74 rfl (lv_at hl 2 rfl) ?_
      obtain ⟨hin, hok⟩ := g_no hok
      refine x_iald (k := y3.toNatClampNeg) hx hb hK hP 10 0 rfl rfl hin rfl dX9_judge_75 ?_
      refine lv_i2l (v := ((c0_outs y3.toNatClampNeg).toInt64)) hx hb dX9_judge_76 rfl ?_
      refine W.lcmp hx hb dX9_judge_77 ?_
      refine lv_if_eq (tgt := 83) hx hb dX9_judge_78 (by decide) (fun c => ?_) (fun c => ?_)
      · replace hok := g_pos hok c
        refine lv_iinc (v := (y3 + 1)) (lv' := [(3, .int (y3 + 1)), (0, .ref h0), (2, .int x2)]) hx hb dX9_judge_83 hl (k := 2) rfl rfl (by decide) rfl (fun ls hl => ?_)
        refine lv_goto (tgt := 44) hx hb dX9_judge_86 (by decide) ?_
        exact ih (y3 + 1) c0__all c0__v c0__loss c0__isOver c0__outMany c0__overMany c0__isHalted c0_p c0_outs c0_losses oE _ _ _ hP hD hS (lv_sub hl [1, 2, 0] rfl) hok K0 K1
      replace hok := g_neg hok c
      cases hok
      exact K0 _ rfl _ _ _ hP hD hS (lv_sub hl [2] rfl)
  unfold fX9_judge at hok
  refine lv_iload_n hx hb dX9_judge_0 rfl (lv_at hl 1 rfl) ?_
  obtain ⟨r1, hq, hok⟩ := g_bnd1 hok
  refine cG (is := []) (wc := (wm_X0_find cA)) (w1 := (wm_X0_find cA)) (rv := (some (.int r1))) (st1 := [.int r1]) (va_runS (Ts := wsX9_judge) (As := [.int x1]) (rest := []) ⟨hx, hb, hml, hown, hts⟩ (c_X9_isRow l G cA ts x1 r1 hq s.heap.size) (va_cwS 1 hts gX9_judge_X9_isRow rfl rfl rfl (by decide +kernel) ⟨Nat.le_of_ble_eq_true rfl, Nat.le_of_ble_eq_true rfl⟩) (pre_S (is := []) hP hD hS hA hK hZ (by decide +kernel) (by rfl)) rfl rfl hl.1 rfl (by exact lv_room (Nat.le_of_ble_eq_true rfl)) dX9_judge_1 ⟨Nat.le_refl _, Nat.le_refl _⟩) hP hD hS hA (by decide +kernel) (by rfl) (by rfl) rfl (fun H locs hP hD hS => ?_)
  have hP : va_P G vwCl (wm_X9_output cA h0 h0_g h0_p h0_rows h0_rows_e h0_sorts h0_sizes h0_outs h0_losses h0_kept h0_changed h0_causes h0_moved h0_levelOf h0_levelOften h0_to h0_round h0_tail h0_path h0_leastOn h0_period h0_amplitude h0_basin h0_numbered h0_isReached h0_tape h0_told h0_traced s0__isKept s0__done s0__undoable s0__redoable s0__all s0__v s0__loss s0__isOver s0__hasCauses s0__outMany s0__overMany s0__isHalted s0__levelMany s0__rounds s0__stuck s0__onRounds s0__longest s0__loudest s0__reached s0__isAnyOver s0__taped s0__at s0__ran s0_g s0_p s0_rows_e s0_sorts s0_sizes s0_outs s0_losses) H := hP
  have hD : va_D A (wm_X9_output cA h0 h0_g h0_p h0_rows h0_rows_e h0_sorts h0_sizes h0_outs h0_losses h0_kept h0_changed h0_causes h0_moved h0_levelOf h0_levelOften h0_to h0_round h0_tail h0_path h0_leastOn h0_period h0_amplitude h0_basin h0_numbered h0_isReached h0_tape h0_told h0_traced s0__isKept s0__done s0__undoable s0__redoable s0__all s0__v s0__loss s0__isOver s0__hasCauses s0__outMany s0__overMany s0__isHalted s0__levelMany s0__rounds s0__stuck s0__onRounds s0__longest s0__loudest s0__reached s0__isAnyOver s0__taped s0__at s0__ran s0_g s0_p s0_rows_e s0_sorts s0_sizes s0_outs s0_losses) := hD
  refine lv_if_eq (tgt := 14) hx hb dX9_judge_4 (by decide) (fun c => ?_) (fun c => ?_)
  · replace hok := g_pos hok c
    refine lv_iconst (v := -1) hx hb dX9_judge_14 (by decide) ?_
    obtain ⟨e, hok⟩ := g_pr hok
    try subst e
    obtain ⟨e, hok⟩ := g_pr hok
    try subst e
    obtain ⟨e, hok⟩ := g_pr hok
    try subst e
    obtain ⟨e, hok⟩ := g_pr hok
    try subst e
    obtain ⟨e, hok⟩ := g_pr hok
    try subst e
    obtain ⟨e, hok⟩ := g_pr hok
    try subst e
    obtain ⟨e, hok⟩ := g_pr hok
    try subst e
    obtain ⟨e, hok⟩ := g_pr hok
    try subst e
    obtain ⟨e, hok⟩ := g_pr hok
    try subst e
    obtain ⟨e, hok⟩ := g_pr hok
    try subst e
    cases hok
    exact cr_i hx hb hr hlocks hQ dX9_judge_15 hP hS
  replace hok := g_neg hok c
  refine lv_iload_n hx hb dX9_judge_7 rfl (lv_at hl 2 rfl) ?_
  obtain ⟨r2, hq, hok⟩ := g_bnd1 hok
  refine cG (is := []) (wc := (wm_X0_find cA)) (w1 := (wm_X0_find cA)) (rv := (some (.int r2))) (st1 := [.int r2]) (va_runS (Ts := wsX9_judge) (As := [.int x2]) (rest := []) ⟨hx, hb, hml, hown, hts⟩ (c_X9_isRow l G cA ts x2 r2 hq H.size) (va_cwS 1 hts gX9_judge_X9_isRow rfl rfl rfl (by decide +kernel) ⟨Nat.le_of_ble_eq_true rfl, Nat.le_of_ble_eq_true rfl⟩) (pre_S (is := []) hP hD hS hA hK hZ (by decide +kernel) (by rfl)) rfl rfl hl.1 rfl (by exact lv_room (Nat.le_of_ble_eq_true rfl)) dX9_judge_8 ⟨Nat.le_refl _, Nat.le_refl _⟩) hP hD hS hA (by decide +kernel) (by rfl) (by rfl) rfl (fun H locs hP hD hS => ?_)
  have hP : va_P G vwCl (wm_X9_output cA h0 h0_g h0_p h0_rows h0_rows_e h0_sorts h0_sizes h0_outs h0_losses h0_kept h0_changed h0_causes h0_moved h0_levelOf h0_levelOften h0_to h0_round h0_tail h0_path h0_leastOn h0_period h0_amplitude h0_basin h0_numbered h0_isReached h0_tape h0_told h0_traced s0__isKept s0__done s0__undoable s0__redoable s0__all s0__v s0__loss s0__isOver s0__hasCauses s0__outMany s0__overMany s0__isHalted s0__levelMany s0__rounds s0__stuck s0__onRounds s0__longest s0__loudest s0__reached s0__isAnyOver s0__taped s0__at s0__ran s0_g s0_p s0_rows_e s0_sorts s0_sizes s0_outs s0_losses) H := hP
  have hD : va_D A (wm_X9_output cA h0 h0_g h0_p h0_rows h0_rows_e h0_sorts h0_sizes h0_outs h0_losses h0_kept h0_changed h0_causes h0_moved h0_levelOf h0_levelOften h0_to h0_round h0_tail h0_path h0_leastOn h0_period h0_amplitude h0_basin h0_numbered h0_isReached h0_tape h0_told h0_traced s0__isKept s0__done s0__undoable s0__redoable s0__all s0__v s0__loss s0__isOver s0__hasCauses s0__outMany s0__overMany s0__isHalted s0__levelMany s0__rounds s0__stuck s0__onRounds s0__longest s0__loudest s0__reached s0__isAnyOver s0__taped s0__at s0__ran s0_g s0_p s0_rows_e s0_sorts s0_sizes s0_outs s0_losses) := hD
  refine lv_if_ne (tgt := 16) hx hb dX9_judge_11 (by decide) (fun c => ?_) (fun c => ?_)
  · replace hok := g_neg hok c
    refine lv_aload_n hx hb dX9_judge_16 rfl (lv_at hl 0 rfl) ?_
    refine va_get (ci := 9) (v := .ref h0_sorts) (C := RX9) (T := TX9) (N := 49) hx hb hts hinX9 hown hK hP 0 rfl rfl 15 (by decide) (hts _ (List.mem_of_getElem? (i := 1) rfl)) (fun _ h9 => h9) rfl dX9_judge_17 ?_
    refine lv_iload_n hx hb dX9_judge_20 rfl (lv_at hl 1 rfl) ?_
    obtain ⟨hin, hok⟩ := g_no hok
    refine x_iald (k := x1.toNatClampNeg) hx hb hK hP 8 0 rfl rfl hin rfl dX9_judge_21 ?_
    refine lv_if_lt (tgt := 34) hx hb dX9_judge_22 (by decide) (fun c => ?_) (fun c => ?_)
    · replace hok := g_pos hok c
      refine lv_bipush (v := -11) hx hb dX9_judge_34 (by decide) ?_
      obtain ⟨e, hok⟩ := g_pr hok
      try subst e
      obtain ⟨e, hok⟩ := g_pr hok
      try subst e
      obtain ⟨e, hok⟩ := g_pr hok
      try subst e
      obtain ⟨e, hok⟩ := g_pr hok
      try subst e
      obtain ⟨e, hok⟩ := g_pr hok
      try subst e
      obtain ⟨e, hok⟩ := g_pr hok
      try subst e
      obtain ⟨e, hok⟩ := g_pr hok
      try subst e
      obtain ⟨e, hok⟩ := g_pr hok
      try subst e
      obtain ⟨e, hok⟩ := g_pr hok
      try subst e
      obtain ⟨e, hok⟩ := g_pr hok
      try subst e
      cases hok
      exact cr_i hx hb hr hlocks hQ dX9_judge_36 hP hS
    replace hok := g_neg hok c
    refine lv_aload_n hx hb dX9_judge_25 rfl (lv_at hl 0 rfl) ?_
    refine va_get (ci := 9) (v := .ref h0_sorts) (C := RX9) (T := TX9) (N := 49) hx hb hts hinX9 hown hK hP 0 rfl rfl 15 (by decide) (hts _ (List.mem_of_getElem? (i := 1) rfl)) (fun _ h9 => h9) rfl dX9_judge_26 ?_
    refine lv_iload_n hx hb dX9_judge_29 rfl (lv_at hl 2 rfl) ?_
    obtain ⟨hin, hok⟩ := g_no hok
    refine x_iald (k := x2.toNatClampNeg) hx hb hK hP 8 0 rfl rfl hin rfl dX9_judge_30 ?_
    refine lv_if_ge (tgt := 37) hx hb dX9_judge_31 (by decide) (fun c => ?_) (fun c => ?_)
    · replace hok := g_pos hok c
      refine lv_aload_n hx hb dX9_judge_37 rfl (lv_at hl 0 rfl) ?_
      refine lv_iload_n hx hb dX9_judge_38 rfl (lv_at hl 1 rfl) ?_
      obtain ⟨o3, o4, o5, o6, o7, o8, o9, o10, o11, o12, hq, hok⟩ := g_bnd10 hok
      refine cG (is := [0, 1, 2, 3, 4, 5, 6, 7, 9, 10, 11]) (wc := (wm_X9_runs cA h0 h0_g h0_p h0_rows h0_rows_e h0_sizes h0_outs h0_losses h0_kept h0_changed h0_causes h0_sorts h0_moved h0_levelOf h0_levelOften h0_to h0_round h0_tail h0_path h0_leastOn h0_period h0_amplitude h0_basin h0_numbered h0_isReached h0_tape h0_told h0_traced s0__isKept s0__done s0__undoable s0__redoable s0__all s0__v s0__loss s0__isOver s0__hasCauses s0__outMany s0__overMany s0__isHalted s0__levelMany s0__rounds s0__stuck s0__onRounds s0__longest s0__loudest s0__reached s0__isAnyOver s0__taped s0__at s0__ran s0_g s0_p s0_rows_e s0_sizes s0_outs s0_losses)) (w1 := (wm_X9_runs cA h0 h0_g h0_p h0_rows h0_rows_e h0_sizes h0_outs h0_losses h0_kept h0_changed h0_causes h0_sorts h0_moved h0_levelOf h0_levelOften h0_to h0_round h0_tail h0_path h0_leastOn h0_period h0_amplitude h0_basin h0_numbered h0_isReached h0_tape h0_told h0_traced s0__isKept s0__done s0__undoable s0__redoable o3 o4 o5 o6 s0__hasCauses o7 o8 o9 s0__levelMany s0__rounds s0__stuck s0__onRounds s0__longest s0__loudest s0__reached s0__isAnyOver s0__taped s0__at s0__ran s0_g o10 s0_rows_e s0_sizes o11 o12)) (rv := none) (st1 := []) (va_runV (Ts := wsX9_judge) (As := [.int x1]) (rest := []) ⟨hx, hb, hml, hown, hts⟩ (c_X9_runs l G cA ts h0 h0_g h0_p h0_rows h0_rows_e h0_sizes h0_outs h0_losses h0_kept h0_changed h0_causes h0_sorts h0_moved h0_levelOf h0_levelOften h0_to h0_round h0_tail h0_path h0_leastOn h0_period h0_amplitude h0_basin h0_numbered h0_isReached h0_tape h0_told h0_traced x1 s0__isKept s0__done s0__undoable s0__redoable s0__all s0__v s0__loss s0__isOver s0__hasCauses s0__outMany s0__overMany s0__isHalted s0__levelMany s0__rounds s0__stuck s0__onRounds s0__longest s0__loudest s0__reached s0__isAnyOver s0__taped s0__at s0__ran s0_g s0_p s0_rows_e s0_sizes s0_outs s0_losses o3 o4 o5 o6 o7 o8 o9 o10 o11 o12 hq H.size) (cwV 1 hts gX9_judge_X9_runs rfl rfl rfl (by decide +kernel) ⟨Nat.le_of_ble_eq_true rfl, Nat.le_of_ble_eq_true rfl⟩) (pre_V (ci := 9) (q0 := 0) (is := [0, 1, 2, 3, 4, 5, 6, 7, 9, 10, 11]) rfl rfl hP hD hS hA hK hZ (by decide +kernel) (by rfl)) rfl rfl hl.1 rfl (by exact lv_room (Nat.le_of_ble_eq_true rfl)) dX9_judge_39 ⟨Nat.le_refl _, Nat.le_refl _⟩) hP hD hS hA (by decide +kernel) (by rfl) (by rfl) rfl (fun H locs hP hD hS => ?_)
      obtain ⟨hP, hD⟩ : va_P G vwCl (wm_X9_output cA h0 h0_g h0_p h0_rows h0_rows_e h0_sorts h0_sizes h0_outs h0_losses h0_kept h0_changed h0_causes h0_moved h0_levelOf h0_levelOften h0_to h0_round h0_tail h0_path h0_leastOn h0_period h0_amplitude h0_basin h0_numbered h0_isReached h0_tape h0_told h0_traced s0__isKept s0__done s0__undoable s0__redoable o3 o4 o5 o6 s0__hasCauses o7 o8 o9 s0__levelMany s0__rounds s0__stuck s0__onRounds s0__longest s0__loudest s0__reached s0__isAnyOver s0__taped s0__at s0__ran s0_g o10 s0_rows_e s0_sorts s0_sizes o11 o12) H ∧ va_D A (wm_X9_output cA h0 h0_g h0_p h0_rows h0_rows_e h0_sorts h0_sizes h0_outs h0_losses h0_kept h0_changed h0_causes h0_moved h0_levelOf h0_levelOften h0_to h0_round h0_tail h0_path h0_leastOn h0_period h0_amplitude h0_basin h0_numbered h0_isReached h0_tape h0_told h0_traced s0__isKept s0__done s0__undoable s0__redoable o3 o4 o5 o6 s0__hasCauses o7 o8 o9 s0__levelMany s0__rounds s0__stuck s0__onRounds s0__longest s0__loudest s0__reached s0__isAnyOver s0__taped s0__at s0__ran s0_g o10 s0_rows_e s0_sorts s0_sizes o11 o12) := PD_eq hP hD (rp_eq (js := [8]) 12 (by decide +kernel) rfl rfl (by rfl) (by rfl) (by decide +kernel))
      refine lv_iconst (v := 0) hx hb dX9_judge_42 (by decide) ?_
      refine lv_istore_n (lv' := [(3, .int (0:Int32)), (0, .ref h0), (1, .int x1), (2, .int x2)]) hx hb dX9_judge_43 rfl hl (by decide) rfl (fun ls hl => ?_)
      obtain ⟨o14, hq, hok⟩ := g_bnd1 hok
      refine L_44 FUEL (0:Int32) o3 o4 o5 o6 o7 o8 o9 o10 o11 o12 o14 _ _ _ hP hD hS (lv_sub hl [1, 3, 0] rfl) hq (fun p0_0 ho H locs ls hP hD hS hl => ?_) (fun _ ho H locs ls hP hD hS hl => ?_)
      · subst ho
        replace hok := g_inl hok
        replace hok := g_c1 hok
        refine lv_iload_n hx hb dX9_judge_81 rfl (lv_at hl 0 rfl) ?_
        obtain ⟨e, hok⟩ := g_pr hok
        try subst e
        obtain ⟨e, hok⟩ := g_pr hok
        try subst e
        obtain ⟨e, hok⟩ := g_pr hok
        try subst e
        obtain ⟨e, hok⟩ := g_pr hok
        try subst e
        obtain ⟨e, hok⟩ := g_pr hok
        try subst e
        obtain ⟨e, hok⟩ := g_pr hok
        try subst e
        obtain ⟨e, hok⟩ := g_pr hok
        try subst e
        obtain ⟨e, hok⟩ := g_pr hok
        try subst e
        obtain ⟨e, hok⟩ := g_pr hok
        try subst e
        obtain ⟨e, hok⟩ := g_pr hok
        try subst e
        cases hok
        exact cr_i hx hb hr hlocks hQ dX9_judge_82 hP hS
      subst ho
      replace hok := g_inr hok
      replace hok := g_c0 hok
      refine lv_aload_n hx hb dX9_judge_89 rfl (lv_at hl 0 rfl) ?_
      refine va_get (ci := 9) (v := .ref h0_sizes) (C := RX9) (T := TX9) (N := 49) hx hb hts hinX9 hown hK hP 0 rfl rfl 16 (by decide) (hts _ (List.mem_of_getElem? (i := 2) rfl)) (fun _ h9 => h9) rfl dX9_judge_90 ?_
      refine lv_iload_n hx hb dX9_judge_93 rfl (lv_at hl 1 rfl) ?_
      obtain ⟨hin, hok⟩ := g_no hok
      refine x_iald (k := x2.toNatClampNeg) hx hb hK hP 9 0 rfl rfl hin rfl dX9_judge_94 ?_
      refine lv_aload_n hx hb dX9_judge_95 rfl (lv_at hl 0 rfl) ?_
      refine va_get (ci := 9) (v := .int o7) (C := RX9) (T := TX9) (N := 49) hx hb hts hinX9 hown hK hP 0 rfl rfl 20 (by decide) (hts _ (List.mem_of_getElem? (i := 3) rfl)) (fun _ h9 => h9) rfl dX9_judge_96 ?_
      refine lv_icmp_ge (tgt := 114) hx hb dX9_judge_99 (by decide) (fun c => ?_) (fun c => ?_)
      · replace hok := g_pos hok c
        refine lv_bipush (v := -2) hx hb dX9_judge_114 (by decide) ?_
        obtain ⟨e, hok⟩ := g_pr hok
        try subst e
        obtain ⟨e, hok⟩ := g_pr hok
        try subst e
        obtain ⟨e, hok⟩ := g_pr hok
        try subst e
        obtain ⟨e, hok⟩ := g_pr hok
        try subst e
        obtain ⟨e, hok⟩ := g_pr hok
        try subst e
        obtain ⟨e, hok⟩ := g_pr hok
        try subst e
        obtain ⟨e, hok⟩ := g_pr hok
        try subst e
        obtain ⟨e, hok⟩ := g_pr hok
        try subst e
        obtain ⟨e, hok⟩ := g_pr hok
        try subst e
        obtain ⟨e, hok⟩ := g_pr hok
        try subst e
        cases hok
        exact cr_i hx hb hr hlocks hQ dX9_judge_116 hP hS
      replace hok := g_neg hok c
      refine lv_bipush (v := 100) hx hb dX9_judge_102 (by decide) ?_
      refine lv_aload_n hx hb dX9_judge_104 rfl (lv_at hl 0 rfl) ?_
      refine va_get (ci := 9) (v := .ref h0_sizes) (C := RX9) (T := TX9) (N := 49) hx hb hts hinX9 hown hK hP 0 rfl rfl 16 (by decide) (hts _ (List.mem_of_getElem? (i := 2) rfl)) (fun _ h9 => h9) rfl dX9_judge_105 ?_
      refine lv_iload_n hx hb dX9_judge_108 rfl (lv_at hl 1 rfl) ?_
      obtain ⟨hin, hok⟩ := g_no hok
      refine x_iald (k := x2.toNatClampNeg) hx hb hK hP 9 0 rfl rfl hin rfl dX9_judge_109 ?_
      refine lv_iadd hx hb dX9_judge_110 ?_
      refine lv_goto (tgt := 116) hx hb dX9_judge_111 (by decide) ?_
      obtain ⟨e, hok⟩ := g_pr hok
      try subst e
      obtain ⟨e, hok⟩ := g_pr hok
      try subst e
      obtain ⟨e, hok⟩ := g_pr hok
      try subst e
      obtain ⟨e, hok⟩ := g_pr hok
      try subst e
      obtain ⟨e, hok⟩ := g_pr hok
      try subst e
      obtain ⟨e, hok⟩ := g_pr hok
      try subst e
      obtain ⟨e, hok⟩ := g_pr hok
      try subst e
      obtain ⟨e, hok⟩ := g_pr hok
      try subst e
      obtain ⟨e, hok⟩ := g_pr hok
      try subst e
      obtain ⟨e, hok⟩ := g_pr hok
      try subst e
      cases hok
      exact cr_i hx hb hr hlocks hQ dX9_judge_116 hP hS
    replace hok := g_neg hok c
    refine lv_bipush (v := -11) hx hb dX9_judge_34 (by decide) ?_
    obtain ⟨e, hok⟩ := g_pr hok
    try subst e
    obtain ⟨e, hok⟩ := g_pr hok
    try subst e
    obtain ⟨e, hok⟩ := g_pr hok
    try subst e
    obtain ⟨e, hok⟩ := g_pr hok
    try subst e
    obtain ⟨e, hok⟩ := g_pr hok
    try subst e
    obtain ⟨e, hok⟩ := g_pr hok
    try subst e
    obtain ⟨e, hok⟩ := g_pr hok
    try subst e
    obtain ⟨e, hok⟩ := g_pr hok
    try subst e
    obtain ⟨e, hok⟩ := g_pr hok
    try subst e
    obtain ⟨e, hok⟩ := g_pr hok
    try subst e
    cases hok
    exact cr_i hx hb hr hlocks hQ dX9_judge_36 hP hS
  replace hok := g_pos hok c
  refine lv_iconst (v := -1) hx hb dX9_judge_14 (by decide) ?_
  obtain ⟨e, hok⟩ := g_pr hok
  try subst e
  obtain ⟨e, hok⟩ := g_pr hok
  try subst e
  obtain ⟨e, hok⟩ := g_pr hok
  try subst e
  obtain ⟨e, hok⟩ := g_pr hok
  try subst e
  obtain ⟨e, hok⟩ := g_pr hok
  try subst e
  obtain ⟨e, hok⟩ := g_pr hok
  try subst e
  obtain ⟨e, hok⟩ := g_pr hok
  try subst e
  obtain ⟨e, hok⟩ := g_pr hok
  try subst e
  obtain ⟨e, hok⟩ := g_pr hok
  try subst e
  obtain ⟨e, hok⟩ := g_pr hok
  try subst e
  cases hok
  exact cr_i hx hb hr hlocks hQ dX9_judge_15 hP hS
set_option maxHeartbeats 40000000 in
set_option maxRecDepth 100000 in
theorem c_X9_feed (l : Launch) (G : va_G) (cA : Nat → ClassId) (ts : Nat → Nat) (h0 : Nat) (h0_tape : Nat) (h0_g : Nat) (h0_kept : Nat) (h0_changed : Nat) (h0_p : Nat) (h0_causes : Nat) (h0_rows : Nat) (h0_sorts : Nat) (h0_sizes : Nat) (h0_moved : Nat) (h0_outs : Nat) (h0_losses : Nat) (h0_levelOf : Nat) (h0_levelOften : Nat) (h0_to : Nat) (h0_round : Nat) (h0_tail : Nat) (h0_path : Nat) (h0_leastOn : Nat) (h0_period : Nat) (h0_amplitude : Nat) (h0_basin : Nat) (h0_numbered : Nat) (h0_isReached : Nat) (h0_told : Nat) (h0_traced : Nat) (x1 : Int32) (s0__isKept : Int32) (s0__done : Int32) (s0__undoable : Int32) (s0__redoable : Int32) (s0__all : Int32) (s0__v : Int32) (s0__loss : Int32) (s0__isOver : Int32) (s0__hasCauses : Int32) (s0__outMany : Int32) (s0__overMany : Int32) (s0__isHalted : Int32) (s0__levelMany : Int32) (s0__rounds : Int32) (s0__stuck : Int32) (s0__onRounds : Int32) (s0__longest : Int32) (s0__loudest : Int32) (s0__reached : Int32) (s0__isAnyOver : Int32) (s0__taped : Int32) (s0__at : Int32) (s0__ran : Int32) (s0_tape : Nat → Int32) (r : Int32) (o0__taped : Int32) (o0_tape : Nat → Int32) (hok : fX9_feed x1 s0__taped s0_tape = some (r, o0__taped, o0_tape)) : Ct l G cA ts yX9_feed wsX9_feed 2 65 [.ref h0, .int x1] (wm_X9_feed cA h0 h0_tape h0_g h0_kept h0_changed h0_p h0_causes h0_rows h0_sorts h0_sizes h0_moved h0_outs h0_losses h0_levelOf h0_levelOften h0_to h0_round h0_tail h0_path h0_leastOn h0_period h0_amplitude h0_basin h0_numbered h0_isReached h0_told h0_traced s0__isKept s0__done s0__undoable s0__redoable s0__all s0__v s0__loss s0__isOver s0__hasCauses s0__outMany s0__overMany s0__isHalted s0__levelMany s0__rounds s0__stuck s0__onRounds s0__longest s0__loudest s0__reached s0__isAnyOver s0__taped s0__at s0__ran s0_tape) (wm_X9_feed cA h0 h0_tape h0_g h0_kept h0_changed h0_p h0_causes h0_rows h0_sorts h0_sizes h0_moved h0_outs h0_losses h0_levelOf h0_levelOften h0_to h0_round h0_tail h0_path h0_leastOn h0_period h0_amplitude h0_basin h0_numbered h0_isReached h0_told h0_traced s0__isKept s0__done s0__undoable s0__redoable s0__all s0__v s0__loss s0__isOver s0__hasCauses s0__outMany s0__overMany s0__isHalted s0__levelMany s0__rounds s0__stuck s0__onRounds s0__longest s0__loudest s0__reached s0__isAnyOver o0__taped s0__at s0__ran o0_tape) (some (.int r)) := by
  refine Ct.intro (cc := cX9_feed) (maxL := 2) (ret := some .int) (by decide +kernel) rfl (Nat.le_of_ble_eq_true rfl) ?_
  intro p e s m ar below meth c A Q hx hb hr hml hown hlocks hts hK hZ hA hQ hP hD hS ls hl
  have hown : s.vm.findClass RX9 = some m.cls := hown
  have hinX9 : ∀ w ∈ wsX90, w ∈ wsX9_feed := fun _ h => List.mem_cons_of_mem _ (List.mem_append_right _ (h))
  have hl : lv_has ls 2 [(0, .ref h0), (1, .int x1)] := hl
  have hP : va_P G vwCl (wm_X9_feed cA h0 h0_tape h0_g h0_kept h0_changed h0_p h0_causes h0_rows h0_sorts h0_sizes h0_moved h0_outs h0_losses h0_levelOf h0_levelOften h0_to h0_round h0_tail h0_path h0_leastOn h0_period h0_amplitude h0_basin h0_numbered h0_isReached h0_told h0_traced s0__isKept s0__done s0__undoable s0__redoable s0__all s0__v s0__loss s0__isOver s0__hasCauses s0__outMany s0__overMany s0__isHalted s0__levelMany s0__rounds s0__stuck s0__onRounds s0__longest s0__loudest s0__reached s0__isAnyOver s0__taped s0__at s0__ran s0_tape) s.heap := hP
  have hD : va_D A (wm_X9_feed cA h0 h0_tape h0_g h0_kept h0_changed h0_p h0_causes h0_rows h0_sorts h0_sizes h0_moved h0_outs h0_losses h0_levelOf h0_levelOften h0_to h0_round h0_tail h0_path h0_leastOn h0_period h0_amplitude h0_basin h0_numbered h0_isReached h0_told h0_traced s0__isKept s0__done s0__undoable s0__redoable s0__all s0__v s0__loss s0__isOver s0__hasCauses s0__outMany s0__overMany s0__isHalted s0__levelMany s0__rounds s0__stuck s0__onRounds s0__longest s0__loudest s0__reached s0__isAnyOver s0__taped s0__at s0__ran s0_tape) := hD
  unfold fX9_feed at hok
  refine lv_iload_n hx hb dX9_feed_0 rfl (lv_at hl 1 rfl) ?_
  refine lv_i2l (v := (x1.toInt64)) hx hb dX9_feed_1 rfl ?_
  refine lv_ldc2 (v := 32) hx hb hown (hts _ (List.mem_of_getElem? (i := 1) rfl)) dX9_feed_2 ?_
  refine lv_ldc2 (v := 126) hx hb hown (hts _ (List.mem_of_getElem? (i := 2) rfl)) dX9_feed_5 ?_
  obtain ⟨r1, hq, hok⟩ := g_bnd1 hok
  refine cG (is := []) (wc := (wm_X0_find cA)) (w1 := (wm_X0_find cA)) (rv := (some (.int r1))) (st1 := [.int r1]) (va_runS (Ts := wsX9_feed) (As := [.long (x1.toInt64), .long (32:Int64), .long (126:Int64)]) (rest := []) ⟨hx, hb, hml, hown, hts⟩ (c_X9_in l G cA ts (x1.toInt64) (32:Int64) (126:Int64) r1 hq s.heap.size) (va_cwS 3 hts gX9_feed_X9_in rfl rfl rfl (by decide +kernel) ⟨Nat.le_of_ble_eq_true rfl, Nat.le_of_ble_eq_true rfl⟩) (pre_S (is := []) hP hD hS hA hK hZ (by decide +kernel) (by rfl)) rfl rfl hl.1 rfl (by exact lv_room (Nat.le_of_ble_eq_true rfl)) dX9_feed_8 ⟨Nat.le_refl _, Nat.le_refl _⟩) hP hD hS hA (by decide +kernel) (by rfl) (by rfl) rfl (fun H locs hP hD hS => ?_)
  have hP : va_P G vwCl (wm_X9_feed cA h0 h0_tape h0_g h0_kept h0_changed h0_p h0_causes h0_rows h0_sorts h0_sizes h0_moved h0_outs h0_losses h0_levelOf h0_levelOften h0_to h0_round h0_tail h0_path h0_leastOn h0_period h0_amplitude h0_basin h0_numbered h0_isReached h0_told h0_traced s0__isKept s0__done s0__undoable s0__redoable s0__all s0__v s0__loss s0__isOver s0__hasCauses s0__outMany s0__overMany s0__isHalted s0__levelMany s0__rounds s0__stuck s0__onRounds s0__longest s0__loudest s0__reached s0__isAnyOver s0__taped s0__at s0__ran s0_tape) H := hP
  have hD : va_D A (wm_X9_feed cA h0 h0_tape h0_g h0_kept h0_changed h0_p h0_causes h0_rows h0_sorts h0_sizes h0_moved h0_outs h0_losses h0_levelOf h0_levelOften h0_to h0_round h0_tail h0_path h0_leastOn h0_period h0_amplitude h0_basin h0_numbered h0_isReached h0_told h0_traced s0__isKept s0__done s0__undoable s0__redoable s0__all s0__v s0__loss s0__isOver s0__hasCauses s0__outMany s0__overMany s0__isHalted s0__levelMany s0__rounds s0__stuck s0__onRounds s0__longest s0__loudest s0__reached s0__isAnyOver s0__taped s0__at s0__ran s0_tape) := hD
  refine lv_if_ne (tgt := 16) hx hb dX9_feed_11 (by decide) (fun c => ?_) (fun c => ?_)
  · replace hok := g_neg hok c
    refine lv_aload_n hx hb dX9_feed_16 rfl (lv_at hl 0 rfl) ?_
    refine va_get (ci := 9) (v := .int s0__taped) (C := RX9) (T := TX9) (N := 49) hx hb hts hinX9 hown hK hP 0 rfl rfl 44 (by decide) (hts _ (List.mem_of_getElem? (i := 3) rfl)) (fun _ h9 => h9) rfl dX9_feed_17 ?_
    refine lv_bipush (v := 80) hx hb dX9_feed_20 (by decide) ?_
    refine lv_icmp_ne (tgt := 28) hx hb dX9_feed_22 (by decide) (fun c => ?_) (fun c => ?_)
    · replace hok := g_neg hok c
      refine lv_aload_n hx hb dX9_feed_28 rfl (lv_at hl 0 rfl) ?_
      refine va_get (ci := 9) (v := .ref h0_tape) (C := RX9) (T := TX9) (N := 49) hx hb hts hinX9 hown hK hP 0 rfl rfl 43 (by decide) (hts _ (List.mem_of_getElem? (i := 4) rfl)) (fun _ h9 => h9) rfl dX9_feed_29 ?_
      refine lv_aload_n hx hb dX9_feed_32 rfl (lv_at hl 0 rfl) ?_
      refine va_get (ci := 9) (v := .int s0__taped) (C := RX9) (T := TX9) (N := 49) hx hb hts hinX9 hown hK hP 0 rfl rfl 44 (by decide) (hts _ (List.mem_of_getElem? (i := 3) rfl)) (fun _ h9 => h9) rfl dX9_feed_33 ?_
      refine lv_iload_n hx hb dX9_feed_36 rfl (lv_at hl 1 rfl) ?_
      obtain ⟨hin, hok⟩ := g_no hok
      refine x_iast (k := s0__taped.toNatClampNeg) hx hb hK hP hD hS 1 0 rfl rfl hin rfl dX9_feed_37 (fun H locs hP hD hS => ?_)
      have hP : va_P G vwCl (wm_X9_feed cA h0 h0_tape h0_g h0_kept h0_changed h0_p h0_causes h0_rows h0_sorts h0_sizes h0_moved h0_outs h0_losses h0_levelOf h0_levelOften h0_to h0_round h0_tail h0_path h0_leastOn h0_period h0_amplitude h0_basin h0_numbered h0_isReached h0_told h0_traced s0__isKept s0__done s0__undoable s0__redoable s0__all s0__v s0__loss s0__isOver s0__hasCauses s0__outMany s0__overMany s0__isHalted s0__levelMany s0__rounds s0__stuck s0__onRounds s0__longest s0__loudest s0__reached s0__isAnyOver s0__taped s0__at s0__ran (upd s0_tape s0__taped.toNatClampNeg x1)) H := hP
      have hD : va_D A (wm_X9_feed cA h0 h0_tape h0_g h0_kept h0_changed h0_p h0_causes h0_rows h0_sorts h0_sizes h0_moved h0_outs h0_losses h0_levelOf h0_levelOften h0_to h0_round h0_tail h0_path h0_leastOn h0_period h0_amplitude h0_basin h0_numbered h0_isReached h0_told h0_traced s0__isKept s0__done s0__undoable s0__redoable s0__all s0__v s0__loss s0__isOver s0__hasCauses s0__outMany s0__overMany s0__isHalted s0__levelMany s0__rounds s0__stuck s0__onRounds s0__longest s0__loudest s0__reached s0__isAnyOver s0__taped s0__at s0__ran (upd s0_tape s0__taped.toNatClampNeg x1)) := hD
      refine lv_aload_n hx hb dX9_feed_38 rfl (lv_at hl 0 rfl) ?_
      refine lv_dup hx hb dX9_feed_39 rfl ?_
      refine va_get (ci := 9) (v := .int s0__taped) (C := RX9) (T := TX9) (N := 49) hx hb hts hinX9 hown hK hP 0 rfl rfl 44 (by decide) (hts _ (List.mem_of_getElem? (i := 3) rfl)) (fun _ h9 => h9) rfl dX9_feed_40 ?_
      refine lv_iconst (v := 1) hx hb dX9_feed_43 (by decide) ?_
      refine lv_iadd hx hb dX9_feed_44 ?_
      refine va_put (D := G) (ci := 9) (v := .int (s0__taped + (1:Int32))) (ty := .int) (C := RX9) (T := TX9) (N := 49) hx hb hts hinX9 tyX9 tyX9_ok nmX9 hown hK hP hD hS 0 rfl rfl 44 (by decide) (hts _ (List.mem_of_getElem? (i := 3) rfl)) (fun _ h9 => h9) rfl (by decide +kernel) rfl rfl (Nat.le_of_ble_eq_true rfl) dX9_feed_45 (fun H locs hP hD hS => ?_)
      have hP : va_P G vwCl (wm_X9_feed cA h0 h0_tape h0_g h0_kept h0_changed h0_p h0_causes h0_rows h0_sorts h0_sizes h0_moved h0_outs h0_losses h0_levelOf h0_levelOften h0_to h0_round h0_tail h0_path h0_leastOn h0_period h0_amplitude h0_basin h0_numbered h0_isReached h0_told h0_traced s0__isKept s0__done s0__undoable s0__redoable s0__all s0__v s0__loss s0__isOver s0__hasCauses s0__outMany s0__overMany s0__isHalted s0__levelMany s0__rounds s0__stuck s0__onRounds s0__longest s0__loudest s0__reached s0__isAnyOver (s0__taped + (1:Int32)) s0__at s0__ran (upd s0_tape s0__taped.toNatClampNeg x1)) H := hP
      have hD : va_D A (wm_X9_feed cA h0 h0_tape h0_g h0_kept h0_changed h0_p h0_causes h0_rows h0_sorts h0_sizes h0_moved h0_outs h0_losses h0_levelOf h0_levelOften h0_to h0_round h0_tail h0_path h0_leastOn h0_period h0_amplitude h0_basin h0_numbered h0_isReached h0_told h0_traced s0__isKept s0__done s0__undoable s0__redoable s0__all s0__v s0__loss s0__isOver s0__hasCauses s0__outMany s0__overMany s0__isHalted s0__levelMany s0__rounds s0__stuck s0__onRounds s0__longest s0__loudest s0__reached s0__isAnyOver (s0__taped + (1:Int32)) s0__at s0__ran (upd s0_tape s0__taped.toNatClampNeg x1)) := hD
      refine lv_aload_n hx hb dX9_feed_48 rfl (lv_at hl 0 rfl) ?_
      refine va_get (ci := 9) (v := .int (s0__taped + (1:Int32))) (C := RX9) (T := TX9) (N := 49) hx hb hts hinX9 hown hK hP 0 rfl rfl 44 (by decide) (hts _ (List.mem_of_getElem? (i := 3) rfl)) (fun _ h9 => h9) rfl dX9_feed_49 ?_
      cases hok
      exact cr_i hx hb hr hlocks hQ dX9_feed_52 hP hS
    replace hok := g_pos hok c
    refine lv_bipush (v := -3) hx hb dX9_feed_25 (by decide) ?_
    cases hok
    exact cr_i hx hb hr hlocks hQ dX9_feed_27 hP hS
  replace hok := g_pos hok c
  refine lv_iconst (v := -1) hx hb dX9_feed_14 (by decide) ?_
  cases hok
  exact cr_i hx hb hr hlocks hQ dX9_feed_15 hP hS
