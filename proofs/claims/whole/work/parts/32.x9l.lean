set_option maxHeartbeats 40000000 in
set_option maxRecDepth 100000 in
theorem c_X9_leads (l : Launch) (G : va_G) (cA : Nat → ClassId) (ts : Nat → Nat) (h0 : Nat) (h0_g : Nat) (h0_p : Nat) (h0_to : Nat) (h0_round : Nat) (h0_tail : Nat) (h0_path : Nat) (h0_leastOn : Nat) (h0_period : Nat) (h0_amplitude : Nat) (h0_basin : Nat) (h0_numbered : Nat) (h0_kept : Nat) (h0_changed : Nat) (h0_causes : Nat) (h0_rows : Nat) (h0_sorts : Nat) (h0_sizes : Nat) (h0_moved : Nat) (h0_outs : Nat) (h0_losses : Nat) (h0_levelOf : Nat) (h0_levelOften : Nat) (h0_isReached : Nat) (h0_tape : Nat) (h0_told : Nat) (h0_traced : Nat) (x1 : Int32) (x2 : Int32) (x3 : Int32) (s0__isKept : Int32) (s0__done : Int32) (s0__undoable : Int32) (s0__redoable : Int32) (s0__all : Int32) (s0__v : Int32) (s0__loss : Int32) (s0__isOver : Int32) (s0__hasCauses : Int32) (s0__outMany : Int32) (s0__overMany : Int32) (s0__isHalted : Int32) (s0__levelMany : Int32) (s0__rounds : Int32) (s0__stuck : Int32) (s0__onRounds : Int32) (s0__longest : Int32) (s0__loudest : Int32) (s0__reached : Int32) (s0__isAnyOver : Int32) (s0__taped : Int32) (s0__at : Int32) (s0__ran : Int32) (s0_g : Nat → Int32) (s0_p : Nat → Int32) (s0_to : Nat → Int32) (s0_round : Nat → Int32) (s0_tail : Nat → Int32) (s0_path : Nat → Int32) (s0_leastOn : Nat → Int32) (s0_period : Nat → Int32) (s0_amplitude : Nat → Int32) (s0_basin : Nat → Int32) (s0_numbered : Nat → Int32) (r : Int32) (o0__all : Int32) (o0__v : Int32) (o0__loss : Int32) (o0__isOver : Int32) (o0__rounds : Int32) (o0__stuck : Int32) (o0__onRounds : Int32) (o0__longest : Int32) (o0__loudest : Int32) (o0_p : Nat → Int32) (o0_to : Nat → Int32) (o0_round : Nat → Int32) (o0_tail : Nat → Int32) (o0_path : Nat → Int32) (o0_leastOn : Nat → Int32) (o0_period : Nat → Int32) (o0_amplitude : Nat → Int32) (o0_basin : Nat → Int32) (o0_numbered : Nat → Int32) (hok : fX9_leads x1 x2 x3 s0__all s0__v s0__loss s0__isOver s0__rounds s0__stuck s0__onRounds s0__longest s0__loudest s0_g s0_p s0_to s0_round s0_tail s0_path s0_leastOn s0_period s0_amplitude s0_basin s0_numbered = some (r, o0__all, o0__v, o0__loss, o0__isOver, o0__rounds, o0__stuck, o0__onRounds, o0__longest, o0__loudest, o0_p, o0_to, o0_round, o0_tail, o0_path, o0_leastOn, o0_period, o0_amplitude, o0_basin, o0_numbered)) : Ct l G cA ts yX9_leads wsX9_leads 7 177 [.ref h0, .int x1, .int x2, .int x3] (wm_X9_findsAll cA h0 h0_g h0_p h0_to h0_round h0_tail h0_path h0_leastOn h0_period h0_amplitude h0_basin h0_numbered h0_kept h0_changed h0_causes h0_rows h0_sorts h0_sizes h0_moved h0_outs h0_losses h0_levelOf h0_levelOften h0_isReached h0_tape h0_told h0_traced s0__isKept s0__done s0__undoable s0__redoable s0__all s0__v s0__loss s0__isOver s0__hasCauses s0__outMany s0__overMany s0__isHalted s0__levelMany s0__rounds s0__stuck s0__onRounds s0__longest s0__loudest s0__reached s0__isAnyOver s0__taped s0__at s0__ran s0_g s0_p s0_to s0_round s0_tail s0_path s0_leastOn s0_period s0_amplitude s0_basin s0_numbered) (wm_X9_findsAll cA h0 h0_g h0_p h0_to h0_round h0_tail h0_path h0_leastOn h0_period h0_amplitude h0_basin h0_numbered h0_kept h0_changed h0_causes h0_rows h0_sorts h0_sizes h0_moved h0_outs h0_losses h0_levelOf h0_levelOften h0_isReached h0_tape h0_told h0_traced s0__isKept s0__done s0__undoable s0__redoable o0__all o0__v o0__loss o0__isOver s0__hasCauses s0__outMany s0__overMany s0__isHalted s0__levelMany o0__rounds o0__stuck o0__onRounds o0__longest o0__loudest s0__reached s0__isAnyOver s0__taped s0__at s0__ran s0_g o0_p o0_to o0_round o0_tail o0_path o0_leastOn o0_period o0_amplitude o0_basin o0_numbered) (some (.int r)) := by
  refine Ct.intro (cc := cX9_leads) (maxL := 5) (ret := some .int) (by decide +kernel) rfl (Nat.le_of_ble_eq_true rfl) ?_
  intro p e s m ar below meth c A Q hx hb hr hml hown hlocks hts hK hZ hA hQ hP hD hS ls hl
  have hown : s.vm.findClass RX9 = some m.cls := hown
  have hinX9 : ∀ w ∈ wsX90, w ∈ wsX9_leads := fun _ h => List.mem_cons_of_mem _ (List.mem_append_right _ (h))
  have hl : lv_has ls 5 [(0, .ref h0), (1, .int x1), (2, .int x2), (3, .int x3)] := hl
  have hP : va_P G vwCl (wm_X9_findsAll cA h0 h0_g h0_p h0_to h0_round h0_tail h0_path h0_leastOn h0_period h0_amplitude h0_basin h0_numbered h0_kept h0_changed h0_causes h0_rows h0_sorts h0_sizes h0_moved h0_outs h0_losses h0_levelOf h0_levelOften h0_isReached h0_tape h0_told h0_traced s0__isKept s0__done s0__undoable s0__redoable s0__all s0__v s0__loss s0__isOver s0__hasCauses s0__outMany s0__overMany s0__isHalted s0__levelMany s0__rounds s0__stuck s0__onRounds s0__longest s0__loudest s0__reached s0__isAnyOver s0__taped s0__at s0__ran s0_g s0_p s0_to s0_round s0_tail s0_path s0_leastOn s0_period s0_amplitude s0_basin s0_numbered) s.heap := hP
  have hD : va_D A (wm_X9_findsAll cA h0 h0_g h0_p h0_to h0_round h0_tail h0_path h0_leastOn h0_period h0_amplitude h0_basin h0_numbered h0_kept h0_changed h0_causes h0_rows h0_sorts h0_sizes h0_moved h0_outs h0_losses h0_levelOf h0_levelOften h0_isReached h0_tape h0_told h0_traced s0__isKept s0__done s0__undoable s0__redoable s0__all s0__v s0__loss s0__isOver s0__hasCauses s0__outMany s0__overMany s0__isHalted s0__levelMany s0__rounds s0__stuck s0__onRounds s0__longest s0__loudest s0__reached s0__isAnyOver s0__taped s0__at s0__ran s0_g s0_p s0_to s0_round s0_tail s0_path s0_leastOn s0_period s0_amplitude s0_basin s0_numbered) := hD
  unfold fX9_leads at hok
  refine lv_aload_n hx hb dX9_leads_0 rfl (lv_at hl 0 rfl) ?_
  refine lv_iload_n hx hb dX9_leads_1 rfl (lv_at hl 1 rfl) ?_
  obtain ⟨r1, hq, hok⟩ := g_bnd1 hok
  refine cG (is := [0, 1]) (wc := (wm_X9_half cA h0 h0_g h0_kept h0_changed h0_p h0_causes h0_rows h0_sorts h0_sizes h0_moved h0_outs h0_losses h0_levelOf h0_levelOften h0_to h0_round h0_tail h0_path h0_leastOn h0_period h0_amplitude h0_basin h0_numbered h0_isReached h0_tape h0_told h0_traced s0__isKept s0__done s0__undoable s0__redoable s0__all s0__v s0__loss s0__isOver s0__hasCauses s0__outMany s0__overMany s0__isHalted s0__levelMany s0__rounds s0__stuck s0__onRounds s0__longest s0__loudest s0__reached s0__isAnyOver s0__taped s0__at s0__ran s0_g)) (w1 := (wm_X9_half cA h0 h0_g h0_kept h0_changed h0_p h0_causes h0_rows h0_sorts h0_sizes h0_moved h0_outs h0_losses h0_levelOf h0_levelOften h0_to h0_round h0_tail h0_path h0_leastOn h0_period h0_amplitude h0_basin h0_numbered h0_isReached h0_tape h0_told h0_traced s0__isKept s0__done s0__undoable s0__redoable s0__all s0__v s0__loss s0__isOver s0__hasCauses s0__outMany s0__overMany s0__isHalted s0__levelMany s0__rounds s0__stuck s0__onRounds s0__longest s0__loudest s0__reached s0__isAnyOver s0__taped s0__at s0__ran s0_g)) (rv := (some (.int r1))) (st1 := [.int r1]) (va_runV (Ts := wsX9_leads) (As := [.int x1]) (rest := []) ⟨hx, hb, hml, hown, hts⟩ (c_X9_isCode l G cA ts h0 h0_g h0_kept h0_changed h0_p h0_causes h0_rows h0_sorts h0_sizes h0_moved h0_outs h0_losses h0_levelOf h0_levelOften h0_to h0_round h0_tail h0_path h0_leastOn h0_period h0_amplitude h0_basin h0_numbered h0_isReached h0_tape h0_told h0_traced x1 s0__isKept s0__done s0__undoable s0__redoable s0__all s0__v s0__loss s0__isOver s0__hasCauses s0__outMany s0__overMany s0__isHalted s0__levelMany s0__rounds s0__stuck s0__onRounds s0__longest s0__loudest s0__reached s0__isAnyOver s0__taped s0__at s0__ran s0_g r1 hq s.heap.size) (cwV 1 hts gX9_leads_X9_isCode rfl rfl rfl (by decide +kernel) ⟨Nat.le_of_ble_eq_true rfl, Nat.le_of_ble_eq_true rfl⟩) (pre_V (ci := 9) (q0 := 0) (is := [0, 1]) rfl rfl hP hD hS hA hK hZ (by decide +kernel) (by rfl)) rfl rfl hl.1 rfl (by exact lv_room (Nat.le_of_ble_eq_true rfl)) dX9_leads_2 ⟨Nat.le_refl _, Nat.le_refl _⟩) hP hD hS hA (by decide +kernel) (by rfl) (by rfl) rfl (fun H locs hP hD hS => ?_)
  have hP : va_P G vwCl (wm_X9_findsAll cA h0 h0_g h0_p h0_to h0_round h0_tail h0_path h0_leastOn h0_period h0_amplitude h0_basin h0_numbered h0_kept h0_changed h0_causes h0_rows h0_sorts h0_sizes h0_moved h0_outs h0_losses h0_levelOf h0_levelOften h0_isReached h0_tape h0_told h0_traced s0__isKept s0__done s0__undoable s0__redoable s0__all s0__v s0__loss s0__isOver s0__hasCauses s0__outMany s0__overMany s0__isHalted s0__levelMany s0__rounds s0__stuck s0__onRounds s0__longest s0__loudest s0__reached s0__isAnyOver s0__taped s0__at s0__ran s0_g s0_p s0_to s0_round s0_tail s0_path s0_leastOn s0_period s0_amplitude s0_basin s0_numbered) H := hP
  have hD : va_D A (wm_X9_findsAll cA h0 h0_g h0_p h0_to h0_round h0_tail h0_path h0_leastOn h0_period h0_amplitude h0_basin h0_numbered h0_kept h0_changed h0_causes h0_rows h0_sorts h0_sizes h0_moved h0_outs h0_losses h0_levelOf h0_levelOften h0_isReached h0_tape h0_told h0_traced s0__isKept s0__done s0__undoable s0__redoable s0__all s0__v s0__loss s0__isOver s0__hasCauses s0__outMany s0__overMany s0__isHalted s0__levelMany s0__rounds s0__stuck s0__onRounds s0__longest s0__loudest s0__reached s0__isAnyOver s0__taped s0__at s0__ran s0_g s0_p s0_to s0_round s0_tail s0_path s0_leastOn s0_period s0_amplitude s0_basin s0_numbered) := hD
  refine lv_if_eq (tgt := 27) hx hb dX9_leads_5 (by decide) (fun c => ?_) (fun c => ?_)
  · replace hok := g_pos hok c
    refine lv_iconst (v := -1) hx hb dX9_leads_27 (by decide) ?_
    obtain ⟨e, hok⟩ := g_pr hok
    try subst e
    obtain ⟨e, hok⟩ := g_pr hok
    try subst e
    obtain ⟨e, hok⟩ := g_pr hok
    try subst e
    obtain ⟨e, hok⟩ := g_pr hok
    try subst e
    obtain ⟨e, hok⟩ := g_pr hok
    try subst e
    obtain ⟨e, hok⟩ := g_pr hok
    try subst e
    obtain ⟨e, hok⟩ := g_pr hok
    try subst e
    obtain ⟨e, hok⟩ := g_pr hok
    try subst e
    obtain ⟨e, hok⟩ := g_pr hok
    try subst e
    obtain ⟨e, hok⟩ := g_pr hok
    try subst e
    obtain ⟨e, hok⟩ := g_pr hok
    try subst e
    obtain ⟨e, hok⟩ := g_pr hok
    try subst e
    obtain ⟨e, hok⟩ := g_pr hok
    try subst e
    obtain ⟨e, hok⟩ := g_pr hok
    try subst e
    obtain ⟨e, hok⟩ := g_pr hok
    try subst e
    obtain ⟨e, hok⟩ := g_pr hok
    try subst e
    obtain ⟨e, hok⟩ := g_pr hok
    try subst e
    obtain ⟨e, hok⟩ := g_pr hok
    try subst e
    obtain ⟨e, hok⟩ := g_pr hok
    try subst e
    cases hok
    exact cr_i hx hb hr hlocks hQ dX9_leads_28 hP hS
  replace hok := g_neg hok c
  refine lv_iload_n hx hb dX9_leads_8 rfl (lv_at hl 2 rfl) ?_
  obtain ⟨r2, hq, hok⟩ := g_bnd1 hok
  refine cG (is := []) (wc := (wm_X0_find cA)) (w1 := (wm_X0_find cA)) (rv := (some (.int r2))) (st1 := [.int r2]) (va_runS (Ts := wsX9_leads) (As := [.int x2]) (rest := []) ⟨hx, hb, hml, hown, hts⟩ (c_X9_isInput l G cA ts x2 r2 hq H.size) (va_cwS 1 hts gX9_leads_X9_isInput rfl rfl rfl (by decide +kernel) ⟨Nat.le_of_ble_eq_true rfl, Nat.le_of_ble_eq_true rfl⟩) (pre_S (is := []) hP hD hS hA hK hZ (by decide +kernel) (by rfl)) rfl rfl hl.1 rfl (by exact lv_room (Nat.le_of_ble_eq_true rfl)) dX9_leads_9 ⟨Nat.le_refl _, Nat.le_refl _⟩) hP hD hS hA (by decide +kernel) (by rfl) (by rfl) rfl (fun H locs hP hD hS => ?_)
  have hP : va_P G vwCl (wm_X9_findsAll cA h0 h0_g h0_p h0_to h0_round h0_tail h0_path h0_leastOn h0_period h0_amplitude h0_basin h0_numbered h0_kept h0_changed h0_causes h0_rows h0_sorts h0_sizes h0_moved h0_outs h0_losses h0_levelOf h0_levelOften h0_isReached h0_tape h0_told h0_traced s0__isKept s0__done s0__undoable s0__redoable s0__all s0__v s0__loss s0__isOver s0__hasCauses s0__outMany s0__overMany s0__isHalted s0__levelMany s0__rounds s0__stuck s0__onRounds s0__longest s0__loudest s0__reached s0__isAnyOver s0__taped s0__at s0__ran s0_g s0_p s0_to s0_round s0_tail s0_path s0_leastOn s0_period s0_amplitude s0_basin s0_numbered) H := hP
  have hD : va_D A (wm_X9_findsAll cA h0 h0_g h0_p h0_to h0_round h0_tail h0_path h0_leastOn h0_period h0_amplitude h0_basin h0_numbered h0_kept h0_changed h0_causes h0_rows h0_sorts h0_sizes h0_moved h0_outs h0_losses h0_levelOf h0_levelOften h0_isReached h0_tape h0_told h0_traced s0__isKept s0__done s0__undoable s0__redoable s0__all s0__v s0__loss s0__isOver s0__hasCauses s0__outMany s0__overMany s0__isHalted s0__levelMany s0__rounds s0__stuck s0__onRounds s0__longest s0__loudest s0__reached s0__isAnyOver s0__taped s0__at s0__ran s0_g s0_p s0_to s0_round s0_tail s0_path s0_leastOn s0_period s0_amplitude s0_basin s0_numbered) := hD
  refine lv_if_eq (tgt := 27) hx hb dX9_leads_12 (by decide) (fun c => ?_) (fun c => ?_)
  · replace hok := g_pos hok c
    refine lv_iconst (v := -1) hx hb dX9_leads_27 (by decide) ?_
    obtain ⟨e, hok⟩ := g_pr hok
    try subst e
    obtain ⟨e, hok⟩ := g_pr hok
    try subst e
    obtain ⟨e, hok⟩ := g_pr hok
    try subst e
    obtain ⟨e, hok⟩ := g_pr hok
    try subst e
    obtain ⟨e, hok⟩ := g_pr hok
    try subst e
    obtain ⟨e, hok⟩ := g_pr hok
    try subst e
    obtain ⟨e, hok⟩ := g_pr hok
    try subst e
    obtain ⟨e, hok⟩ := g_pr hok
    try subst e
    obtain ⟨e, hok⟩ := g_pr hok
    try subst e
    obtain ⟨e, hok⟩ := g_pr hok
    try subst e
    obtain ⟨e, hok⟩ := g_pr hok
    try subst e
    obtain ⟨e, hok⟩ := g_pr hok
    try subst e
    obtain ⟨e, hok⟩ := g_pr hok
    try subst e
    obtain ⟨e, hok⟩ := g_pr hok
    try subst e
    obtain ⟨e, hok⟩ := g_pr hok
    try subst e
    obtain ⟨e, hok⟩ := g_pr hok
    try subst e
    obtain ⟨e, hok⟩ := g_pr hok
    try subst e
    obtain ⟨e, hok⟩ := g_pr hok
    try subst e
    obtain ⟨e, hok⟩ := g_pr hok
    try subst e
    cases hok
    exact cr_i hx hb hr hlocks hQ dX9_leads_28 hP hS
  replace hok := g_neg hok c
  refine lv_iload_n hx hb dX9_leads_15 rfl (lv_at hl 3 rfl) ?_
  refine lv_i2l (v := (x3.toInt64)) hx hb dX9_leads_16 rfl ?_
  refine lv_lconst (v := 0) hx hb dX9_leads_17 (by decide) ?_
  refine lv_ldc2 (v := 2) hx hb hown (hts _ (List.mem_of_getElem? (i := 1) rfl)) dX9_leads_18 ?_
  obtain ⟨r3, hq, hok⟩ := g_bnd1 hok
  refine cG (is := []) (wc := (wm_X0_find cA)) (w1 := (wm_X0_find cA)) (rv := (some (.int r3))) (st1 := [.int r3]) (va_runS (Ts := wsX9_leads) (As := [.long (x3.toInt64), .long (0:Int64), .long (2:Int64)]) (rest := []) ⟨hx, hb, hml, hown, hts⟩ (c_X9_in l G cA ts (x3.toInt64) (0:Int64) (2:Int64) r3 hq H.size) (va_cwS 3 hts gX9_leads_X9_in rfl rfl rfl (by decide +kernel) ⟨Nat.le_of_ble_eq_true rfl, Nat.le_of_ble_eq_true rfl⟩) (pre_S (is := []) hP hD hS hA hK hZ (by decide +kernel) (by rfl)) rfl rfl hl.1 rfl (by exact lv_room (Nat.le_of_ble_eq_true rfl)) dX9_leads_21 ⟨Nat.le_refl _, Nat.le_refl _⟩) hP hD hS hA (by decide +kernel) (by rfl) (by rfl) rfl (fun H locs hP hD hS => ?_)
  have hP : va_P G vwCl (wm_X9_findsAll cA h0 h0_g h0_p h0_to h0_round h0_tail h0_path h0_leastOn h0_period h0_amplitude h0_basin h0_numbered h0_kept h0_changed h0_causes h0_rows h0_sorts h0_sizes h0_moved h0_outs h0_losses h0_levelOf h0_levelOften h0_isReached h0_tape h0_told h0_traced s0__isKept s0__done s0__undoable s0__redoable s0__all s0__v s0__loss s0__isOver s0__hasCauses s0__outMany s0__overMany s0__isHalted s0__levelMany s0__rounds s0__stuck s0__onRounds s0__longest s0__loudest s0__reached s0__isAnyOver s0__taped s0__at s0__ran s0_g s0_p s0_to s0_round s0_tail s0_path s0_leastOn s0_period s0_amplitude s0_basin s0_numbered) H := hP
  have hD : va_D A (wm_X9_findsAll cA h0 h0_g h0_p h0_to h0_round h0_tail h0_path h0_leastOn h0_period h0_amplitude h0_basin h0_numbered h0_kept h0_changed h0_causes h0_rows h0_sorts h0_sizes h0_moved h0_outs h0_losses h0_levelOf h0_levelOften h0_isReached h0_tape h0_told h0_traced s0__isKept s0__done s0__undoable s0__redoable s0__all s0__v s0__loss s0__isOver s0__hasCauses s0__outMany s0__overMany s0__isHalted s0__levelMany s0__rounds s0__stuck s0__onRounds s0__longest s0__loudest s0__reached s0__isAnyOver s0__taped s0__at s0__ran s0_g s0_p s0_to s0_round s0_tail s0_path s0_leastOn s0_period s0_amplitude s0_basin s0_numbered) := hD
  refine lv_if_ne (tgt := 29) hx hb dX9_leads_24 (by decide) (fun c => ?_) (fun c => ?_)
  · replace hok := g_neg hok c
    refine lv_aload_n hx hb dX9_leads_29 rfl (lv_at hl 0 rfl) ?_
    refine lv_iload_n hx hb dX9_leads_30 rfl (lv_at hl 2 rfl) ?_
    obtain ⟨o4, o5, o6, o7, o8, o9, o10, o11, o12, o13, o14, o15, o16, o17, o18, o19, o20, o21, o22, hq, hok⟩ := g_bnd19 hok
    refine cG (is := [0, 1, 2, 3, 4, 5, 6, 7, 8, 9, 10, 11]) (wc := (wm_X9_findsAll cA h0 h0_g h0_p h0_to h0_round h0_tail h0_path h0_leastOn h0_period h0_amplitude h0_basin h0_numbered h0_kept h0_changed h0_causes h0_rows h0_sorts h0_sizes h0_moved h0_outs h0_losses h0_levelOf h0_levelOften h0_isReached h0_tape h0_told h0_traced s0__isKept s0__done s0__undoable s0__redoable s0__all s0__v s0__loss s0__isOver s0__hasCauses s0__outMany s0__overMany s0__isHalted s0__levelMany s0__rounds s0__stuck s0__onRounds s0__longest s0__loudest s0__reached s0__isAnyOver s0__taped s0__at s0__ran s0_g s0_p s0_to s0_round s0_tail s0_path s0_leastOn s0_period s0_amplitude s0_basin s0_numbered)) (w1 := (wm_X9_findsAll cA h0 h0_g h0_p h0_to h0_round h0_tail h0_path h0_leastOn h0_period h0_amplitude h0_basin h0_numbered h0_kept h0_changed h0_causes h0_rows h0_sorts h0_sizes h0_moved h0_outs h0_losses h0_levelOf h0_levelOften h0_isReached h0_tape h0_told h0_traced s0__isKept s0__done s0__undoable s0__redoable o4 o5 o6 o7 s0__hasCauses s0__outMany s0__overMany s0__isHalted s0__levelMany o8 o9 o10 o11 o12 s0__reached s0__isAnyOver s0__taped s0__at s0__ran s0_g o13 o14 o15 o16 o17 o18 o19 o20 o21 o22)) (rv := none) (st1 := []) (va_runV (Ts := wsX9_leads) (As := [.int x2]) (rest := []) ⟨hx, hb, hml, hown, hts⟩ (c_X9_findsAll l G cA ts h0 h0_g h0_p h0_to h0_round h0_tail h0_path h0_leastOn h0_period h0_amplitude h0_basin h0_numbered h0_kept h0_changed h0_causes h0_rows h0_sorts h0_sizes h0_moved h0_outs h0_losses h0_levelOf h0_levelOften h0_isReached h0_tape h0_told h0_traced x2 s0__isKept s0__done s0__undoable s0__redoable s0__all s0__v s0__loss s0__isOver s0__hasCauses s0__outMany s0__overMany s0__isHalted s0__levelMany s0__rounds s0__stuck s0__onRounds s0__longest s0__loudest s0__reached s0__isAnyOver s0__taped s0__at s0__ran s0_g s0_p s0_to s0_round s0_tail s0_path s0_leastOn s0_period s0_amplitude s0_basin s0_numbered o4 o5 o6 o7 o8 o9 o10 o11 o12 o13 o14 o15 o16 o17 o18 o19 o20 o21 o22 hq H.size) (cwV 1 hts gX9_leads_X9_findsAll rfl rfl rfl (by decide +kernel) ⟨Nat.le_of_ble_eq_true rfl, Nat.le_of_ble_eq_true rfl⟩) (pre_V (ci := 9) (q0 := 0) (is := [0, 1, 2, 3, 4, 5, 6, 7, 8, 9, 10, 11]) rfl rfl hP hD hS hA hK hZ (by decide +kernel) (by rfl)) rfl rfl hl.1 rfl (by exact lv_room (Nat.le_of_ble_eq_true rfl)) dX9_leads_31 ⟨Nat.le_refl _, Nat.le_refl _⟩) hP hD hS hA (by decide +kernel) (by rfl) (by rfl) rfl (fun H locs hP hD hS => ?_)
    obtain ⟨hP, hD⟩ : va_P G vwCl (wm_X9_findsAll cA h0 h0_g h0_p h0_to h0_round h0_tail h0_path h0_leastOn h0_period h0_amplitude h0_basin h0_numbered h0_kept h0_changed h0_causes h0_rows h0_sorts h0_sizes h0_moved h0_outs h0_losses h0_levelOf h0_levelOften h0_isReached h0_tape h0_told h0_traced s0__isKept s0__done s0__undoable s0__redoable o4 o5 o6 o7 s0__hasCauses s0__outMany s0__overMany s0__isHalted s0__levelMany o8 o9 o10 o11 o12 s0__reached s0__isAnyOver s0__taped s0__at s0__ran s0_g o13 o14 o15 o16 o17 o18 o19 o20 o21 o22) H ∧ va_D A (wm_X9_findsAll cA h0 h0_g h0_p h0_to h0_round h0_tail h0_path h0_leastOn h0_period h0_amplitude h0_basin h0_numbered h0_kept h0_changed h0_causes h0_rows h0_sorts h0_sizes h0_moved h0_outs h0_losses h0_levelOf h0_levelOften h0_isReached h0_tape h0_told h0_traced s0__isKept s0__done s0__undoable s0__redoable o4 o5 o6 o7 s0__hasCauses s0__outMany s0__overMany s0__isHalted s0__levelMany o8 o9 o10 o11 o12 s0__reached s0__isAnyOver s0__taped s0__at s0__ran s0_g o13 o14 o15 o16 o17 o18 o19 o20 o21 o22) := PD_eq hP hD (rp_eq (js := []) 12 (by decide +kernel) rfl rfl (by rfl) (by rfl) (by decide +kernel))
    refine lv_aload_n hx hb dX9_leads_34 rfl (lv_at hl 0 rfl) ?_
    refine va_get (ci := 9) (v := .ref h0_round) (C := RX9) (T := TX9) (N := 49) hx hb hts hinX9 hown hK hP 0 rfl rfl 27 (by decide) (hts _ (List.mem_of_getElem? (i := 2) rfl)) (fun _ h9 => h9) rfl dX9_leads_35 ?_
    refine lv_iload_n hx hb dX9_leads_38 rfl (lv_at hl 1 rfl) ?_
    obtain ⟨hin, hok⟩ := g_no hok
    refine x_iald (k := x1.toNatClampNeg) hx hb hK hP 4 0 rfl rfl hin rfl dX9_leads_39 ?_
    refine lv_istore (lv' := [(4, .int (o15 x1.toNatClampNeg)), (0, .ref h0), (1, .int x1), (2, .int x2), (3, .int x3)]) hx hb dX9_leads_40 hl (by decide) rfl (fun ls hl => ?_)
    refine lv_iload hx hb dX9_leads_42 (lv_at hl 0 rfl) ?_
    refine lv_iconst (v := -1) hx hb dX9_leads_44 (by decide) ?_
    refine lv_icmp_ne (tgt := 53) hx hb dX9_leads_45 (by decide) (fun c => ?_) (fun c => ?_)
    · replace hok := g_neg hok c
      refine lv_iload_n hx hb dX9_leads_53 rfl (lv_at hl 4 rfl) ?_
      refine lv_if_ne (tgt := 66) hx hb dX9_leads_54 (by decide) (fun c => ?_) (fun c => ?_)
      · replace hok := g_neg hok c
        refine lv_iload_n hx hb dX9_leads_66 rfl (lv_at hl 4 rfl) ?_
        refine lv_iconst (v := 1) hx hb dX9_leads_67 (by decide) ?_
        refine lv_icmp_ne (tgt := 81) hx hb dX9_leads_68 (by decide) (fun c => ?_) (fun c => ?_)
        · replace hok := g_neg hok c
          refine lv_aload_n hx hb dX9_leads_81 rfl (lv_at hl 1 rfl) ?_
          refine lv_iload hx hb dX9_leads_82 (lv_at hl 0 rfl) ?_
          obtain ⟨r23, hq, hok⟩ := g_bnd1 hok
          refine cG (is := [0, 11]) (wc := (wm_X9_numberOf cA h0 h0_numbered h0_g h0_kept h0_changed h0_p h0_causes h0_rows h0_sorts h0_sizes h0_moved h0_outs h0_losses h0_levelOf h0_levelOften h0_to h0_round h0_tail h0_path h0_leastOn h0_period h0_amplitude h0_basin h0_isReached h0_tape h0_told h0_traced s0__isKept s0__done s0__undoable s0__redoable o4 o5 o6 o7 s0__hasCauses s0__outMany s0__overMany s0__isHalted s0__levelMany o8 o9 o10 o11 o12 s0__reached s0__isAnyOver s0__taped s0__at s0__ran o22)) (w1 := (wm_X9_numberOf cA h0 h0_numbered h0_g h0_kept h0_changed h0_p h0_causes h0_rows h0_sorts h0_sizes h0_moved h0_outs h0_losses h0_levelOf h0_levelOften h0_to h0_round h0_tail h0_path h0_leastOn h0_period h0_amplitude h0_basin h0_isReached h0_tape h0_told h0_traced s0__isKept s0__done s0__undoable s0__redoable o4 o5 o6 o7 s0__hasCauses s0__outMany s0__overMany s0__isHalted s0__levelMany o8 o9 o10 o11 o12 s0__reached s0__isAnyOver s0__taped s0__at s0__ran o22)) (rv := (some (.int r23))) (st1 := [.int r23]) (va_runV (Ts := wsX9_leads) (As := [.int (o15 x1.toNatClampNeg)]) (rest := []) ⟨hx, hb, hml, hown, hts⟩ (c_X9_numberOf l G cA ts h0 h0_numbered h0_g h0_kept h0_changed h0_p h0_causes h0_rows h0_sorts h0_sizes h0_moved h0_outs h0_losses h0_levelOf h0_levelOften h0_to h0_round h0_tail h0_path h0_leastOn h0_period h0_amplitude h0_basin h0_isReached h0_tape h0_told h0_traced (o15 x1.toNatClampNeg) s0__isKept s0__done s0__undoable s0__redoable o4 o5 o6 o7 s0__hasCauses s0__outMany s0__overMany s0__isHalted s0__levelMany o8 o9 o10 o11 o12 s0__reached s0__isAnyOver s0__taped s0__at s0__ran o22 r23 hq H.size) (cwV 1 hts gX9_leads_X9_numberOf rfl rfl rfl (by decide +kernel) ⟨Nat.le_of_ble_eq_true rfl, Nat.le_of_ble_eq_true rfl⟩) (pre_V (ci := 9) (q0 := 0) (is := [0, 11]) rfl rfl hP hD hS hA hK hZ (by decide +kernel) (by rfl)) rfl rfl hl.1 rfl (by exact lv_room (Nat.le_of_ble_eq_true rfl)) dX9_leads_84 ⟨Nat.le_refl _, Nat.le_refl _⟩) hP hD hS hA (by decide +kernel) (by rfl) (by rfl) rfl (fun H locs hP hD hS => ?_)
          have hP : va_P G vwCl (wm_X9_findsAll cA h0 h0_g h0_p h0_to h0_round h0_tail h0_path h0_leastOn h0_period h0_amplitude h0_basin h0_numbered h0_kept h0_changed h0_causes h0_rows h0_sorts h0_sizes h0_moved h0_outs h0_losses h0_levelOf h0_levelOften h0_isReached h0_tape h0_told h0_traced s0__isKept s0__done s0__undoable s0__redoable o4 o5 o6 o7 s0__hasCauses s0__outMany s0__overMany s0__isHalted s0__levelMany o8 o9 o10 o11 o12 s0__reached s0__isAnyOver s0__taped s0__at s0__ran s0_g o13 o14 o15 o16 o17 o18 o19 o20 o21 o22) H := hP
          have hD : va_D A (wm_X9_findsAll cA h0 h0_g h0_p h0_to h0_round h0_tail h0_path h0_leastOn h0_period h0_amplitude h0_basin h0_numbered h0_kept h0_changed h0_causes h0_rows h0_sorts h0_sizes h0_moved h0_outs h0_losses h0_levelOf h0_levelOften h0_isReached h0_tape h0_told h0_traced s0__isKept s0__done s0__undoable s0__redoable o4 o5 o6 o7 s0__hasCauses s0__outMany s0__overMany s0__isHalted s0__levelMany o8 o9 o10 o11 o12 s0__reached s0__isAnyOver s0__taped s0__at s0__ran s0_g o13 o14 o15 o16 o17 o18 o19 o20 o21 o22) := hD
          obtain ⟨e, hok⟩ := g_pr hok
          try subst e
          obtain ⟨e, hok⟩ := g_pr hok
          try subst e
          obtain ⟨e, hok⟩ := g_pr hok
          try subst e
          obtain ⟨e, hok⟩ := g_pr hok
          try subst e
          obtain ⟨e, hok⟩ := g_pr hok
          try subst e
          obtain ⟨e, hok⟩ := g_pr hok
          try subst e
          obtain ⟨e, hok⟩ := g_pr hok
          try subst e
          obtain ⟨e, hok⟩ := g_pr hok
          try subst e
          obtain ⟨e, hok⟩ := g_pr hok
          try subst e
          obtain ⟨e, hok⟩ := g_pr hok
          try subst e
          obtain ⟨e, hok⟩ := g_pr hok
          try subst e
          obtain ⟨e, hok⟩ := g_pr hok
          try subst e
          obtain ⟨e, hok⟩ := g_pr hok
          try subst e
          obtain ⟨e, hok⟩ := g_pr hok
          try subst e
          obtain ⟨e, hok⟩ := g_pr hok
          try subst e
          obtain ⟨e, hok⟩ := g_pr hok
          try subst e
          obtain ⟨e, hok⟩ := g_pr hok
          try subst e
          obtain ⟨e, hok⟩ := g_pr hok
          try subst e
          obtain ⟨e, hok⟩ := g_pr hok
          try subst e
          cases hok
          exact cr_i hx hb hr hlocks hQ dX9_leads_87 hP hS
        replace hok := g_pos hok c
        refine lv_aload_n hx hb dX9_leads_71 rfl (lv_at hl 1 rfl) ?_
        refine va_get (ci := 9) (v := .ref h0_period) (C := RX9) (T := TX9) (N := 49) hx hb hts hinX9 hown hK hP 0 rfl rfl 31 (by decide) (hts _ (List.mem_of_getElem? (i := 4) rfl)) (fun _ h9 => h9) rfl dX9_leads_72 ?_
        refine lv_iload hx hb dX9_leads_75 (lv_at hl 0 rfl) ?_
        obtain ⟨hin, hok⟩ := g_no hok
        refine x_iald (k := (o15 x1.toNatClampNeg).toNatClampNeg) hx hb hK hP 8 0 rfl rfl hin rfl dX9_leads_77 ?_
        refine lv_goto (tgt := 87) hx hb dX9_leads_78 (by decide) ?_
        obtain ⟨e, hok⟩ := g_pr hok
        try subst e
        obtain ⟨e, hok⟩ := g_pr hok
        try subst e
        obtain ⟨e, hok⟩ := g_pr hok
        try subst e
        obtain ⟨e, hok⟩ := g_pr hok
        try subst e
        obtain ⟨e, hok⟩ := g_pr hok
        try subst e
        obtain ⟨e, hok⟩ := g_pr hok
        try subst e
        obtain ⟨e, hok⟩ := g_pr hok
        try subst e
        obtain ⟨e, hok⟩ := g_pr hok
        try subst e
        obtain ⟨e, hok⟩ := g_pr hok
        try subst e
        obtain ⟨e, hok⟩ := g_pr hok
        try subst e
        obtain ⟨e, hok⟩ := g_pr hok
        try subst e
        obtain ⟨e, hok⟩ := g_pr hok
        try subst e
        obtain ⟨e, hok⟩ := g_pr hok
        try subst e
        obtain ⟨e, hok⟩ := g_pr hok
        try subst e
        obtain ⟨e, hok⟩ := g_pr hok
        try subst e
        obtain ⟨e, hok⟩ := g_pr hok
        try subst e
        obtain ⟨e, hok⟩ := g_pr hok
        try subst e
        obtain ⟨e, hok⟩ := g_pr hok
        try subst e
        obtain ⟨e, hok⟩ := g_pr hok
        try subst e
        cases hok
        exact cr_i hx hb hr hlocks hQ dX9_leads_87 hP hS
      replace hok := g_pos hok c
      refine lv_aload_n hx hb dX9_leads_57 rfl (lv_at hl 1 rfl) ?_
      refine va_get (ci := 9) (v := .ref h0_tail) (C := RX9) (T := TX9) (N := 49) hx hb hts hinX9 hown hK hP 0 rfl rfl 28 (by decide) (hts _ (List.mem_of_getElem? (i := 3) rfl)) (fun _ h9 => h9) rfl dX9_leads_58 ?_
      refine lv_iload_n hx hb dX9_leads_61 rfl (lv_at hl 2 rfl) ?_
      obtain ⟨hin, hok⟩ := g_no hok
      refine x_iald (k := x1.toNatClampNeg) hx hb hK hP 5 0 rfl rfl hin rfl dX9_leads_62 ?_
      refine lv_goto (tgt := 87) hx hb dX9_leads_63 (by decide) ?_
      obtain ⟨e, hok⟩ := g_pr hok
      try subst e
      obtain ⟨e, hok⟩ := g_pr hok
      try subst e
      obtain ⟨e, hok⟩ := g_pr hok
      try subst e
      obtain ⟨e, hok⟩ := g_pr hok
      try subst e
      obtain ⟨e, hok⟩ := g_pr hok
      try subst e
      obtain ⟨e, hok⟩ := g_pr hok
      try subst e
      obtain ⟨e, hok⟩ := g_pr hok
      try subst e
      obtain ⟨e, hok⟩ := g_pr hok
      try subst e
      obtain ⟨e, hok⟩ := g_pr hok
      try subst e
      obtain ⟨e, hok⟩ := g_pr hok
      try subst e
      obtain ⟨e, hok⟩ := g_pr hok
      try subst e
      obtain ⟨e, hok⟩ := g_pr hok
      try subst e
      obtain ⟨e, hok⟩ := g_pr hok
      try subst e
      obtain ⟨e, hok⟩ := g_pr hok
      try subst e
      obtain ⟨e, hok⟩ := g_pr hok
      try subst e
      obtain ⟨e, hok⟩ := g_pr hok
      try subst e
      obtain ⟨e, hok⟩ := g_pr hok
      try subst e
      obtain ⟨e, hok⟩ := g_pr hok
      try subst e
      obtain ⟨e, hok⟩ := g_pr hok
      try subst e
      cases hok
      exact cr_i hx hb hr hlocks hQ dX9_leads_87 hP hS
    replace hok := g_pos hok c
    refine lv_bipush (v := -5) hx hb dX9_leads_48 (by decide) ?_
    refine lv_goto (tgt := 87) hx hb dX9_leads_50 (by decide) ?_
    obtain ⟨e, hok⟩ := g_pr hok
    try subst e
    obtain ⟨e, hok⟩ := g_pr hok
    try subst e
    obtain ⟨e, hok⟩ := g_pr hok
    try subst e
    obtain ⟨e, hok⟩ := g_pr hok
    try subst e
    obtain ⟨e, hok⟩ := g_pr hok
    try subst e
    obtain ⟨e, hok⟩ := g_pr hok
    try subst e
    obtain ⟨e, hok⟩ := g_pr hok
    try subst e
    obtain ⟨e, hok⟩ := g_pr hok
    try subst e
    obtain ⟨e, hok⟩ := g_pr hok
    try subst e
    obtain ⟨e, hok⟩ := g_pr hok
    try subst e
    obtain ⟨e, hok⟩ := g_pr hok
    try subst e
    obtain ⟨e, hok⟩ := g_pr hok
    try subst e
    obtain ⟨e, hok⟩ := g_pr hok
    try subst e
    obtain ⟨e, hok⟩ := g_pr hok
    try subst e
    obtain ⟨e, hok⟩ := g_pr hok
    try subst e
    obtain ⟨e, hok⟩ := g_pr hok
    try subst e
    obtain ⟨e, hok⟩ := g_pr hok
    try subst e
    obtain ⟨e, hok⟩ := g_pr hok
    try subst e
    obtain ⟨e, hok⟩ := g_pr hok
    try subst e
    cases hok
    exact cr_i hx hb hr hlocks hQ dX9_leads_87 hP hS
  replace hok := g_pos hok c
  refine lv_iconst (v := -1) hx hb dX9_leads_27 (by decide) ?_
  obtain ⟨e, hok⟩ := g_pr hok
  try subst e
  obtain ⟨e, hok⟩ := g_pr hok
  try subst e
  obtain ⟨e, hok⟩ := g_pr hok
  try subst e
  obtain ⟨e, hok⟩ := g_pr hok
  try subst e
  obtain ⟨e, hok⟩ := g_pr hok
  try subst e
  obtain ⟨e, hok⟩ := g_pr hok
  try subst e
  obtain ⟨e, hok⟩ := g_pr hok
  try subst e
  obtain ⟨e, hok⟩ := g_pr hok
  try subst e
  obtain ⟨e, hok⟩ := g_pr hok
  try subst e
  obtain ⟨e, hok⟩ := g_pr hok
  try subst e
  obtain ⟨e, hok⟩ := g_pr hok
  try subst e
  obtain ⟨e, hok⟩ := g_pr hok
  try subst e
  obtain ⟨e, hok⟩ := g_pr hok
  try subst e
  obtain ⟨e, hok⟩ := g_pr hok
  try subst e
  obtain ⟨e, hok⟩ := g_pr hok
  try subst e
  obtain ⟨e, hok⟩ := g_pr hok
  try subst e
  obtain ⟨e, hok⟩ := g_pr hok
  try subst e
  obtain ⟨e, hok⟩ := g_pr hok
  try subst e
  obtain ⟨e, hok⟩ := g_pr hok
  try subst e
  cases hok
  exact cr_i hx hb hr hlocks hQ dX9_leads_28 hP hS
set_option maxHeartbeats 40000000 in
set_option maxRecDepth 100000 in
theorem c_X9_cycles (l : Launch) (G : va_G) (cA : Nat → ClassId) (ts : Nat → Nat) (h0 : Nat) (h0_g : Nat) (h0_p : Nat) (h0_to : Nat) (h0_round : Nat) (h0_tail : Nat) (h0_path : Nat) (h0_leastOn : Nat) (h0_period : Nat) (h0_amplitude : Nat) (h0_basin : Nat) (h0_numbered : Nat) (h0_kept : Nat) (h0_changed : Nat) (h0_causes : Nat) (h0_rows : Nat) (h0_sorts : Nat) (h0_sizes : Nat) (h0_moved : Nat) (h0_outs : Nat) (h0_losses : Nat) (h0_levelOf : Nat) (h0_levelOften : Nat) (h0_isReached : Nat) (h0_tape : Nat) (h0_told : Nat) (h0_traced : Nat) (x1 : Int32) (x2 : Int32) (s0__isKept : Int32) (s0__done : Int32) (s0__undoable : Int32) (s0__redoable : Int32) (s0__all : Int32) (s0__v : Int32) (s0__loss : Int32) (s0__isOver : Int32) (s0__hasCauses : Int32) (s0__outMany : Int32) (s0__overMany : Int32) (s0__isHalted : Int32) (s0__levelMany : Int32) (s0__rounds : Int32) (s0__stuck : Int32) (s0__onRounds : Int32) (s0__longest : Int32) (s0__loudest : Int32) (s0__reached : Int32) (s0__isAnyOver : Int32) (s0__taped : Int32) (s0__at : Int32) (s0__ran : Int32) (s0_g : Nat → Int32) (s0_p : Nat → Int32) (s0_to : Nat → Int32) (s0_round : Nat → Int32) (s0_tail : Nat → Int32) (s0_path : Nat → Int32) (s0_leastOn : Nat → Int32) (s0_period : Nat → Int32) (s0_amplitude : Nat → Int32) (s0_basin : Nat → Int32) (s0_numbered : Nat → Int32) (r : Int32) (o0__all : Int32) (o0__v : Int32) (o0__loss : Int32) (o0__isOver : Int32) (o0__rounds : Int32) (o0__stuck : Int32) (o0__onRounds : Int32) (o0__longest : Int32) (o0__loudest : Int32) (o0_p : Nat → Int32) (o0_to : Nat → Int32) (o0_round : Nat → Int32) (o0_tail : Nat → Int32) (o0_path : Nat → Int32) (o0_leastOn : Nat → Int32) (o0_period : Nat → Int32) (o0_amplitude : Nat → Int32) (o0_basin : Nat → Int32) (o0_numbered : Nat → Int32) (hok : fX9_cycles x1 x2 s0__all s0__v s0__loss s0__isOver s0__rounds s0__stuck s0__onRounds s0__longest s0__loudest s0_g s0_p s0_to s0_round s0_tail s0_path s0_leastOn s0_period s0_amplitude s0_basin s0_numbered = some (r, o0__all, o0__v, o0__loss, o0__isOver, o0__rounds, o0__stuck, o0__onRounds, o0__longest, o0__loudest, o0_p, o0_to, o0_round, o0_tail, o0_path, o0_leastOn, o0_period, o0_amplitude, o0_basin, o0_numbered)) : Ct l G cA ts yX9_cycles wsX9_cycles 7 177 [.ref h0, .int x1, .int x2] (wm_X9_findsAll cA h0 h0_g h0_p h0_to h0_round h0_tail h0_path h0_leastOn h0_period h0_amplitude h0_basin h0_numbered h0_kept h0_changed h0_causes h0_rows h0_sorts h0_sizes h0_moved h0_outs h0_losses h0_levelOf h0_levelOften h0_isReached h0_tape h0_told h0_traced s0__isKept s0__done s0__undoable s0__redoable s0__all s0__v s0__loss s0__isOver s0__hasCauses s0__outMany s0__overMany s0__isHalted s0__levelMany s0__rounds s0__stuck s0__onRounds s0__longest s0__loudest s0__reached s0__isAnyOver s0__taped s0__at s0__ran s0_g s0_p s0_to s0_round s0_tail s0_path s0_leastOn s0_period s0_amplitude s0_basin s0_numbered) (wm_X9_findsAll cA h0 h0_g h0_p h0_to h0_round h0_tail h0_path h0_leastOn h0_period h0_amplitude h0_basin h0_numbered h0_kept h0_changed h0_causes h0_rows h0_sorts h0_sizes h0_moved h0_outs h0_losses h0_levelOf h0_levelOften h0_isReached h0_tape h0_told h0_traced s0__isKept s0__done s0__undoable s0__redoable o0__all o0__v o0__loss o0__isOver s0__hasCauses s0__outMany s0__overMany s0__isHalted s0__levelMany o0__rounds o0__stuck o0__onRounds o0__longest o0__loudest s0__reached s0__isAnyOver s0__taped s0__at s0__ran s0_g o0_p o0_to o0_round o0_tail o0_path o0_leastOn o0_period o0_amplitude o0_basin o0_numbered) (some (.int r)) := by
  refine Ct.intro (cc := cX9_cycles) (maxL := 3) (ret := some .int) (by decide +kernel) rfl (Nat.le_of_ble_eq_true rfl) ?_
  intro p e s m ar below meth c A Q hx hb hr hml hown hlocks hts hK hZ hA hQ hP hD hS ls hl
  have hown : s.vm.findClass RX9 = some m.cls := hown
  have hinX9 : ∀ w ∈ wsX90, w ∈ wsX9_cycles := fun _ h => List.mem_cons_of_mem _ (List.mem_append_right _ (h))
  have hl : lv_has ls 3 [(0, .ref h0), (1, .int x1), (2, .int x2)] := hl
  have hP : va_P G vwCl (wm_X9_findsAll cA h0 h0_g h0_p h0_to h0_round h0_tail h0_path h0_leastOn h0_period h0_amplitude h0_basin h0_numbered h0_kept h0_changed h0_causes h0_rows h0_sorts h0_sizes h0_moved h0_outs h0_losses h0_levelOf h0_levelOften h0_isReached h0_tape h0_told h0_traced s0__isKept s0__done s0__undoable s0__redoable s0__all s0__v s0__loss s0__isOver s0__hasCauses s0__outMany s0__overMany s0__isHalted s0__levelMany s0__rounds s0__stuck s0__onRounds s0__longest s0__loudest s0__reached s0__isAnyOver s0__taped s0__at s0__ran s0_g s0_p s0_to s0_round s0_tail s0_path s0_leastOn s0_period s0_amplitude s0_basin s0_numbered) s.heap := hP
  have hD : va_D A (wm_X9_findsAll cA h0 h0_g h0_p h0_to h0_round h0_tail h0_path h0_leastOn h0_period h0_amplitude h0_basin h0_numbered h0_kept h0_changed h0_causes h0_rows h0_sorts h0_sizes h0_moved h0_outs h0_losses h0_levelOf h0_levelOften h0_isReached h0_tape h0_told h0_traced s0__isKept s0__done s0__undoable s0__redoable s0__all s0__v s0__loss s0__isOver s0__hasCauses s0__outMany s0__overMany s0__isHalted s0__levelMany s0__rounds s0__stuck s0__onRounds s0__longest s0__loudest s0__reached s0__isAnyOver s0__taped s0__at s0__ran s0_g s0_p s0_to s0_round s0_tail s0_path s0_leastOn s0_period s0_amplitude s0_basin s0_numbered) := hD
  unfold fX9_cycles at hok
  refine lv_iload_n hx hb dX9_cycles_0 rfl (lv_at hl 1 rfl) ?_
  obtain ⟨r1, hq, hok⟩ := g_bnd1 hok
  refine cG (is := []) (wc := (wm_X0_find cA)) (w1 := (wm_X0_find cA)) (rv := (some (.int r1))) (st1 := [.int r1]) (va_runS (Ts := wsX9_cycles) (As := [.int x1]) (rest := []) ⟨hx, hb, hml, hown, hts⟩ (c_X9_isInput l G cA ts x1 r1 hq s.heap.size) (va_cwS 1 hts gX9_cycles_X9_isInput rfl rfl rfl (by decide +kernel) ⟨Nat.le_of_ble_eq_true rfl, Nat.le_of_ble_eq_true rfl⟩) (pre_S (is := []) hP hD hS hA hK hZ (by decide +kernel) (by rfl)) rfl rfl hl.1 rfl (by exact lv_room (Nat.le_of_ble_eq_true rfl)) dX9_cycles_1 ⟨Nat.le_refl _, Nat.le_refl _⟩) hP hD hS hA (by decide +kernel) (by rfl) (by rfl) rfl (fun H locs hP hD hS => ?_)
  have hP : va_P G vwCl (wm_X9_findsAll cA h0 h0_g h0_p h0_to h0_round h0_tail h0_path h0_leastOn h0_period h0_amplitude h0_basin h0_numbered h0_kept h0_changed h0_causes h0_rows h0_sorts h0_sizes h0_moved h0_outs h0_losses h0_levelOf h0_levelOften h0_isReached h0_tape h0_told h0_traced s0__isKept s0__done s0__undoable s0__redoable s0__all s0__v s0__loss s0__isOver s0__hasCauses s0__outMany s0__overMany s0__isHalted s0__levelMany s0__rounds s0__stuck s0__onRounds s0__longest s0__loudest s0__reached s0__isAnyOver s0__taped s0__at s0__ran s0_g s0_p s0_to s0_round s0_tail s0_path s0_leastOn s0_period s0_amplitude s0_basin s0_numbered) H := hP
  have hD : va_D A (wm_X9_findsAll cA h0 h0_g h0_p h0_to h0_round h0_tail h0_path h0_leastOn h0_period h0_amplitude h0_basin h0_numbered h0_kept h0_changed h0_causes h0_rows h0_sorts h0_sizes h0_moved h0_outs h0_losses h0_levelOf h0_levelOften h0_isReached h0_tape h0_told h0_traced s0__isKept s0__done s0__undoable s0__redoable s0__all s0__v s0__loss s0__isOver s0__hasCauses s0__outMany s0__overMany s0__isHalted s0__levelMany s0__rounds s0__stuck s0__onRounds s0__longest s0__loudest s0__reached s0__isAnyOver s0__taped s0__at s0__ran s0_g s0_p s0_to s0_round s0_tail s0_path s0_leastOn s0_period s0_amplitude s0_basin s0_numbered) := hD
  refine lv_if_eq (tgt := 19) hx hb dX9_cycles_4 (by decide) (fun c => ?_) (fun c => ?_)
  · replace hok := g_pos hok c
    refine lv_iconst (v := -1) hx hb dX9_cycles_19 (by decide) ?_
    obtain ⟨e, hok⟩ := g_pr hok
    try subst e
    obtain ⟨e, hok⟩ := g_pr hok
    try subst e
    obtain ⟨e, hok⟩ := g_pr hok
    try subst e
    obtain ⟨e, hok⟩ := g_pr hok
    try subst e
    obtain ⟨e, hok⟩ := g_pr hok
    try subst e
    obtain ⟨e, hok⟩ := g_pr hok
    try subst e
    obtain ⟨e, hok⟩ := g_pr hok
    try subst e
    obtain ⟨e, hok⟩ := g_pr hok
    try subst e
    obtain ⟨e, hok⟩ := g_pr hok
    try subst e
    obtain ⟨e, hok⟩ := g_pr hok
    try subst e
    obtain ⟨e, hok⟩ := g_pr hok
    try subst e
    obtain ⟨e, hok⟩ := g_pr hok
    try subst e
    obtain ⟨e, hok⟩ := g_pr hok
    try subst e
    obtain ⟨e, hok⟩ := g_pr hok
    try subst e
    obtain ⟨e, hok⟩ := g_pr hok
    try subst e
    obtain ⟨e, hok⟩ := g_pr hok
    try subst e
    obtain ⟨e, hok⟩ := g_pr hok
    try subst e
    obtain ⟨e, hok⟩ := g_pr hok
    try subst e
    obtain ⟨e, hok⟩ := g_pr hok
    try subst e
    cases hok
    exact cr_i hx hb hr hlocks hQ dX9_cycles_20 hP hS
  replace hok := g_neg hok c
  refine lv_iload_n hx hb dX9_cycles_7 rfl (lv_at hl 2 rfl) ?_
  refine lv_i2l (v := (x2.toInt64)) hx hb dX9_cycles_8 rfl ?_
  refine lv_lconst (v := 0) hx hb dX9_cycles_9 (by decide) ?_
  refine lv_ldc2 (v := 4) hx hb hown (hts _ (List.mem_of_getElem? (i := 1) rfl)) dX9_cycles_10 ?_
  obtain ⟨r2, hq, hok⟩ := g_bnd1 hok
  refine cG (is := []) (wc := (wm_X0_find cA)) (w1 := (wm_X0_find cA)) (rv := (some (.int r2))) (st1 := [.int r2]) (va_runS (Ts := wsX9_cycles) (As := [.long (x2.toInt64), .long (0:Int64), .long (4:Int64)]) (rest := []) ⟨hx, hb, hml, hown, hts⟩ (c_X9_in l G cA ts (x2.toInt64) (0:Int64) (4:Int64) r2 hq H.size) (va_cwS 3 hts gX9_cycles_X9_in rfl rfl rfl (by decide +kernel) ⟨Nat.le_of_ble_eq_true rfl, Nat.le_of_ble_eq_true rfl⟩) (pre_S (is := []) hP hD hS hA hK hZ (by decide +kernel) (by rfl)) rfl rfl hl.1 rfl (by exact lv_room (Nat.le_of_ble_eq_true rfl)) dX9_cycles_13 ⟨Nat.le_refl _, Nat.le_refl _⟩) hP hD hS hA (by decide +kernel) (by rfl) (by rfl) rfl (fun H locs hP hD hS => ?_)
  have hP : va_P G vwCl (wm_X9_findsAll cA h0 h0_g h0_p h0_to h0_round h0_tail h0_path h0_leastOn h0_period h0_amplitude h0_basin h0_numbered h0_kept h0_changed h0_causes h0_rows h0_sorts h0_sizes h0_moved h0_outs h0_losses h0_levelOf h0_levelOften h0_isReached h0_tape h0_told h0_traced s0__isKept s0__done s0__undoable s0__redoable s0__all s0__v s0__loss s0__isOver s0__hasCauses s0__outMany s0__overMany s0__isHalted s0__levelMany s0__rounds s0__stuck s0__onRounds s0__longest s0__loudest s0__reached s0__isAnyOver s0__taped s0__at s0__ran s0_g s0_p s0_to s0_round s0_tail s0_path s0_leastOn s0_period s0_amplitude s0_basin s0_numbered) H := hP
  have hD : va_D A (wm_X9_findsAll cA h0 h0_g h0_p h0_to h0_round h0_tail h0_path h0_leastOn h0_period h0_amplitude h0_basin h0_numbered h0_kept h0_changed h0_causes h0_rows h0_sorts h0_sizes h0_moved h0_outs h0_losses h0_levelOf h0_levelOften h0_isReached h0_tape h0_told h0_traced s0__isKept s0__done s0__undoable s0__redoable s0__all s0__v s0__loss s0__isOver s0__hasCauses s0__outMany s0__overMany s0__isHalted s0__levelMany s0__rounds s0__stuck s0__onRounds s0__longest s0__loudest s0__reached s0__isAnyOver s0__taped s0__at s0__ran s0_g s0_p s0_to s0_round s0_tail s0_path s0_leastOn s0_period s0_amplitude s0_basin s0_numbered) := hD
  refine lv_if_ne (tgt := 21) hx hb dX9_cycles_16 (by decide) (fun c => ?_) (fun c => ?_)
  · replace hok := g_neg hok c
    refine lv_aload_n hx hb dX9_cycles_21 rfl (lv_at hl 0 rfl) ?_
    refine lv_iload_n hx hb dX9_cycles_22 rfl (lv_at hl 1 rfl) ?_
    obtain ⟨o3, o4, o5, o6, o7, o8, o9, o10, o11, o12, o13, o14, o15, o16, o17, o18, o19, o20, o21, hq, hok⟩ := g_bnd19 hok
    refine cG (is := [0, 1, 2, 3, 4, 5, 6, 7, 8, 9, 10, 11]) (wc := (wm_X9_findsAll cA h0 h0_g h0_p h0_to h0_round h0_tail h0_path h0_leastOn h0_period h0_amplitude h0_basin h0_numbered h0_kept h0_changed h0_causes h0_rows h0_sorts h0_sizes h0_moved h0_outs h0_losses h0_levelOf h0_levelOften h0_isReached h0_tape h0_told h0_traced s0__isKept s0__done s0__undoable s0__redoable s0__all s0__v s0__loss s0__isOver s0__hasCauses s0__outMany s0__overMany s0__isHalted s0__levelMany s0__rounds s0__stuck s0__onRounds s0__longest s0__loudest s0__reached s0__isAnyOver s0__taped s0__at s0__ran s0_g s0_p s0_to s0_round s0_tail s0_path s0_leastOn s0_period s0_amplitude s0_basin s0_numbered)) (w1 := (wm_X9_findsAll cA h0 h0_g h0_p h0_to h0_round h0_tail h0_path h0_leastOn h0_period h0_amplitude h0_basin h0_numbered h0_kept h0_changed h0_causes h0_rows h0_sorts h0_sizes h0_moved h0_outs h0_losses h0_levelOf h0_levelOften h0_isReached h0_tape h0_told h0_traced s0__isKept s0__done s0__undoable s0__redoable o3 o4 o5 o6 s0__hasCauses s0__outMany s0__overMany s0__isHalted s0__levelMany o7 o8 o9 o10 o11 s0__reached s0__isAnyOver s0__taped s0__at s0__ran s0_g o12 o13 o14 o15 o16 o17 o18 o19 o20 o21)) (rv := none) (st1 := []) (va_runV (Ts := wsX9_cycles) (As := [.int x1]) (rest := []) ⟨hx, hb, hml, hown, hts⟩ (c_X9_findsAll l G cA ts h0 h0_g h0_p h0_to h0_round h0_tail h0_path h0_leastOn h0_period h0_amplitude h0_basin h0_numbered h0_kept h0_changed h0_causes h0_rows h0_sorts h0_sizes h0_moved h0_outs h0_losses h0_levelOf h0_levelOften h0_isReached h0_tape h0_told h0_traced x1 s0__isKept s0__done s0__undoable s0__redoable s0__all s0__v s0__loss s0__isOver s0__hasCauses s0__outMany s0__overMany s0__isHalted s0__levelMany s0__rounds s0__stuck s0__onRounds s0__longest s0__loudest s0__reached s0__isAnyOver s0__taped s0__at s0__ran s0_g s0_p s0_to s0_round s0_tail s0_path s0_leastOn s0_period s0_amplitude s0_basin s0_numbered o3 o4 o5 o6 o7 o8 o9 o10 o11 o12 o13 o14 o15 o16 o17 o18 o19 o20 o21 hq H.size) (cwV 1 hts gX9_cycles_X9_findsAll rfl rfl rfl (by decide +kernel) ⟨Nat.le_of_ble_eq_true rfl, Nat.le_of_ble_eq_true rfl⟩) (pre_V (ci := 9) (q0 := 0) (is := [0, 1, 2, 3, 4, 5, 6, 7, 8, 9, 10, 11]) rfl rfl hP hD hS hA hK hZ (by decide +kernel) (by rfl)) rfl rfl hl.1 rfl (by exact lv_room (Nat.le_of_ble_eq_true rfl)) dX9_cycles_23 ⟨Nat.le_refl _, Nat.le_refl _⟩) hP hD hS hA (by decide +kernel) (by rfl) (by rfl) rfl (fun H locs hP hD hS => ?_)
    obtain ⟨hP, hD⟩ : va_P G vwCl (wm_X9_findsAll cA h0 h0_g h0_p h0_to h0_round h0_tail h0_path h0_leastOn h0_period h0_amplitude h0_basin h0_numbered h0_kept h0_changed h0_causes h0_rows h0_sorts h0_sizes h0_moved h0_outs h0_losses h0_levelOf h0_levelOften h0_isReached h0_tape h0_told h0_traced s0__isKept s0__done s0__undoable s0__redoable o3 o4 o5 o6 s0__hasCauses s0__outMany s0__overMany s0__isHalted s0__levelMany o7 o8 o9 o10 o11 s0__reached s0__isAnyOver s0__taped s0__at s0__ran s0_g o12 o13 o14 o15 o16 o17 o18 o19 o20 o21) H ∧ va_D A (wm_X9_findsAll cA h0 h0_g h0_p h0_to h0_round h0_tail h0_path h0_leastOn h0_period h0_amplitude h0_basin h0_numbered h0_kept h0_changed h0_causes h0_rows h0_sorts h0_sizes h0_moved h0_outs h0_losses h0_levelOf h0_levelOften h0_isReached h0_tape h0_told h0_traced s0__isKept s0__done s0__undoable s0__redoable o3 o4 o5 o6 s0__hasCauses s0__outMany s0__overMany s0__isHalted s0__levelMany o7 o8 o9 o10 o11 s0__reached s0__isAnyOver s0__taped s0__at s0__ran s0_g o12 o13 o14 o15 o16 o17 o18 o19 o20 o21) := PD_eq hP hD (rp_eq (js := []) 12 (by decide +kernel) rfl rfl (by rfl) (by rfl) (by decide +kernel))
    refine lv_iload_n hx hb dX9_cycles_26 rfl (lv_at hl 2 rfl) ?_
    by_cases c0 : x2 = 0
    · replace hok := g_pos hok c0
      have e9 : (x2).toInt = 0 := by rw [c0]; rfl
      refine lv_tableIn (tgt := 56) (off := 29) hx hb dX9_cycles_27 (by rw [e9]; decide) (by rw [e9]; decide) (by rw [e9]; rfl) (by decide) ?_
      refine lv_aload_n hx hb dX9_cycles_56 rfl (lv_at hl 0 rfl) ?_
      refine va_get (ci := 9) (v := .int o7) (C := RX9) (T := TX9) (N := 49) hx hb hts hinX9 hown hK hP 0 rfl rfl 35 (by decide) (hts _ (List.mem_of_getElem? (i := 2) rfl)) (fun _ h9 => h9) rfl dX9_cycles_57 ?_
      obtain ⟨e, hok⟩ := g_pr hok
      try subst e
      obtain ⟨e, hok⟩ := g_pr hok
      try subst e
      obtain ⟨e, hok⟩ := g_pr hok
      try subst e
      obtain ⟨e, hok⟩ := g_pr hok
      try subst e
      obtain ⟨e, hok⟩ := g_pr hok
      try subst e
      obtain ⟨e, hok⟩ := g_pr hok
      try subst e
      obtain ⟨e, hok⟩ := g_pr hok
      try subst e
      obtain ⟨e, hok⟩ := g_pr hok
      try subst e
      obtain ⟨e, hok⟩ := g_pr hok
      try subst e
      obtain ⟨e, hok⟩ := g_pr hok
      try subst e
      obtain ⟨e, hok⟩ := g_pr hok
      try subst e
      obtain ⟨e, hok⟩ := g_pr hok
      try subst e
      obtain ⟨e, hok⟩ := g_pr hok
      try subst e
      obtain ⟨e, hok⟩ := g_pr hok
      try subst e
      obtain ⟨e, hok⟩ := g_pr hok
      try subst e
      obtain ⟨e, hok⟩ := g_pr hok
      try subst e
      obtain ⟨e, hok⟩ := g_pr hok
      try subst e
      obtain ⟨e, hok⟩ := g_pr hok
      try subst e
      obtain ⟨e, hok⟩ := g_pr hok
      try subst e
      cases hok
      exact cr_i hx hb hr hlocks hQ dX9_cycles_60 hP hS
    replace hok := g_neg hok c0
    by_cases c1 : x2 = 1
    · replace hok := g_pos hok c1
      have e9 : (x2).toInt = 1 := by rw [c1]; rfl
      refine lv_tableIn (tgt := 61) (off := 34) hx hb dX9_cycles_27 (by rw [e9]; decide) (by rw [e9]; decide) (by rw [e9]; rfl) (by decide) ?_
      refine lv_aload_n hx hb dX9_cycles_61 rfl (lv_at hl 0 rfl) ?_
      refine va_get (ci := 9) (v := .int o8) (C := RX9) (T := TX9) (N := 49) hx hb hts hinX9 hown hK hP 0 rfl rfl 36 (by decide) (hts _ (List.mem_of_getElem? (i := 3) rfl)) (fun _ h9 => h9) rfl dX9_cycles_62 ?_
      obtain ⟨e, hok⟩ := g_pr hok
      try subst e
      obtain ⟨e, hok⟩ := g_pr hok
      try subst e
      obtain ⟨e, hok⟩ := g_pr hok
      try subst e
      obtain ⟨e, hok⟩ := g_pr hok
      try subst e
      obtain ⟨e, hok⟩ := g_pr hok
      try subst e
      obtain ⟨e, hok⟩ := g_pr hok
      try subst e
      obtain ⟨e, hok⟩ := g_pr hok
      try subst e
      obtain ⟨e, hok⟩ := g_pr hok
      try subst e
      obtain ⟨e, hok⟩ := g_pr hok
      try subst e
      obtain ⟨e, hok⟩ := g_pr hok
      try subst e
      obtain ⟨e, hok⟩ := g_pr hok
      try subst e
      obtain ⟨e, hok⟩ := g_pr hok
      try subst e
      obtain ⟨e, hok⟩ := g_pr hok
      try subst e
      obtain ⟨e, hok⟩ := g_pr hok
      try subst e
      obtain ⟨e, hok⟩ := g_pr hok
      try subst e
      obtain ⟨e, hok⟩ := g_pr hok
      try subst e
      obtain ⟨e, hok⟩ := g_pr hok
      try subst e
      obtain ⟨e, hok⟩ := g_pr hok
      try subst e
      obtain ⟨e, hok⟩ := g_pr hok
      try subst e
      cases hok
      exact cr_i hx hb hr hlocks hQ dX9_cycles_65 hP hS
    replace hok := g_neg hok c1
    by_cases c2 : x2 = 2
    · replace hok := g_pos hok c2
      have e9 : (x2).toInt = 2 := by rw [c2]; rfl
      refine lv_tableIn (tgt := 66) (off := 39) hx hb dX9_cycles_27 (by rw [e9]; decide) (by rw [e9]; decide) (by rw [e9]; rfl) (by decide) ?_
      refine lv_aload_n hx hb dX9_cycles_66 rfl (lv_at hl 0 rfl) ?_
      refine va_get (ci := 9) (v := .int o10) (C := RX9) (T := TX9) (N := 49) hx hb hts hinX9 hown hK hP 0 rfl rfl 38 (by decide) (hts _ (List.mem_of_getElem? (i := 4) rfl)) (fun _ h9 => h9) rfl dX9_cycles_67 ?_
      obtain ⟨e, hok⟩ := g_pr hok
      try subst e
      obtain ⟨e, hok⟩ := g_pr hok
      try subst e
      obtain ⟨e, hok⟩ := g_pr hok
      try subst e
      obtain ⟨e, hok⟩ := g_pr hok
      try subst e
      obtain ⟨e, hok⟩ := g_pr hok
      try subst e
      obtain ⟨e, hok⟩ := g_pr hok
      try subst e
      obtain ⟨e, hok⟩ := g_pr hok
      try subst e
      obtain ⟨e, hok⟩ := g_pr hok
      try subst e
      obtain ⟨e, hok⟩ := g_pr hok
      try subst e
      obtain ⟨e, hok⟩ := g_pr hok
      try subst e
      obtain ⟨e, hok⟩ := g_pr hok
      try subst e
      obtain ⟨e, hok⟩ := g_pr hok
      try subst e
      obtain ⟨e, hok⟩ := g_pr hok
      try subst e
      obtain ⟨e, hok⟩ := g_pr hok
      try subst e
      obtain ⟨e, hok⟩ := g_pr hok
      try subst e
      obtain ⟨e, hok⟩ := g_pr hok
      try subst e
      obtain ⟨e, hok⟩ := g_pr hok
      try subst e
      obtain ⟨e, hok⟩ := g_pr hok
      try subst e
      obtain ⟨e, hok⟩ := g_pr hok
      try subst e
      cases hok
      exact cr_i hx hb hr hlocks hQ dX9_cycles_70 hP hS
    replace hok := g_neg hok c2
    by_cases c3 : x2 = 3
    · replace hok := g_pos hok c3
      have e9 : (x2).toInt = 3 := by rw [c3]; rfl
      refine lv_tableIn (tgt := 71) (off := 44) hx hb dX9_cycles_27 (by rw [e9]; decide) (by rw [e9]; decide) (by rw [e9]; rfl) (by decide) ?_
      refine lv_aload_n hx hb dX9_cycles_71 rfl (lv_at hl 0 rfl) ?_
      refine va_get (ci := 9) (v := .int o11) (C := RX9) (T := TX9) (N := 49) hx hb hts hinX9 hown hK hP 0 rfl rfl 39 (by decide) (hts _ (List.mem_of_getElem? (i := 5) rfl)) (fun _ h9 => h9) rfl dX9_cycles_72 ?_
      obtain ⟨e, hok⟩ := g_pr hok
      try subst e
      obtain ⟨e, hok⟩ := g_pr hok
      try subst e
      obtain ⟨e, hok⟩ := g_pr hok
      try subst e
      obtain ⟨e, hok⟩ := g_pr hok
      try subst e
      obtain ⟨e, hok⟩ := g_pr hok
      try subst e
      obtain ⟨e, hok⟩ := g_pr hok
      try subst e
      obtain ⟨e, hok⟩ := g_pr hok
      try subst e
      obtain ⟨e, hok⟩ := g_pr hok
      try subst e
      obtain ⟨e, hok⟩ := g_pr hok
      try subst e
      obtain ⟨e, hok⟩ := g_pr hok
      try subst e
      obtain ⟨e, hok⟩ := g_pr hok
      try subst e
      obtain ⟨e, hok⟩ := g_pr hok
      try subst e
      obtain ⟨e, hok⟩ := g_pr hok
      try subst e
      obtain ⟨e, hok⟩ := g_pr hok
      try subst e
      obtain ⟨e, hok⟩ := g_pr hok
      try subst e
      obtain ⟨e, hok⟩ := g_pr hok
      try subst e
      obtain ⟨e, hok⟩ := g_pr hok
      try subst e
      obtain ⟨e, hok⟩ := g_pr hok
      try subst e
      obtain ⟨e, hok⟩ := g_pr hok
      try subst e
      cases hok
      exact cr_i hx hb hr hlocks hQ dX9_cycles_75 hP hS
    replace hok := g_neg hok c3
    refine lv_tableOut (tgt := 76) hx hb dX9_cycles_27 (by have b0 := lv_neT (a := 0) c0 rfl; have b1 := lv_neT (a := 1) c1 rfl; have b2 := lv_neT (a := 2) c2 rfl; have b3 := lv_neT (a := 3) c3 rfl; omega) (by decide) ?_
    refine lv_aload_n hx hb dX9_cycles_76 rfl (lv_at hl 0 rfl) ?_
    refine va_get (ci := 9) (v := .int o9) (C := RX9) (T := TX9) (N := 49) hx hb hts hinX9 hown hK hP 0 rfl rfl 37 (by decide) (hts _ (List.mem_of_getElem? (i := 6) rfl)) (fun _ h9 => h9) rfl dX9_cycles_77 ?_
    obtain ⟨e, hok⟩ := g_pr hok
    try subst e
    obtain ⟨e, hok⟩ := g_pr hok
    try subst e
    obtain ⟨e, hok⟩ := g_pr hok
    try subst e
    obtain ⟨e, hok⟩ := g_pr hok
    try subst e
    obtain ⟨e, hok⟩ := g_pr hok
    try subst e
    obtain ⟨e, hok⟩ := g_pr hok
    try subst e
    obtain ⟨e, hok⟩ := g_pr hok
    try subst e
    obtain ⟨e, hok⟩ := g_pr hok
    try subst e
    obtain ⟨e, hok⟩ := g_pr hok
    try subst e
    obtain ⟨e, hok⟩ := g_pr hok
    try subst e
    obtain ⟨e, hok⟩ := g_pr hok
    try subst e
    obtain ⟨e, hok⟩ := g_pr hok
    try subst e
    obtain ⟨e, hok⟩ := g_pr hok
    try subst e
    obtain ⟨e, hok⟩ := g_pr hok
    try subst e
    obtain ⟨e, hok⟩ := g_pr hok
    try subst e
    obtain ⟨e, hok⟩ := g_pr hok
    try subst e
    obtain ⟨e, hok⟩ := g_pr hok
    try subst e
    obtain ⟨e, hok⟩ := g_pr hok
    try subst e
    obtain ⟨e, hok⟩ := g_pr hok
    try subst e
    cases hok
    exact cr_i hx hb hr hlocks hQ dX9_cycles_80 hP hS
  replace hok := g_pos hok c
  refine lv_iconst (v := -1) hx hb dX9_cycles_19 (by decide) ?_
  obtain ⟨e, hok⟩ := g_pr hok
  try subst e
  obtain ⟨e, hok⟩ := g_pr hok
  try subst e
  obtain ⟨e, hok⟩ := g_pr hok
  try subst e
  obtain ⟨e, hok⟩ := g_pr hok
  try subst e
  obtain ⟨e, hok⟩ := g_pr hok
  try subst e
  obtain ⟨e, hok⟩ := g_pr hok
  try subst e
  obtain ⟨e, hok⟩ := g_pr hok
  try subst e
  obtain ⟨e, hok⟩ := g_pr hok
  try subst e
  obtain ⟨e, hok⟩ := g_pr hok
  try subst e
  obtain ⟨e, hok⟩ := g_pr hok
  try subst e
  obtain ⟨e, hok⟩ := g_pr hok
  try subst e
  obtain ⟨e, hok⟩ := g_pr hok
  try subst e
  obtain ⟨e, hok⟩ := g_pr hok
  try subst e
  obtain ⟨e, hok⟩ := g_pr hok
  try subst e
  obtain ⟨e, hok⟩ := g_pr hok
  try subst e
  obtain ⟨e, hok⟩ := g_pr hok
  try subst e
  obtain ⟨e, hok⟩ := g_pr hok
  try subst e
  obtain ⟨e, hok⟩ := g_pr hok
  try subst e
  obtain ⟨e, hok⟩ := g_pr hok
  try subst e
  cases hok
  exact cr_i hx hb hr hlocks hQ dX9_cycles_20 hP hS
set_option maxHeartbeats 40000000 in
set_option maxRecDepth 100000 in
theorem c_X9_cycle (l : Launch) (G : va_G) (cA : Nat → ClassId) (ts : Nat → Nat) (h0 : Nat) (h0_g : Nat) (h0_p : Nat) (h0_to : Nat) (h0_round : Nat) (h0_tail : Nat) (h0_path : Nat) (h0_leastOn : Nat) (h0_period : Nat) (h0_amplitude : Nat) (h0_basin : Nat) (h0_numbered : Nat) (h0_kept : Nat) (h0_changed : Nat) (h0_causes : Nat) (h0_rows : Nat) (h0_sorts : Nat) (h0_sizes : Nat) (h0_moved : Nat) (h0_outs : Nat) (h0_losses : Nat) (h0_levelOf : Nat) (h0_levelOften : Nat) (h0_isReached : Nat) (h0_tape : Nat) (h0_told : Nat) (h0_traced : Nat) (x1 : Int32) (x2 : Int32) (x3 : Int32) (s0__isKept : Int32) (s0__done : Int32) (s0__undoable : Int32) (s0__redoable : Int32) (s0__all : Int32) (s0__v : Int32) (s0__loss : Int32) (s0__isOver : Int32) (s0__hasCauses : Int32) (s0__outMany : Int32) (s0__overMany : Int32) (s0__isHalted : Int32) (s0__levelMany : Int32) (s0__rounds : Int32) (s0__stuck : Int32) (s0__onRounds : Int32) (s0__longest : Int32) (s0__loudest : Int32) (s0__reached : Int32) (s0__isAnyOver : Int32) (s0__taped : Int32) (s0__at : Int32) (s0__ran : Int32) (s0_g : Nat → Int32) (s0_p : Nat → Int32) (s0_to : Nat → Int32) (s0_round : Nat → Int32) (s0_tail : Nat → Int32) (s0_path : Nat → Int32) (s0_leastOn : Nat → Int32) (s0_period : Nat → Int32) (s0_amplitude : Nat → Int32) (s0_basin : Nat → Int32) (s0_numbered : Nat → Int32) (r : Int32) (o0__all : Int32) (o0__v : Int32) (o0__loss : Int32) (o0__isOver : Int32) (o0__rounds : Int32) (o0__stuck : Int32) (o0__onRounds : Int32) (o0__longest : Int32) (o0__loudest : Int32) (o0_p : Nat → Int32) (o0_to : Nat → Int32) (o0_round : Nat → Int32) (o0_tail : Nat → Int32) (o0_path : Nat → Int32) (o0_leastOn : Nat → Int32) (o0_period : Nat → Int32) (o0_amplitude : Nat → Int32) (o0_basin : Nat → Int32) (o0_numbered : Nat → Int32) (hok : fX9_cycle x1 x2 x3 s0__all s0__v s0__loss s0__isOver s0__rounds s0__stuck s0__onRounds s0__longest s0__loudest s0_g s0_p s0_to s0_round s0_tail s0_path s0_leastOn s0_period s0_amplitude s0_basin s0_numbered = some (r, o0__all, o0__v, o0__loss, o0__isOver, o0__rounds, o0__stuck, o0__onRounds, o0__longest, o0__loudest, o0_p, o0_to, o0_round, o0_tail, o0_path, o0_leastOn, o0_period, o0_amplitude, o0_basin, o0_numbered)) : Ct l G cA ts yX9_cycle wsX9_cycle 7 177 [.ref h0, .int x1, .int x2, .int x3] (wm_X9_findsAll cA h0 h0_g h0_p h0_to h0_round h0_tail h0_path h0_leastOn h0_period h0_amplitude h0_basin h0_numbered h0_kept h0_changed h0_causes h0_rows h0_sorts h0_sizes h0_moved h0_outs h0_losses h0_levelOf h0_levelOften h0_isReached h0_tape h0_told h0_traced s0__isKept s0__done s0__undoable s0__redoable s0__all s0__v s0__loss s0__isOver s0__hasCauses s0__outMany s0__overMany s0__isHalted s0__levelMany s0__rounds s0__stuck s0__onRounds s0__longest s0__loudest s0__reached s0__isAnyOver s0__taped s0__at s0__ran s0_g s0_p s0_to s0_round s0_tail s0_path s0_leastOn s0_period s0_amplitude s0_basin s0_numbered) (wm_X9_findsAll cA h0 h0_g h0_p h0_to h0_round h0_tail h0_path h0_leastOn h0_period h0_amplitude h0_basin h0_numbered h0_kept h0_changed h0_causes h0_rows h0_sorts h0_sizes h0_moved h0_outs h0_losses h0_levelOf h0_levelOften h0_isReached h0_tape h0_told h0_traced s0__isKept s0__done s0__undoable s0__redoable o0__all o0__v o0__loss o0__isOver s0__hasCauses s0__outMany s0__overMany s0__isHalted s0__levelMany o0__rounds o0__stuck o0__onRounds o0__longest o0__loudest s0__reached s0__isAnyOver s0__taped s0__at s0__ran s0_g o0_p o0_to o0_round o0_tail o0_path o0_leastOn o0_period o0_amplitude o0_basin o0_numbered) (some (.int r)) := by
  refine Ct.intro (cc := cX9_cycle) (maxL := 5) (ret := some .int) (by decide +kernel) rfl (Nat.le_of_ble_eq_true rfl) ?_
  intro p e s m ar below meth c A Q hx hb hr hml hown hlocks hts hK hZ hA hQ hP hD hS ls hl
  have hown : s.vm.findClass RX9 = some m.cls := hown
  have hinX9 : ∀ w ∈ wsX90, w ∈ wsX9_cycle := fun _ h => List.mem_cons_of_mem _ (List.mem_append_right _ (h))
  have hl : lv_has ls 5 [(0, .ref h0), (1, .int x1), (2, .int x2), (3, .int x3)] := hl
  have hP : va_P G vwCl (wm_X9_findsAll cA h0 h0_g h0_p h0_to h0_round h0_tail h0_path h0_leastOn h0_period h0_amplitude h0_basin h0_numbered h0_kept h0_changed h0_causes h0_rows h0_sorts h0_sizes h0_moved h0_outs h0_losses h0_levelOf h0_levelOften h0_isReached h0_tape h0_told h0_traced s0__isKept s0__done s0__undoable s0__redoable s0__all s0__v s0__loss s0__isOver s0__hasCauses s0__outMany s0__overMany s0__isHalted s0__levelMany s0__rounds s0__stuck s0__onRounds s0__longest s0__loudest s0__reached s0__isAnyOver s0__taped s0__at s0__ran s0_g s0_p s0_to s0_round s0_tail s0_path s0_leastOn s0_period s0_amplitude s0_basin s0_numbered) s.heap := hP
  have hD : va_D A (wm_X9_findsAll cA h0 h0_g h0_p h0_to h0_round h0_tail h0_path h0_leastOn h0_period h0_amplitude h0_basin h0_numbered h0_kept h0_changed h0_causes h0_rows h0_sorts h0_sizes h0_moved h0_outs h0_losses h0_levelOf h0_levelOften h0_isReached h0_tape h0_told h0_traced s0__isKept s0__done s0__undoable s0__redoable s0__all s0__v s0__loss s0__isOver s0__hasCauses s0__outMany s0__overMany s0__isHalted s0__levelMany s0__rounds s0__stuck s0__onRounds s0__longest s0__loudest s0__reached s0__isAnyOver s0__taped s0__at s0__ran s0_g s0_p s0_to s0_round s0_tail s0_path s0_leastOn s0_period s0_amplitude s0_basin s0_numbered) := hD
  unfold fX9_cycle at hok
  refine lv_iload_n hx hb dX9_cycle_0 rfl (lv_at hl 1 rfl) ?_
  obtain ⟨r1, hq, hok⟩ := g_bnd1 hok
  refine cG (is := []) (wc := (wm_X0_find cA)) (w1 := (wm_X0_find cA)) (rv := (some (.int r1))) (st1 := [.int r1]) (va_runS (Ts := wsX9_cycle) (As := [.int x1]) (rest := []) ⟨hx, hb, hml, hown, hts⟩ (c_X9_isInput l G cA ts x1 r1 hq s.heap.size) (va_cwS 1 hts gX9_cycle_X9_isInput rfl rfl rfl (by decide +kernel) ⟨Nat.le_of_ble_eq_true rfl, Nat.le_of_ble_eq_true rfl⟩) (pre_S (is := []) hP hD hS hA hK hZ (by decide +kernel) (by rfl)) rfl rfl hl.1 rfl (by exact lv_room (Nat.le_of_ble_eq_true rfl)) dX9_cycle_1 ⟨Nat.le_refl _, Nat.le_refl _⟩) hP hD hS hA (by decide +kernel) (by rfl) (by rfl) rfl (fun H locs hP hD hS => ?_)
  have hP : va_P G vwCl (wm_X9_findsAll cA h0 h0_g h0_p h0_to h0_round h0_tail h0_path h0_leastOn h0_period h0_amplitude h0_basin h0_numbered h0_kept h0_changed h0_causes h0_rows h0_sorts h0_sizes h0_moved h0_outs h0_losses h0_levelOf h0_levelOften h0_isReached h0_tape h0_told h0_traced s0__isKept s0__done s0__undoable s0__redoable s0__all s0__v s0__loss s0__isOver s0__hasCauses s0__outMany s0__overMany s0__isHalted s0__levelMany s0__rounds s0__stuck s0__onRounds s0__longest s0__loudest s0__reached s0__isAnyOver s0__taped s0__at s0__ran s0_g s0_p s0_to s0_round s0_tail s0_path s0_leastOn s0_period s0_amplitude s0_basin s0_numbered) H := hP
  have hD : va_D A (wm_X9_findsAll cA h0 h0_g h0_p h0_to h0_round h0_tail h0_path h0_leastOn h0_period h0_amplitude h0_basin h0_numbered h0_kept h0_changed h0_causes h0_rows h0_sorts h0_sizes h0_moved h0_outs h0_losses h0_levelOf h0_levelOften h0_isReached h0_tape h0_told h0_traced s0__isKept s0__done s0__undoable s0__redoable s0__all s0__v s0__loss s0__isOver s0__hasCauses s0__outMany s0__overMany s0__isHalted s0__levelMany s0__rounds s0__stuck s0__onRounds s0__longest s0__loudest s0__reached s0__isAnyOver s0__taped s0__at s0__ran s0_g s0_p s0_to s0_round s0_tail s0_path s0_leastOn s0_period s0_amplitude s0_basin s0_numbered) := hD
  refine lv_if_eq (tgt := 19) hx hb dX9_cycle_4 (by decide) (fun c => ?_) (fun c => ?_)
  · replace hok := g_pos hok c
    refine lv_iconst (v := -1) hx hb dX9_cycle_19 (by decide) ?_
    obtain ⟨e, hok⟩ := g_pr hok
    try subst e
    obtain ⟨e, hok⟩ := g_pr hok
    try subst e
    obtain ⟨e, hok⟩ := g_pr hok
    try subst e
    obtain ⟨e, hok⟩ := g_pr hok
    try subst e
    obtain ⟨e, hok⟩ := g_pr hok
    try subst e
    obtain ⟨e, hok⟩ := g_pr hok
    try subst e
    obtain ⟨e, hok⟩ := g_pr hok
    try subst e
    obtain ⟨e, hok⟩ := g_pr hok
    try subst e
    obtain ⟨e, hok⟩ := g_pr hok
    try subst e
    obtain ⟨e, hok⟩ := g_pr hok
    try subst e
    obtain ⟨e, hok⟩ := g_pr hok
    try subst e
    obtain ⟨e, hok⟩ := g_pr hok
    try subst e
    obtain ⟨e, hok⟩ := g_pr hok
    try subst e
    obtain ⟨e, hok⟩ := g_pr hok
    try subst e
    obtain ⟨e, hok⟩ := g_pr hok
    try subst e
    obtain ⟨e, hok⟩ := g_pr hok
    try subst e
    obtain ⟨e, hok⟩ := g_pr hok
    try subst e
    obtain ⟨e, hok⟩ := g_pr hok
    try subst e
    obtain ⟨e, hok⟩ := g_pr hok
    try subst e
    cases hok
    exact cr_i hx hb hr hlocks hQ dX9_cycle_20 hP hS
  replace hok := g_neg hok c
  refine lv_iload_n hx hb dX9_cycle_7 rfl (lv_at hl 3 rfl) ?_
  refine lv_i2l (v := (x3.toInt64)) hx hb dX9_cycle_8 rfl ?_
  refine lv_lconst (v := 0) hx hb dX9_cycle_9 (by decide) ?_
  refine lv_ldc2 (v := 3) hx hb hown (hts _ (List.mem_of_getElem? (i := 1) rfl)) dX9_cycle_10 ?_
  obtain ⟨r2, hq, hok⟩ := g_bnd1 hok
  refine cG (is := []) (wc := (wm_X0_find cA)) (w1 := (wm_X0_find cA)) (rv := (some (.int r2))) (st1 := [.int r2]) (va_runS (Ts := wsX9_cycle) (As := [.long (x3.toInt64), .long (0:Int64), .long (3:Int64)]) (rest := []) ⟨hx, hb, hml, hown, hts⟩ (c_X9_in l G cA ts (x3.toInt64) (0:Int64) (3:Int64) r2 hq H.size) (va_cwS 3 hts gX9_cycle_X9_in rfl rfl rfl (by decide +kernel) ⟨Nat.le_of_ble_eq_true rfl, Nat.le_of_ble_eq_true rfl⟩) (pre_S (is := []) hP hD hS hA hK hZ (by decide +kernel) (by rfl)) rfl rfl hl.1 rfl (by exact lv_room (Nat.le_of_ble_eq_true rfl)) dX9_cycle_13 ⟨Nat.le_refl _, Nat.le_refl _⟩) hP hD hS hA (by decide +kernel) (by rfl) (by rfl) rfl (fun H locs hP hD hS => ?_)
  have hP : va_P G vwCl (wm_X9_findsAll cA h0 h0_g h0_p h0_to h0_round h0_tail h0_path h0_leastOn h0_period h0_amplitude h0_basin h0_numbered h0_kept h0_changed h0_causes h0_rows h0_sorts h0_sizes h0_moved h0_outs h0_losses h0_levelOf h0_levelOften h0_isReached h0_tape h0_told h0_traced s0__isKept s0__done s0__undoable s0__redoable s0__all s0__v s0__loss s0__isOver s0__hasCauses s0__outMany s0__overMany s0__isHalted s0__levelMany s0__rounds s0__stuck s0__onRounds s0__longest s0__loudest s0__reached s0__isAnyOver s0__taped s0__at s0__ran s0_g s0_p s0_to s0_round s0_tail s0_path s0_leastOn s0_period s0_amplitude s0_basin s0_numbered) H := hP
  have hD : va_D A (wm_X9_findsAll cA h0 h0_g h0_p h0_to h0_round h0_tail h0_path h0_leastOn h0_period h0_amplitude h0_basin h0_numbered h0_kept h0_changed h0_causes h0_rows h0_sorts h0_sizes h0_moved h0_outs h0_losses h0_levelOf h0_levelOften h0_isReached h0_tape h0_told h0_traced s0__isKept s0__done s0__undoable s0__redoable s0__all s0__v s0__loss s0__isOver s0__hasCauses s0__outMany s0__overMany s0__isHalted s0__levelMany s0__rounds s0__stuck s0__onRounds s0__longest s0__loudest s0__reached s0__isAnyOver s0__taped s0__at s0__ran s0_g s0_p s0_to s0_round s0_tail s0_path s0_leastOn s0_period s0_amplitude s0_basin s0_numbered) := hD
  refine lv_if_ne (tgt := 21) hx hb dX9_cycle_16 (by decide) (fun c => ?_) (fun c => ?_)
  · replace hok := g_neg hok c
    refine lv_aload_n hx hb dX9_cycle_21 rfl (lv_at hl 0 rfl) ?_
    refine lv_iload_n hx hb dX9_cycle_22 rfl (lv_at hl 1 rfl) ?_
    obtain ⟨o3, o4, o5, o6, o7, o8, o9, o10, o11, o12, o13, o14, o15, o16, o17, o18, o19, o20, o21, hq, hok⟩ := g_bnd19 hok
    refine cG (is := [0, 1, 2, 3, 4, 5, 6, 7, 8, 9, 10, 11]) (wc := (wm_X9_findsAll cA h0 h0_g h0_p h0_to h0_round h0_tail h0_path h0_leastOn h0_period h0_amplitude h0_basin h0_numbered h0_kept h0_changed h0_causes h0_rows h0_sorts h0_sizes h0_moved h0_outs h0_losses h0_levelOf h0_levelOften h0_isReached h0_tape h0_told h0_traced s0__isKept s0__done s0__undoable s0__redoable s0__all s0__v s0__loss s0__isOver s0__hasCauses s0__outMany s0__overMany s0__isHalted s0__levelMany s0__rounds s0__stuck s0__onRounds s0__longest s0__loudest s0__reached s0__isAnyOver s0__taped s0__at s0__ran s0_g s0_p s0_to s0_round s0_tail s0_path s0_leastOn s0_period s0_amplitude s0_basin s0_numbered)) (w1 := (wm_X9_findsAll cA h0 h0_g h0_p h0_to h0_round h0_tail h0_path h0_leastOn h0_period h0_amplitude h0_basin h0_numbered h0_kept h0_changed h0_causes h0_rows h0_sorts h0_sizes h0_moved h0_outs h0_losses h0_levelOf h0_levelOften h0_isReached h0_tape h0_told h0_traced s0__isKept s0__done s0__undoable s0__redoable o3 o4 o5 o6 s0__hasCauses s0__outMany s0__overMany s0__isHalted s0__levelMany o7 o8 o9 o10 o11 s0__reached s0__isAnyOver s0__taped s0__at s0__ran s0_g o12 o13 o14 o15 o16 o17 o18 o19 o20 o21)) (rv := none) (st1 := []) (va_runV (Ts := wsX9_cycle) (As := [.int x1]) (rest := []) ⟨hx, hb, hml, hown, hts⟩ (c_X9_findsAll l G cA ts h0 h0_g h0_p h0_to h0_round h0_tail h0_path h0_leastOn h0_period h0_amplitude h0_basin h0_numbered h0_kept h0_changed h0_causes h0_rows h0_sorts h0_sizes h0_moved h0_outs h0_losses h0_levelOf h0_levelOften h0_isReached h0_tape h0_told h0_traced x1 s0__isKept s0__done s0__undoable s0__redoable s0__all s0__v s0__loss s0__isOver s0__hasCauses s0__outMany s0__overMany s0__isHalted s0__levelMany s0__rounds s0__stuck s0__onRounds s0__longest s0__loudest s0__reached s0__isAnyOver s0__taped s0__at s0__ran s0_g s0_p s0_to s0_round s0_tail s0_path s0_leastOn s0_period s0_amplitude s0_basin s0_numbered o3 o4 o5 o6 o7 o8 o9 o10 o11 o12 o13 o14 o15 o16 o17 o18 o19 o20 o21 hq H.size) (cwV 1 hts gX9_cycle_X9_findsAll rfl rfl rfl (by decide +kernel) ⟨Nat.le_of_ble_eq_true rfl, Nat.le_of_ble_eq_true rfl⟩) (pre_V (ci := 9) (q0 := 0) (is := [0, 1, 2, 3, 4, 5, 6, 7, 8, 9, 10, 11]) rfl rfl hP hD hS hA hK hZ (by decide +kernel) (by rfl)) rfl rfl hl.1 rfl (by exact lv_room (Nat.le_of_ble_eq_true rfl)) dX9_cycle_23 ⟨Nat.le_refl _, Nat.le_refl _⟩) hP hD hS hA (by decide +kernel) (by rfl) (by rfl) rfl (fun H locs hP hD hS => ?_)
    obtain ⟨hP, hD⟩ : va_P G vwCl (wm_X9_findsAll cA h0 h0_g h0_p h0_to h0_round h0_tail h0_path h0_leastOn h0_period h0_amplitude h0_basin h0_numbered h0_kept h0_changed h0_causes h0_rows h0_sorts h0_sizes h0_moved h0_outs h0_losses h0_levelOf h0_levelOften h0_isReached h0_tape h0_told h0_traced s0__isKept s0__done s0__undoable s0__redoable o3 o4 o5 o6 s0__hasCauses s0__outMany s0__overMany s0__isHalted s0__levelMany o7 o8 o9 o10 o11 s0__reached s0__isAnyOver s0__taped s0__at s0__ran s0_g o12 o13 o14 o15 o16 o17 o18 o19 o20 o21) H ∧ va_D A (wm_X9_findsAll cA h0 h0_g h0_p h0_to h0_round h0_tail h0_path h0_leastOn h0_period h0_amplitude h0_basin h0_numbered h0_kept h0_changed h0_causes h0_rows h0_sorts h0_sizes h0_moved h0_outs h0_losses h0_levelOf h0_levelOften h0_isReached h0_tape h0_told h0_traced s0__isKept s0__done s0__undoable s0__redoable o3 o4 o5 o6 s0__hasCauses s0__outMany s0__overMany s0__isHalted s0__levelMany o7 o8 o9 o10 o11 s0__reached s0__isAnyOver s0__taped s0__at s0__ran s0_g o12 o13 o14 o15 o16 o17 o18 o19 o20 o21) := PD_eq hP hD (rp_eq (js := []) 12 (by decide +kernel) rfl rfl (by rfl) (by rfl) (by decide +kernel))
    refine lv_iload_n hx hb dX9_cycle_26 rfl (lv_at hl 2 rfl) ?_
    refine lv_i2l (v := (x2.toInt64)) hx hb dX9_cycle_27 rfl ?_
    refine lv_lconst (v := 0) hx hb dX9_cycle_28 (by decide) ?_
    refine lv_aload_n hx hb dX9_cycle_29 rfl (lv_at hl 0 rfl) ?_
    refine va_get (ci := 9) (v := .int o7) (C := RX9) (T := TX9) (N := 49) hx hb hts hinX9 hown hK hP 0 rfl rfl 35 (by decide) (hts _ (List.mem_of_getElem? (i := 2) rfl)) (fun _ h9 => h9) rfl dX9_cycle_30 ?_
    refine lv_iconst (v := 1) hx hb dX9_cycle_33 (by decide) ?_
    refine lv_isub hx hb dX9_cycle_34 ?_
    refine lv_i2l (v := ((o7 - (1:Int32)).toInt64)) hx hb dX9_cycle_35 rfl ?_
    obtain ⟨r22, hq, hok⟩ := g_bnd1 hok
    refine cG (is := []) (wc := (wm_X0_find cA)) (w1 := (wm_X0_find cA)) (rv := (some (.int r22))) (st1 := [.int r22]) (va_runS (Ts := wsX9_cycle) (As := [.long (x2.toInt64), .long (0:Int64), .long ((o7 - (1:Int32)).toInt64)]) (rest := []) ⟨hx, hb, hml, hown, hts⟩ (c_X9_in l G cA ts (x2.toInt64) (0:Int64) ((o7 - (1:Int32)).toInt64) r22 hq H.size) (va_cwS 3 hts gX9_cycle_X9_in rfl rfl rfl (by decide +kernel) ⟨Nat.le_of_ble_eq_true rfl, Nat.le_of_ble_eq_true rfl⟩) (pre_S (is := []) hP hD hS hA hK hZ (by decide +kernel) (by rfl)) rfl rfl hl.1 rfl (by exact lv_room (Nat.le_of_ble_eq_true rfl)) dX9_cycle_36 ⟨Nat.le_refl _, Nat.le_refl _⟩) hP hD hS hA (by decide +kernel) (by rfl) (by rfl) rfl (fun H locs hP hD hS => ?_)
    have hP : va_P G vwCl (wm_X9_findsAll cA h0 h0_g h0_p h0_to h0_round h0_tail h0_path h0_leastOn h0_period h0_amplitude h0_basin h0_numbered h0_kept h0_changed h0_causes h0_rows h0_sorts h0_sizes h0_moved h0_outs h0_losses h0_levelOf h0_levelOften h0_isReached h0_tape h0_told h0_traced s0__isKept s0__done s0__undoable s0__redoable o3 o4 o5 o6 s0__hasCauses s0__outMany s0__overMany s0__isHalted s0__levelMany o7 o8 o9 o10 o11 s0__reached s0__isAnyOver s0__taped s0__at s0__ran s0_g o12 o13 o14 o15 o16 o17 o18 o19 o20 o21) H := hP
    have hD : va_D A (wm_X9_findsAll cA h0 h0_g h0_p h0_to h0_round h0_tail h0_path h0_leastOn h0_period h0_amplitude h0_basin h0_numbered h0_kept h0_changed h0_causes h0_rows h0_sorts h0_sizes h0_moved h0_outs h0_losses h0_levelOf h0_levelOften h0_isReached h0_tape h0_told h0_traced s0__isKept s0__done s0__undoable s0__redoable o3 o4 o5 o6 s0__hasCauses s0__outMany s0__overMany s0__isHalted s0__levelMany o7 o8 o9 o10 o11 s0__reached s0__isAnyOver s0__taped s0__at s0__ran s0_g o12 o13 o14 o15 o16 o17 o18 o19 o20 o21) := hD
    refine lv_if_ne (tgt := 45) hx hb dX9_cycle_39 (by decide) (fun c => ?_) (fun c => ?_)
    · replace hok := g_neg hok c
      refine lv_aload_n hx hb dX9_cycle_45 rfl (lv_at hl 0 rfl) ?_
      refine va_get (ci := 9) (v := .ref h0_numbered) (C := RX9) (T := TX9) (N := 49) hx hb hts hinX9 hown hK hP 0 rfl rfl 34 (by decide) (hts _ (List.mem_of_getElem? (i := 3) rfl)) (fun _ h9 => h9) rfl dX9_cycle_46 ?_
      refine lv_iload_n hx hb dX9_cycle_49 rfl (lv_at hl 2 rfl) ?_
      obtain ⟨hin, hok⟩ := g_no hok
      refine x_iald (k := x2.toNatClampNeg) hx hb hK hP 11 0 rfl rfl hin rfl dX9_cycle_50 ?_
      refine lv_istore (lv' := [(4, .int (o21 x2.toNatClampNeg)), (0, .ref h0), (1, .int x1), (2, .int x2), (3, .int x3)]) hx hb dX9_cycle_51 hl (by decide) rfl (fun ls hl => ?_)
      refine lv_iload_n hx hb dX9_cycle_53 rfl (lv_at hl 4 rfl) ?_
      refine lv_if_ne (tgt := 67) hx hb dX9_cycle_54 (by decide) (fun c => ?_) (fun c => ?_)
      · replace hok := g_neg hok c
        refine lv_iload_n hx hb dX9_cycle_67 rfl (lv_at hl 4 rfl) ?_
        refine lv_iconst (v := 1) hx hb dX9_cycle_68 (by decide) ?_
        refine lv_icmp_ne (tgt := 82) hx hb dX9_cycle_69 (by decide) (fun c => ?_) (fun c => ?_)
        · replace hok := g_neg hok c
          refine lv_iload_n hx hb dX9_cycle_82 rfl (lv_at hl 4 rfl) ?_
          refine lv_iconst (v := 2) hx hb dX9_cycle_83 (by decide) ?_
          refine lv_icmp_ne (tgt := 97) hx hb dX9_cycle_84 (by decide) (fun c => ?_) (fun c => ?_)
          · replace hok := g_neg hok c
            refine lv_aload_n hx hb dX9_cycle_97 rfl (lv_at hl 1 rfl) ?_
            refine va_get (ci := 9) (v := .ref h0_basin) (C := RX9) (T := TX9) (N := 49) hx hb hts hinX9 hown hK hP 0 rfl rfl 33 (by decide) (hts _ (List.mem_of_getElem? (i := 7) rfl)) (fun _ h9 => h9) rfl dX9_cycle_98 ?_
            refine lv_iload hx hb dX9_cycle_101 (lv_at hl 0 rfl) ?_
            obtain ⟨hin, hok⟩ := g_no hok
            refine x_iald (k := (o21 x2.toNatClampNeg).toNatClampNeg) hx hb hK hP 10 0 rfl rfl hin rfl dX9_cycle_103 ?_
            obtain ⟨e, hok⟩ := g_pr hok
            try subst e
            obtain ⟨e, hok⟩ := g_pr hok
            try subst e
            obtain ⟨e, hok⟩ := g_pr hok
            try subst e
            obtain ⟨e, hok⟩ := g_pr hok
            try subst e
            obtain ⟨e, hok⟩ := g_pr hok
            try subst e
            obtain ⟨e, hok⟩ := g_pr hok
            try subst e
            obtain ⟨e, hok⟩ := g_pr hok
            try subst e
            obtain ⟨e, hok⟩ := g_pr hok
            try subst e
            obtain ⟨e, hok⟩ := g_pr hok
            try subst e
            obtain ⟨e, hok⟩ := g_pr hok
            try subst e
            obtain ⟨e, hok⟩ := g_pr hok
            try subst e
            obtain ⟨e, hok⟩ := g_pr hok
            try subst e
            obtain ⟨e, hok⟩ := g_pr hok
            try subst e
            obtain ⟨e, hok⟩ := g_pr hok
            try subst e
            obtain ⟨e, hok⟩ := g_pr hok
            try subst e
            obtain ⟨e, hok⟩ := g_pr hok
            try subst e
            obtain ⟨e, hok⟩ := g_pr hok
            try subst e
            obtain ⟨e, hok⟩ := g_pr hok
            try subst e
            obtain ⟨e, hok⟩ := g_pr hok
            try subst e
            cases hok
            exact cr_i hx hb hr hlocks hQ dX9_cycle_104 hP hS
          replace hok := g_pos hok c
          refine lv_aload_n hx hb dX9_cycle_87 rfl (lv_at hl 1 rfl) ?_
          refine va_get (ci := 9) (v := .ref h0_amplitude) (C := RX9) (T := TX9) (N := 49) hx hb hts hinX9 hown hK hP 0 rfl rfl 32 (by decide) (hts _ (List.mem_of_getElem? (i := 6) rfl)) (fun _ h9 => h9) rfl dX9_cycle_88 ?_
          refine lv_iload hx hb dX9_cycle_91 (lv_at hl 0 rfl) ?_
          obtain ⟨hin, hok⟩ := g_no hok
          refine x_iald (k := (o21 x2.toNatClampNeg).toNatClampNeg) hx hb hK hP 9 0 rfl rfl hin rfl dX9_cycle_93 ?_
          refine lv_goto (tgt := 104) hx hb dX9_cycle_94 (by decide) ?_
          obtain ⟨e, hok⟩ := g_pr hok
          try subst e
          obtain ⟨e, hok⟩ := g_pr hok
          try subst e
          obtain ⟨e, hok⟩ := g_pr hok
          try subst e
          obtain ⟨e, hok⟩ := g_pr hok
          try subst e
          obtain ⟨e, hok⟩ := g_pr hok
          try subst e
          obtain ⟨e, hok⟩ := g_pr hok
          try subst e
          obtain ⟨e, hok⟩ := g_pr hok
          try subst e
          obtain ⟨e, hok⟩ := g_pr hok
          try subst e
          obtain ⟨e, hok⟩ := g_pr hok
          try subst e
          obtain ⟨e, hok⟩ := g_pr hok
          try subst e
          obtain ⟨e, hok⟩ := g_pr hok
          try subst e
          obtain ⟨e, hok⟩ := g_pr hok
          try subst e
          obtain ⟨e, hok⟩ := g_pr hok
          try subst e
          obtain ⟨e, hok⟩ := g_pr hok
          try subst e
          obtain ⟨e, hok⟩ := g_pr hok
          try subst e
          obtain ⟨e, hok⟩ := g_pr hok
          try subst e
          obtain ⟨e, hok⟩ := g_pr hok
          try subst e
          obtain ⟨e, hok⟩ := g_pr hok
          try subst e
          obtain ⟨e, hok⟩ := g_pr hok
          try subst e
          cases hok
          exact cr_i hx hb hr hlocks hQ dX9_cycle_104 hP hS
        replace hok := g_pos hok c
        refine lv_aload_n hx hb dX9_cycle_72 rfl (lv_at hl 1 rfl) ?_
        refine va_get (ci := 9) (v := .ref h0_period) (C := RX9) (T := TX9) (N := 49) hx hb hts hinX9 hown hK hP 0 rfl rfl 31 (by decide) (hts _ (List.mem_of_getElem? (i := 5) rfl)) (fun _ h9 => h9) rfl dX9_cycle_73 ?_
        refine lv_iload hx hb dX9_cycle_76 (lv_at hl 0 rfl) ?_
        obtain ⟨hin, hok⟩ := g_no hok
        refine x_iald (k := (o21 x2.toNatClampNeg).toNatClampNeg) hx hb hK hP 8 0 rfl rfl hin rfl dX9_cycle_78 ?_
        refine lv_goto (tgt := 104) hx hb dX9_cycle_79 (by decide) ?_
        obtain ⟨e, hok⟩ := g_pr hok
        try subst e
        obtain ⟨e, hok⟩ := g_pr hok
        try subst e
        obtain ⟨e, hok⟩ := g_pr hok
        try subst e
        obtain ⟨e, hok⟩ := g_pr hok
        try subst e
        obtain ⟨e, hok⟩ := g_pr hok
        try subst e
        obtain ⟨e, hok⟩ := g_pr hok
        try subst e
        obtain ⟨e, hok⟩ := g_pr hok
        try subst e
        obtain ⟨e, hok⟩ := g_pr hok
        try subst e
        obtain ⟨e, hok⟩ := g_pr hok
        try subst e
        obtain ⟨e, hok⟩ := g_pr hok
        try subst e
        obtain ⟨e, hok⟩ := g_pr hok
        try subst e
        obtain ⟨e, hok⟩ := g_pr hok
        try subst e
        obtain ⟨e, hok⟩ := g_pr hok
        try subst e
        obtain ⟨e, hok⟩ := g_pr hok
        try subst e
        obtain ⟨e, hok⟩ := g_pr hok
        try subst e
        obtain ⟨e, hok⟩ := g_pr hok
        try subst e
        obtain ⟨e, hok⟩ := g_pr hok
        try subst e
        obtain ⟨e, hok⟩ := g_pr hok
        try subst e
        obtain ⟨e, hok⟩ := g_pr hok
        try subst e
        cases hok
        exact cr_i hx hb hr hlocks hQ dX9_cycle_104 hP hS
      replace hok := g_pos hok c
      refine lv_aload_n hx hb dX9_cycle_57 rfl (lv_at hl 1 rfl) ?_
      refine va_get (ci := 9) (v := .ref h0_leastOn) (C := RX9) (T := TX9) (N := 49) hx hb hts hinX9 hown hK hP 0 rfl rfl 30 (by decide) (hts _ (List.mem_of_getElem? (i := 4) rfl)) (fun _ h9 => h9) rfl dX9_cycle_58 ?_
      refine lv_iload hx hb dX9_cycle_61 (lv_at hl 0 rfl) ?_
      obtain ⟨hin, hok⟩ := g_no hok
      refine x_iald (k := (o21 x2.toNatClampNeg).toNatClampNeg) hx hb hK hP 7 0 rfl rfl hin rfl dX9_cycle_63 ?_
      refine lv_goto (tgt := 104) hx hb dX9_cycle_64 (by decide) ?_
      obtain ⟨e, hok⟩ := g_pr hok
      try subst e
      obtain ⟨e, hok⟩ := g_pr hok
      try subst e
      obtain ⟨e, hok⟩ := g_pr hok
      try subst e
      obtain ⟨e, hok⟩ := g_pr hok
      try subst e
      obtain ⟨e, hok⟩ := g_pr hok
      try subst e
      obtain ⟨e, hok⟩ := g_pr hok
      try subst e
      obtain ⟨e, hok⟩ := g_pr hok
      try subst e
      obtain ⟨e, hok⟩ := g_pr hok
      try subst e
      obtain ⟨e, hok⟩ := g_pr hok
      try subst e
      obtain ⟨e, hok⟩ := g_pr hok
      try subst e
      obtain ⟨e, hok⟩ := g_pr hok
      try subst e
      obtain ⟨e, hok⟩ := g_pr hok
      try subst e
      obtain ⟨e, hok⟩ := g_pr hok
      try subst e
      obtain ⟨e, hok⟩ := g_pr hok
      try subst e
      obtain ⟨e, hok⟩ := g_pr hok
      try subst e
      obtain ⟨e, hok⟩ := g_pr hok
      try subst e
      obtain ⟨e, hok⟩ := g_pr hok
      try subst e
      obtain ⟨e, hok⟩ := g_pr hok
      try subst e
      obtain ⟨e, hok⟩ := g_pr hok
      try subst e
      cases hok
      exact cr_i hx hb hr hlocks hQ dX9_cycle_104 hP hS
    replace hok := g_pos hok c
    refine lv_bipush (v := -2) hx hb dX9_cycle_42 (by decide) ?_
    obtain ⟨e, hok⟩ := g_pr hok
    try subst e
    obtain ⟨e, hok⟩ := g_pr hok
    try subst e
    obtain ⟨e, hok⟩ := g_pr hok
    try subst e
    obtain ⟨e, hok⟩ := g_pr hok
    try subst e
    obtain ⟨e, hok⟩ := g_pr hok
    try subst e
    obtain ⟨e, hok⟩ := g_pr hok
    try subst e
    obtain ⟨e, hok⟩ := g_pr hok
    try subst e
    obtain ⟨e, hok⟩ := g_pr hok
    try subst e
    obtain ⟨e, hok⟩ := g_pr hok
    try subst e
    obtain ⟨e, hok⟩ := g_pr hok
    try subst e
    obtain ⟨e, hok⟩ := g_pr hok
    try subst e
    obtain ⟨e, hok⟩ := g_pr hok
    try subst e
    obtain ⟨e, hok⟩ := g_pr hok
    try subst e
    obtain ⟨e, hok⟩ := g_pr hok
    try subst e
    obtain ⟨e, hok⟩ := g_pr hok
    try subst e
    obtain ⟨e, hok⟩ := g_pr hok
    try subst e
    obtain ⟨e, hok⟩ := g_pr hok
    try subst e
    obtain ⟨e, hok⟩ := g_pr hok
    try subst e
    obtain ⟨e, hok⟩ := g_pr hok
    try subst e
    cases hok
    exact cr_i hx hb hr hlocks hQ dX9_cycle_44 hP hS
  replace hok := g_pos hok c
  refine lv_iconst (v := -1) hx hb dX9_cycle_19 (by decide) ?_
  obtain ⟨e, hok⟩ := g_pr hok
  try subst e
  obtain ⟨e, hok⟩ := g_pr hok
  try subst e
  obtain ⟨e, hok⟩ := g_pr hok
  try subst e
  obtain ⟨e, hok⟩ := g_pr hok
  try subst e
  obtain ⟨e, hok⟩ := g_pr hok
  try subst e
  obtain ⟨e, hok⟩ := g_pr hok
  try subst e
  obtain ⟨e, hok⟩ := g_pr hok
  try subst e
  obtain ⟨e, hok⟩ := g_pr hok
  try subst e
  obtain ⟨e, hok⟩ := g_pr hok
  try subst e
  obtain ⟨e, hok⟩ := g_pr hok
  try subst e
  obtain ⟨e, hok⟩ := g_pr hok
  try subst e
  obtain ⟨e, hok⟩ := g_pr hok
  try subst e
  obtain ⟨e, hok⟩ := g_pr hok
  try subst e
  obtain ⟨e, hok⟩ := g_pr hok
  try subst e
  obtain ⟨e, hok⟩ := g_pr hok
  try subst e
  obtain ⟨e, hok⟩ := g_pr hok
  try subst e
  obtain ⟨e, hok⟩ := g_pr hok
  try subst e
  obtain ⟨e, hok⟩ := g_pr hok
  try subst e
  obtain ⟨e, hok⟩ := g_pr hok
  try subst e
  cases hok
  exact cr_i hx hb hr hlocks hQ dX9_cycle_20 hP hS
