set_option maxHeartbeats 40000000 in
set_option maxRecDepth 100000 in
theorem c_X9_onCycle (l : Launch) (G : va_G) (cA : Nat → ClassId) (ts : Nat → Nat) (h0 : Nat) (h0_g : Nat) (h0_p : Nat) (h0_to : Nat) (h0_round : Nat) (h0_tail : Nat) (h0_path : Nat) (h0_leastOn : Nat) (h0_period : Nat) (h0_amplitude : Nat) (h0_basin : Nat) (h0_numbered : Nat) (h0_kept : Nat) (h0_changed : Nat) (h0_causes : Nat) (h0_rows : Nat) (h0_sorts : Nat) (h0_sizes : Nat) (h0_moved : Nat) (h0_outs : Nat) (h0_losses : Nat) (h0_levelOf : Nat) (h0_levelOften : Nat) (h0_isReached : Nat) (h0_tape : Nat) (h0_told : Nat) (h0_traced : Nat) (x1 : Int32) (x2 : Int32) (x3 : Int32) (s0__isKept : Int32) (s0__done : Int32) (s0__undoable : Int32) (s0__redoable : Int32) (s0__all : Int32) (s0__v : Int32) (s0__loss : Int32) (s0__isOver : Int32) (s0__hasCauses : Int32) (s0__outMany : Int32) (s0__overMany : Int32) (s0__isHalted : Int32) (s0__levelMany : Int32) (s0__rounds : Int32) (s0__stuck : Int32) (s0__onRounds : Int32) (s0__longest : Int32) (s0__loudest : Int32) (s0__reached : Int32) (s0__isAnyOver : Int32) (s0__taped : Int32) (s0__at : Int32) (s0__ran : Int32) (s0_g : Nat → Int32) (s0_p : Nat → Int32) (s0_to : Nat → Int32) (s0_round : Nat → Int32) (s0_tail : Nat → Int32) (s0_path : Nat → Int32) (s0_leastOn : Nat → Int32) (s0_period : Nat → Int32) (s0_amplitude : Nat → Int32) (s0_basin : Nat → Int32) (s0_numbered : Nat → Int32) (r : Int32) (o0__all : Int32) (o0__v : Int32) (o0__loss : Int32) (o0__isOver : Int32) (o0__rounds : Int32) (o0__stuck : Int32) (o0__onRounds : Int32) (o0__longest : Int32) (o0__loudest : Int32) (o0_p : Nat → Int32) (o0_to : Nat → Int32) (o0_round : Nat → Int32) (o0_tail : Nat → Int32) (o0_path : Nat → Int32) (o0_leastOn : Nat → Int32) (o0_period : Nat → Int32) (o0_amplitude : Nat → Int32) (o0_basin : Nat → Int32) (o0_numbered : Nat → Int32) (hok : fX9_onCycle x1 x2 x3 s0__all s0__v s0__loss s0__isOver s0__rounds s0__stuck s0__onRounds s0__longest s0__loudest s0_g s0_p s0_to s0_round s0_tail s0_path s0_leastOn s0_period s0_amplitude s0_basin s0_numbered = some (r, o0__all, o0__v, o0__loss, o0__isOver, o0__rounds, o0__stuck, o0__onRounds, o0__longest, o0__loudest, o0_p, o0_to, o0_round, o0_tail, o0_path, o0_leastOn, o0_period, o0_amplitude, o0_basin, o0_numbered)) : Ct l G cA ts yX9_onCycle wsX9_onCycle 7 177 [.ref h0, .int x1, .int x2, .int x3] (wm_X9_findsAll cA h0 h0_g h0_p h0_to h0_round h0_tail h0_path h0_leastOn h0_period h0_amplitude h0_basin h0_numbered h0_kept h0_changed h0_causes h0_rows h0_sorts h0_sizes h0_moved h0_outs h0_losses h0_levelOf h0_levelOften h0_isReached h0_tape h0_told h0_traced s0__isKept s0__done s0__undoable s0__redoable s0__all s0__v s0__loss s0__isOver s0__hasCauses s0__outMany s0__overMany s0__isHalted s0__levelMany s0__rounds s0__stuck s0__onRounds s0__longest s0__loudest s0__reached s0__isAnyOver s0__taped s0__at s0__ran s0_g s0_p s0_to s0_round s0_tail s0_path s0_leastOn s0_period s0_amplitude s0_basin s0_numbered) (wm_X9_findsAll cA h0 h0_g h0_p h0_to h0_round h0_tail h0_path h0_leastOn h0_period h0_amplitude h0_basin h0_numbered h0_kept h0_changed h0_causes h0_rows h0_sorts h0_sizes h0_moved h0_outs h0_losses h0_levelOf h0_levelOften h0_isReached h0_tape h0_told h0_traced s0__isKept s0__done s0__undoable s0__redoable o0__all o0__v o0__loss o0__isOver s0__hasCauses s0__outMany s0__overMany s0__isHalted s0__levelMany o0__rounds o0__stuck o0__onRounds o0__longest o0__loudest s0__reached s0__isAnyOver s0__taped s0__at s0__ran s0_g o0_p o0_to o0_round o0_tail o0_path o0_leastOn o0_period o0_amplitude o0_basin o0_numbered) (some (.int r)) := by
  refine Ct.intro (cc := cX9_onCycle) (maxL := 6) (ret := some .int) (by decide +kernel) rfl (Nat.le_of_ble_eq_true rfl) ?_
  intro p e s m ar below meth c A Q hx hb hr hml hown hlocks hts hK hZ hA hQ hP hD hS ls hl
  have hown : s.vm.findClass RX9 = some m.cls := hown
  have hinX9 : ∀ w ∈ wsX90, w ∈ wsX9_onCycle := fun _ h => List.mem_cons_of_mem _ (List.mem_append_right _ (h))
  have hl : lv_has ls 6 [(0, .ref h0), (1, .int x1), (2, .int x2), (3, .int x3)] := hl
  have hP : va_P G vwCl (wm_X9_findsAll cA h0 h0_g h0_p h0_to h0_round h0_tail h0_path h0_leastOn h0_period h0_amplitude h0_basin h0_numbered h0_kept h0_changed h0_causes h0_rows h0_sorts h0_sizes h0_moved h0_outs h0_losses h0_levelOf h0_levelOften h0_isReached h0_tape h0_told h0_traced s0__isKept s0__done s0__undoable s0__redoable s0__all s0__v s0__loss s0__isOver s0__hasCauses s0__outMany s0__overMany s0__isHalted s0__levelMany s0__rounds s0__stuck s0__onRounds s0__longest s0__loudest s0__reached s0__isAnyOver s0__taped s0__at s0__ran s0_g s0_p s0_to s0_round s0_tail s0_path s0_leastOn s0_period s0_amplitude s0_basin s0_numbered) s.heap := hP
  have hD : va_D A (wm_X9_findsAll cA h0 h0_g h0_p h0_to h0_round h0_tail h0_path h0_leastOn h0_period h0_amplitude h0_basin h0_numbered h0_kept h0_changed h0_causes h0_rows h0_sorts h0_sizes h0_moved h0_outs h0_losses h0_levelOf h0_levelOften h0_isReached h0_tape h0_told h0_traced s0__isKept s0__done s0__undoable s0__redoable s0__all s0__v s0__loss s0__isOver s0__hasCauses s0__outMany s0__overMany s0__isHalted s0__levelMany s0__rounds s0__stuck s0__onRounds s0__longest s0__loudest s0__reached s0__isAnyOver s0__taped s0__at s0__ran s0_g s0_p s0_to s0_round s0_tail s0_path s0_leastOn s0_period s0_amplitude s0_basin s0_numbered) := hD
  have L_65 : ∀ (n : Nat) (y4 : Int32) (y5 : Int32) (c0__all : Int32) (c0__v : Int32) (c0__loss : Int32) (c0__isOver : Int32) (c0__rounds : Int32) (c0__stuck : Int32) (c0__onRounds : Int32) (c0__longest : Int32) (c0__loudest : Int32) (c0_p : Nat → Int32) (c0_to : Nat → Int32) (c0_round : Nat → Int32) (c0_tail : Nat → Int32) (c0_path : Nat → Int32) (c0_leastOn : Nat → Int32) (c0_period : Nat → Int32) (c0_amplitude : Nat → Int32) (c0_basin : Nat → Int32) (c0_numbered : Nat → Int32) (p0_0 : Int32) (H : Heap) (locs : List Loc) (ls : Array Slot), va_P G vwCl (wm_X9_findsAll cA h0 h0_g h0_p h0_to h0_round h0_tail h0_path h0_leastOn h0_period h0_amplitude h0_basin h0_numbered h0_kept h0_changed h0_causes h0_rows h0_sorts h0_sizes h0_moved h0_outs h0_losses h0_levelOf h0_levelOften h0_isReached h0_tape h0_told h0_traced s0__isKept s0__done s0__undoable s0__redoable c0__all c0__v c0__loss c0__isOver s0__hasCauses s0__outMany s0__overMany s0__isHalted s0__levelMany c0__rounds c0__stuck c0__onRounds c0__longest c0__loudest s0__reached s0__isAnyOver s0__taped s0__at s0__ran s0_g c0_p c0_to c0_round c0_tail c0_path c0_leastOn c0_period c0_amplitude c0_basin c0_numbered) H → va_D A (wm_X9_findsAll cA h0 h0_g h0_p h0_to h0_round h0_tail h0_path h0_leastOn h0_period h0_amplitude h0_basin h0_numbered h0_kept h0_changed h0_causes h0_rows h0_sorts h0_sizes h0_moved h0_outs h0_losses h0_levelOf h0_levelOften h0_isReached h0_tape h0_told h0_traced s0__isKept s0__done s0__undoable s0__redoable c0__all c0__v c0__loss c0__isOver s0__hasCauses s0__outMany s0__overMany s0__isHalted s0__levelMany c0__rounds c0__stuck c0__onRounds c0__longest c0__loudest s0__reached s0__isAnyOver s0__taped s0__at s0__ran s0_g c0_p c0_to c0_round c0_tail c0_path c0_leastOn c0_period c0_amplitude c0_basin c0_numbered) → va_S A s.heap H locs → lv_has ls 6 [(0, .ref h0), (4, .int y4), (5, .int y5)] → fX9_onCycle_L65 x1 x2 x3 s0_g n y4 y5 c0__all c0__v c0__loss c0__isOver c0__rounds c0__stuck c0__onRounds c0__longest c0__loudest c0_p c0_to c0_round c0_tail c0_path c0_leastOn c0_period c0_amplitude c0_basin c0_numbered = some p0_0 → (∀ (H : Heap) (locs : List Loc) (ls : Array Slot), va_P G vwCl (wm_X9_findsAll cA h0 h0_g h0_p h0_to h0_round h0_tail h0_path h0_leastOn h0_period h0_amplitude h0_basin h0_numbered h0_kept h0_changed h0_causes h0_rows h0_sorts h0_sizes h0_moved h0_outs h0_losses h0_levelOf h0_levelOften h0_isReached h0_tape h0_told h0_traced s0__isKept s0__done s0__undoable s0__redoable c0__all c0__v c0__loss c0__isOver s0__hasCauses s0__outMany s0__overMany s0__isHalted s0__levelMany c0__rounds c0__stuck c0__onRounds c0__longest c0__loudest s0__reached s0__isAnyOver s0__taped s0__at s0__ran s0_g c0_p c0_to c0_round c0_tail c0_path c0_leastOn c0_period c0_amplitude c0_basin c0_numbered) H → va_D A (wm_X9_findsAll cA h0 h0_g h0_p h0_to h0_round h0_tail h0_path h0_leastOn h0_period h0_amplitude h0_basin h0_numbered h0_kept h0_changed h0_causes h0_rows h0_sorts h0_sizes h0_moved h0_outs h0_losses h0_levelOf h0_levelOften h0_isReached h0_tape h0_told h0_traced s0__isKept s0__done s0__undoable s0__redoable c0__all c0__v c0__loss c0__isOver s0__hasCauses s0__outMany s0__overMany s0__isHalted s0__levelMany c0__rounds c0__stuck c0__onRounds c0__longest c0__loudest s0__reached s0__isAnyOver s0__taped s0__at s0__ran s0_g c0_p c0_to c0_round c0_tail c0_path c0_leastOn c0_period c0_amplitude c0_basin c0_numbered) → va_S A s.heap H locs → lv_has ls 6 [(4, .int p0_0)] → W p l e (rmX 7 177) s m ar below meth c H locs 0 0 Q (F0 m 85 ls [])) → W p l e (rmX 7 177) s m ar below meth c H locs 0 0 Q (F0 m 65 ls []) := by
    intro n
    induction n with
    | zero =>
      intro y4 y5 c0__all c0__v c0__loss c0__isOver c0__rounds c0__stuck c0__onRounds c0__longest c0__loudest c0_p c0_to c0_round c0_tail c0_path c0_leastOn c0_period c0_amplitude c0_basin c0_numbered p0_0 H locs ls hP hD hS hl hok
      rw [fX9_onCycle_L65] at hok
      cases hok
    | succ n ih =>
      intro y4 y5 c0__all c0__v c0__loss c0__isOver c0__rounds c0__stuck c0__onRounds c0__longest c0__loudest c0_p c0_to c0_round c0_tail c0_path c0_leastOn c0_period c0_amplitude c0_basin c0_numbered p0_0 H locs ls hP hD hS hl hok K
      rw [fX9_onCycle_L65] at hok
      refine lv_iload hx hb dX9_onCycle_65 (lv_at hl 2 rfl) ?_
      refine lv_if_le (tgt := 85) hx hb dX9_onCycle_67 (by decide) (fun c => ?_) (fun c => ?_)
      · replace hok := g_pos hok c
        cases hok
        exact K _ _ _ hP hD hS (lv_sub hl [1] rfl)
      replace hok := g_neg hok c
      refine lv_aload_n hx hb dX9_onCycle_70 rfl (lv_at hl 0 rfl) ?_
      refine va_get (ci := 9) (v := .ref h0_to) (C := RX9) (T := TX9) (N := 49) hx hb hts hinX9 hown hK hP 0 rfl rfl 26 (by decide) (hts _ (List.mem_of_getElem? (i := 5) rfl)) (fun _ h9 => h9) rfl dX9_onCycle_71 ?_
      refine lv_iload hx hb dX9_onCycle_74 (lv_at hl 1 rfl) ?_
      obtain ⟨hin, hok⟩ := g_no hok
      refine x_iald (k := y4.toNatClampNeg) hx hb hK hP 3 0 rfl rfl hin rfl dX9_onCycle_76 ?_
      refine lv_istore (lv' := [(4, .int (c0_to y4.toNatClampNeg)), (0, .ref h0), (5, .int y5)]) hx hb dX9_onCycle_77 hl (by decide) rfl (fun ls hl => ?_)
      refine lv_iinc (v := (y5 + (-1))) (lv' := [(5, .int (y5 + (-1))), (4, .int (c0_to y4.toNatClampNeg)), (0, .ref h0)]) hx hb dX9_onCycle_79 hl (k := 2) rfl rfl (by decide) rfl (fun ls hl => ?_)
      refine lv_goto (tgt := 65) hx hb dX9_onCycle_82 (by decide) ?_
      exact ih (c0_to y4.toNatClampNeg) (y5 + (-1)) c0__all c0__v c0__loss c0__isOver c0__rounds c0__stuck c0__onRounds c0__longest c0__loudest c0_p c0_to c0_round c0_tail c0_path c0_leastOn c0_period c0_amplitude c0_basin c0_numbered p0_0 _ _ _ hP hD hS (lv_sub hl [2, 1, 0] rfl) hok K
  unfold fX9_onCycle at hok
  refine lv_iload_n hx hb dX9_onCycle_0 rfl (lv_at hl 1 rfl) ?_
  obtain ⟨r1, hq, hok⟩ := g_bnd1 hok
  refine cG (is := []) (wc := (wm_X0_find cA)) (w1 := (wm_X0_find cA)) (rv := (some (.int r1))) (st1 := [.int r1]) (va_runS (Ts := wsX9_onCycle) (As := [.int x1]) (rest := []) ⟨hx, hb, hml, hown, hts⟩ (c_X9_isInput l G cA ts x1 r1 hq s.heap.size) (va_cwS 1 hts gX9_onCycle_X9_isInput rfl rfl rfl (by decide +kernel) ⟨Nat.le_of_ble_eq_true rfl, Nat.le_of_ble_eq_true rfl⟩) (pre_S (is := []) hP hD hS hA hK hZ (by decide +kernel) (by rfl)) rfl rfl hl.1 rfl (by exact lv_room (Nat.le_of_ble_eq_true rfl)) dX9_onCycle_1 ⟨Nat.le_refl _, Nat.le_refl _⟩) hP hD hS hA (by decide +kernel) (by rfl) (by rfl) rfl (fun H locs hP hD hS => ?_)
  have hP : va_P G vwCl (wm_X9_findsAll cA h0 h0_g h0_p h0_to h0_round h0_tail h0_path h0_leastOn h0_period h0_amplitude h0_basin h0_numbered h0_kept h0_changed h0_causes h0_rows h0_sorts h0_sizes h0_moved h0_outs h0_losses h0_levelOf h0_levelOften h0_isReached h0_tape h0_told h0_traced s0__isKept s0__done s0__undoable s0__redoable s0__all s0__v s0__loss s0__isOver s0__hasCauses s0__outMany s0__overMany s0__isHalted s0__levelMany s0__rounds s0__stuck s0__onRounds s0__longest s0__loudest s0__reached s0__isAnyOver s0__taped s0__at s0__ran s0_g s0_p s0_to s0_round s0_tail s0_path s0_leastOn s0_period s0_amplitude s0_basin s0_numbered) H := hP
  have hD : va_D A (wm_X9_findsAll cA h0 h0_g h0_p h0_to h0_round h0_tail h0_path h0_leastOn h0_period h0_amplitude h0_basin h0_numbered h0_kept h0_changed h0_causes h0_rows h0_sorts h0_sizes h0_moved h0_outs h0_losses h0_levelOf h0_levelOften h0_isReached h0_tape h0_told h0_traced s0__isKept s0__done s0__undoable s0__redoable s0__all s0__v s0__loss s0__isOver s0__hasCauses s0__outMany s0__overMany s0__isHalted s0__levelMany s0__rounds s0__stuck s0__onRounds s0__longest s0__loudest s0__reached s0__isAnyOver s0__taped s0__at s0__ran s0_g s0_p s0_to s0_round s0_tail s0_path s0_leastOn s0_period s0_amplitude s0_basin s0_numbered) := hD
  refine lv_if_eq (tgt := 11) hx hb dX9_onCycle_4 (by decide) (fun c => ?_) (fun c => ?_)
  · replace hok := g_pos hok c
    refine lv_iconst (v := -1) hx hb dX9_onCycle_11 (by decide) ?_
    obtain ⟨e, hok⟩ := g_pr hok
    try subst e
    obtain ⟨e, hok⟩ := g_pr hok
    try subst e
    obtain ⟨e, hok⟩ := g_pr hok
    try subst e
    obtain ⟨e, hok⟩ := g_pr hok
    try subst e
    obtain ⟨e, hok⟩ := g_pr hok
    try subst e
    obtain ⟨e, hok⟩ := g_pr hok
    try subst e
    obtain ⟨e, hok⟩ := g_pr hok
    try subst e
    obtain ⟨e, hok⟩ := g_pr hok
    try subst e
    obtain ⟨e, hok⟩ := g_pr hok
    try subst e
    obtain ⟨e, hok⟩ := g_pr hok
    try subst e
    obtain ⟨e, hok⟩ := g_pr hok
    try subst e
    obtain ⟨e, hok⟩ := g_pr hok
    try subst e
    obtain ⟨e, hok⟩ := g_pr hok
    try subst e
    obtain ⟨e, hok⟩ := g_pr hok
    try subst e
    obtain ⟨e, hok⟩ := g_pr hok
    try subst e
    obtain ⟨e, hok⟩ := g_pr hok
    try subst e
    obtain ⟨e, hok⟩ := g_pr hok
    try subst e
    obtain ⟨e, hok⟩ := g_pr hok
    try subst e
    obtain ⟨e, hok⟩ := g_pr hok
    try subst e
    cases hok
    exact cr_i hx hb hr hlocks hQ dX9_onCycle_12 hP hS
  replace hok := g_neg hok c
  refine lv_iload_n hx hb dX9_onCycle_7 rfl (lv_at hl 3 rfl) ?_
  refine lv_if_ge (tgt := 13) hx hb dX9_onCycle_8 (by decide) (fun c => ?_) (fun c => ?_)
  · replace hok := g_pos hok c
    refine lv_aload_n hx hb dX9_onCycle_13 rfl (lv_at hl 0 rfl) ?_
    refine lv_iload_n hx hb dX9_onCycle_14 rfl (lv_at hl 1 rfl) ?_
    obtain ⟨o2, o3, o4, o5, o6, o7, o8, o9, o10, o11, o12, o13, o14, o15, o16, o17, o18, o19, o20, hq, hok⟩ := g_bnd19 hok
    refine cG (is := [0, 1, 2, 3, 4, 5, 6, 7, 8, 9, 10, 11]) (wc := (wm_X9_findsAll cA h0 h0_g h0_p h0_to h0_round h0_tail h0_path h0_leastOn h0_period h0_amplitude h0_basin h0_numbered h0_kept h0_changed h0_causes h0_rows h0_sorts h0_sizes h0_moved h0_outs h0_losses h0_levelOf h0_levelOften h0_isReached h0_tape h0_told h0_traced s0__isKept s0__done s0__undoable s0__redoable s0__all s0__v s0__loss s0__isOver s0__hasCauses s0__outMany s0__overMany s0__isHalted s0__levelMany s0__rounds s0__stuck s0__onRounds s0__longest s0__loudest s0__reached s0__isAnyOver s0__taped s0__at s0__ran s0_g s0_p s0_to s0_round s0_tail s0_path s0_leastOn s0_period s0_amplitude s0_basin s0_numbered)) (w1 := (wm_X9_findsAll cA h0 h0_g h0_p h0_to h0_round h0_tail h0_path h0_leastOn h0_period h0_amplitude h0_basin h0_numbered h0_kept h0_changed h0_causes h0_rows h0_sorts h0_sizes h0_moved h0_outs h0_losses h0_levelOf h0_levelOften h0_isReached h0_tape h0_told h0_traced s0__isKept s0__done s0__undoable s0__redoable o2 o3 o4 o5 s0__hasCauses s0__outMany s0__overMany s0__isHalted s0__levelMany o6 o7 o8 o9 o10 s0__reached s0__isAnyOver s0__taped s0__at s0__ran s0_g o11 o12 o13 o14 o15 o16 o17 o18 o19 o20)) (rv := none) (st1 := []) (va_runV (Ts := wsX9_onCycle) (As := [.int x1]) (rest := []) ⟨hx, hb, hml, hown, hts⟩ (c_X9_findsAll l G cA ts h0 h0_g h0_p h0_to h0_round h0_tail h0_path h0_leastOn h0_period h0_amplitude h0_basin h0_numbered h0_kept h0_changed h0_causes h0_rows h0_sorts h0_sizes h0_moved h0_outs h0_losses h0_levelOf h0_levelOften h0_isReached h0_tape h0_told h0_traced x1 s0__isKept s0__done s0__undoable s0__redoable s0__all s0__v s0__loss s0__isOver s0__hasCauses s0__outMany s0__overMany s0__isHalted s0__levelMany s0__rounds s0__stuck s0__onRounds s0__longest s0__loudest s0__reached s0__isAnyOver s0__taped s0__at s0__ran s0_g s0_p s0_to s0_round s0_tail s0_path s0_leastOn s0_period s0_amplitude s0_basin s0_numbered o2 o3 o4 o5 o6 o7 o8 o9 o10 o11 o12 o13 o14 o15 o16 o17 o18 o19 o20 hq H.size) (cwV 1 hts gX9_onCycle_X9_findsAll rfl rfl rfl (by decide +kernel) ⟨Nat.le_of_ble_eq_true rfl, Nat.le_of_ble_eq_true rfl⟩) (pre_V (ci := 9) (q0 := 0) (is := [0, 1, 2, 3, 4, 5, 6, 7, 8, 9, 10, 11]) rfl rfl hP hD hS hA hK hZ (by decide +kernel) (by rfl)) rfl rfl hl.1 rfl (by exact lv_room (Nat.le_of_ble_eq_true rfl)) dX9_onCycle_15 ⟨Nat.le_refl _, Nat.le_refl _⟩) hP hD hS hA (by decide +kernel) (by rfl) (by rfl) rfl (fun H locs hP hD hS => ?_)
    obtain ⟨hP, hD⟩ : va_P G vwCl (wm_X9_findsAll cA h0 h0_g h0_p h0_to h0_round h0_tail h0_path h0_leastOn h0_period h0_amplitude h0_basin h0_numbered h0_kept h0_changed h0_causes h0_rows h0_sorts h0_sizes h0_moved h0_outs h0_losses h0_levelOf h0_levelOften h0_isReached h0_tape h0_told h0_traced s0__isKept s0__done s0__undoable s0__redoable o2 o3 o4 o5 s0__hasCauses s0__outMany s0__overMany s0__isHalted s0__levelMany o6 o7 o8 o9 o10 s0__reached s0__isAnyOver s0__taped s0__at s0__ran s0_g o11 o12 o13 o14 o15 o16 o17 o18 o19 o20) H ∧ va_D A (wm_X9_findsAll cA h0 h0_g h0_p h0_to h0_round h0_tail h0_path h0_leastOn h0_period h0_amplitude h0_basin h0_numbered h0_kept h0_changed h0_causes h0_rows h0_sorts h0_sizes h0_moved h0_outs h0_losses h0_levelOf h0_levelOften h0_isReached h0_tape h0_told h0_traced s0__isKept s0__done s0__undoable s0__redoable o2 o3 o4 o5 s0__hasCauses s0__outMany s0__overMany s0__isHalted s0__levelMany o6 o7 o8 o9 o10 s0__reached s0__isAnyOver s0__taped s0__at s0__ran s0_g o11 o12 o13 o14 o15 o16 o17 o18 o19 o20) := PD_eq hP hD (rp_eq (js := []) 12 (by decide +kernel) rfl rfl (by rfl) (by rfl) (by decide +kernel))
    refine lv_iload_n hx hb dX9_onCycle_18 rfl (lv_at hl 2 rfl) ?_
    refine lv_i2l (v := (x2.toInt64)) hx hb dX9_onCycle_19 rfl ?_
    refine lv_lconst (v := 0) hx hb dX9_onCycle_20 (by decide) ?_
    refine lv_aload_n hx hb dX9_onCycle_21 rfl (lv_at hl 0 rfl) ?_
    refine va_get (ci := 9) (v := .int o6) (C := RX9) (T := TX9) (N := 49) hx hb hts hinX9 hown hK hP 0 rfl rfl 35 (by decide) (hts _ (List.mem_of_getElem? (i := 1) rfl)) (fun _ h9 => h9) rfl dX9_onCycle_22 ?_
    refine lv_iconst (v := 1) hx hb dX9_onCycle_25 (by decide) ?_
    refine lv_isub hx hb dX9_onCycle_26 ?_
    refine lv_i2l (v := ((o6 - (1:Int32)).toInt64)) hx hb dX9_onCycle_27 rfl ?_
    obtain ⟨r21, hq, hok⟩ := g_bnd1 hok
    refine cG (is := []) (wc := (wm_X0_find cA)) (w1 := (wm_X0_find cA)) (rv := (some (.int r21))) (st1 := [.int r21]) (va_runS (Ts := wsX9_onCycle) (As := [.long (x2.toInt64), .long (0:Int64), .long ((o6 - (1:Int32)).toInt64)]) (rest := []) ⟨hx, hb, hml, hown, hts⟩ (c_X9_in l G cA ts (x2.toInt64) (0:Int64) ((o6 - (1:Int32)).toInt64) r21 hq H.size) (va_cwS 3 hts gX9_onCycle_X9_in rfl rfl rfl (by decide +kernel) ⟨Nat.le_of_ble_eq_true rfl, Nat.le_of_ble_eq_true rfl⟩) (pre_S (is := []) hP hD hS hA hK hZ (by decide +kernel) (by rfl)) rfl rfl hl.1 rfl (by exact lv_room (Nat.le_of_ble_eq_true rfl)) dX9_onCycle_28 ⟨Nat.le_refl _, Nat.le_refl _⟩) hP hD hS hA (by decide +kernel) (by rfl) (by rfl) rfl (fun H locs hP hD hS => ?_)
    have hP : va_P G vwCl (wm_X9_findsAll cA h0 h0_g h0_p h0_to h0_round h0_tail h0_path h0_leastOn h0_period h0_amplitude h0_basin h0_numbered h0_kept h0_changed h0_causes h0_rows h0_sorts h0_sizes h0_moved h0_outs h0_losses h0_levelOf h0_levelOften h0_isReached h0_tape h0_told h0_traced s0__isKept s0__done s0__undoable s0__redoable o2 o3 o4 o5 s0__hasCauses s0__outMany s0__overMany s0__isHalted s0__levelMany o6 o7 o8 o9 o10 s0__reached s0__isAnyOver s0__taped s0__at s0__ran s0_g o11 o12 o13 o14 o15 o16 o17 o18 o19 o20) H := hP
    have hD : va_D A (wm_X9_findsAll cA h0 h0_g h0_p h0_to h0_round h0_tail h0_path h0_leastOn h0_period h0_amplitude h0_basin h0_numbered h0_kept h0_changed h0_causes h0_rows h0_sorts h0_sizes h0_moved h0_outs h0_losses h0_levelOf h0_levelOften h0_isReached h0_tape h0_told h0_traced s0__isKept s0__done s0__undoable s0__redoable o2 o3 o4 o5 s0__hasCauses s0__outMany s0__overMany s0__isHalted s0__levelMany o6 o7 o8 o9 o10 s0__reached s0__isAnyOver s0__taped s0__at s0__ran s0_g o11 o12 o13 o14 o15 o16 o17 o18 o19 o20) := hD
    refine lv_if_ne (tgt := 37) hx hb dX9_onCycle_31 (by decide) (fun c => ?_) (fun c => ?_)
    · replace hok := g_neg hok c
      refine lv_aload_n hx hb dX9_onCycle_37 rfl (lv_at hl 0 rfl) ?_
      refine va_get (ci := 9) (v := .ref h0_leastOn) (C := RX9) (T := TX9) (N := 49) hx hb hts hinX9 hown hK hP 0 rfl rfl 30 (by decide) (hts _ (List.mem_of_getElem? (i := 2) rfl)) (fun _ h9 => h9) rfl dX9_onCycle_38 ?_
      refine lv_aload_n hx hb dX9_onCycle_41 rfl (lv_at hl 0 rfl) ?_
      refine va_get (ci := 9) (v := .ref h0_numbered) (C := RX9) (T := TX9) (N := 49) hx hb hts hinX9 hown hK hP 0 rfl rfl 34 (by decide) (hts _ (List.mem_of_getElem? (i := 3) rfl)) (fun _ h9 => h9) rfl dX9_onCycle_42 ?_
      refine lv_iload_n hx hb dX9_onCycle_45 rfl (lv_at hl 2 rfl) ?_
      obtain ⟨hin, hok⟩ := g_no hok
      refine x_iald (k := x2.toNatClampNeg) hx hb hK hP 11 0 rfl rfl hin rfl dX9_onCycle_46 ?_
      obtain ⟨hin, hok⟩ := g_no hok
      refine x_iald (k := (o20 x2.toNatClampNeg).toNatClampNeg) hx hb hK hP 7 0 rfl rfl hin rfl dX9_onCycle_47 ?_
      refine lv_istore (lv' := [(4, .int (o16 (o20 x2.toNatClampNeg).toNatClampNeg)), (0, .ref h0), (1, .int x1), (2, .int x2), (3, .int x3)]) hx hb dX9_onCycle_48 hl (by decide) rfl (fun ls hl => ?_)
      refine lv_iload_n hx hb dX9_onCycle_50 rfl (lv_at hl 4 rfl) ?_
      refine lv_aload_n hx hb dX9_onCycle_51 rfl (lv_at hl 1 rfl) ?_
      refine va_get (ci := 9) (v := .ref h0_period) (C := RX9) (T := TX9) (N := 49) hx hb hts hinX9 hown hK hP 0 rfl rfl 31 (by decide) (hts _ (List.mem_of_getElem? (i := 4) rfl)) (fun _ h9 => h9) rfl dX9_onCycle_52 ?_
      refine lv_aload_n hx hb dX9_onCycle_55 rfl (lv_at hl 1 rfl) ?_
      refine va_get (ci := 9) (v := .ref h0_numbered) (C := RX9) (T := TX9) (N := 49) hx hb hts hinX9 hown hK hP 0 rfl rfl 34 (by decide) (hts _ (List.mem_of_getElem? (i := 3) rfl)) (fun _ h9 => h9) rfl dX9_onCycle_56 ?_
      refine lv_iload_n hx hb dX9_onCycle_59 rfl (lv_at hl 3 rfl) ?_
      obtain ⟨hin, hok⟩ := g_no hok
      refine x_iald (k := x2.toNatClampNeg) hx hb hK hP 11 0 rfl rfl hin rfl dX9_onCycle_60 ?_
      obtain ⟨hin, hok⟩ := g_no hok
      refine x_iald (k := (o20 x2.toNatClampNeg).toNatClampNeg) hx hb hK hP 8 0 rfl rfl hin rfl dX9_onCycle_61 ?_
      obtain ⟨hin, hok⟩ := g_no hok
      refine lv_irem hx hb dX9_onCycle_62 hin ?_
      refine lv_istore (lv' := [(5, .int (x3 - x3 / (o17 (o20 x2.toNatClampNeg).toNatClampNeg) * (o17 (o20 x2.toNatClampNeg).toNatClampNeg))), (4, .int (o16 (o20 x2.toNatClampNeg).toNatClampNeg)), (0, .ref h0), (1, .int x1), (2, .int x2), (3, .int x3)]) hx hb dX9_onCycle_63 hl (by decide) rfl (fun ls hl => ?_)
      obtain ⟨o22, hq, hok⟩ := g_bnd1 hok
      refine L_65 FUEL (o16 (o20 x2.toNatClampNeg).toNatClampNeg) (x3 - x3 / (o17 (o20 x2.toNatClampNeg).toNatClampNeg) * (o17 (o20 x2.toNatClampNeg).toNatClampNeg)) o2 o3 o4 o5 o6 o7 o8 o9 o10 o11 o12 o13 o14 o15 o16 o17 o18 o19 o20 o22 _ _ _ hP hD hS (lv_sub hl [2, 1, 0] rfl) hq (fun H locs ls hP hD hS hl => ?_)
      refine lv_iload hx hb dX9_onCycle_85 (lv_at hl 0 rfl) ?_
      obtain ⟨e, hok⟩ := g_pr hok
      try subst e
      obtain ⟨e, hok⟩ := g_pr hok
      try subst e
      obtain ⟨e, hok⟩ := g_pr hok
      try subst e
      obtain ⟨e, hok⟩ := g_pr hok
      try subst e
      obtain ⟨e, hok⟩ := g_pr hok
      try subst e
      obtain ⟨e, hok⟩ := g_pr hok
      try subst e
      obtain ⟨e, hok⟩ := g_pr hok
      try subst e
      obtain ⟨e, hok⟩ := g_pr hok
      try subst e
      obtain ⟨e, hok⟩ := g_pr hok
      try subst e
      obtain ⟨e, hok⟩ := g_pr hok
      try subst e
      obtain ⟨e, hok⟩ := g_pr hok
      try subst e
      obtain ⟨e, hok⟩ := g_pr hok
      try subst e
      obtain ⟨e, hok⟩ := g_pr hok
      try subst e
      obtain ⟨e, hok⟩ := g_pr hok
      try subst e
      obtain ⟨e, hok⟩ := g_pr hok
      try subst e
      obtain ⟨e, hok⟩ := g_pr hok
      try subst e
      obtain ⟨e, hok⟩ := g_pr hok
      try subst e
      obtain ⟨e, hok⟩ := g_pr hok
      try subst e
      obtain ⟨e, hok⟩ := g_pr hok
      try subst e
      cases hok
      exact cr_i hx hb hr hlocks hQ dX9_onCycle_87 hP hS
    replace hok := g_pos hok c
    refine lv_bipush (v := -2) hx hb dX9_onCycle_34 (by decide) ?_
    obtain ⟨e, hok⟩ := g_pr hok
    try subst e
    obtain ⟨e, hok⟩ := g_pr hok
    try subst e
    obtain ⟨e, hok⟩ := g_pr hok
    try subst e
    obtain ⟨e, hok⟩ := g_pr hok
    try subst e
    obtain ⟨e, hok⟩ := g_pr hok
    try subst e
    obtain ⟨e, hok⟩ := g_pr hok
    try subst e
    obtain ⟨e, hok⟩ := g_pr hok
    try subst e
    obtain ⟨e, hok⟩ := g_pr hok
    try subst e
    obtain ⟨e, hok⟩ := g_pr hok
    try subst e
    obtain ⟨e, hok⟩ := g_pr hok
    try subst e
    obtain ⟨e, hok⟩ := g_pr hok
    try subst e
    obtain ⟨e, hok⟩ := g_pr hok
    try subst e
    obtain ⟨e, hok⟩ := g_pr hok
    try subst e
    obtain ⟨e, hok⟩ := g_pr hok
    try subst e
    obtain ⟨e, hok⟩ := g_pr hok
    try subst e
    obtain ⟨e, hok⟩ := g_pr hok
    try subst e
    obtain ⟨e, hok⟩ := g_pr hok
    try subst e
    obtain ⟨e, hok⟩ := g_pr hok
    try subst e
    obtain ⟨e, hok⟩ := g_pr hok
    try subst e
    cases hok
    exact cr_i hx hb hr hlocks hQ dX9_onCycle_36 hP hS
  replace hok := g_neg hok c
  refine lv_iconst (v := -1) hx hb dX9_onCycle_11 (by decide) ?_
  obtain ⟨e, hok⟩ := g_pr hok
  try subst e
  obtain ⟨e, hok⟩ := g_pr hok
  try subst e
  obtain ⟨e, hok⟩ := g_pr hok
  try subst e
  obtain ⟨e, hok⟩ := g_pr hok
  try subst e
  obtain ⟨e, hok⟩ := g_pr hok
  try subst e
  obtain ⟨e, hok⟩ := g_pr hok
  try subst e
  obtain ⟨e, hok⟩ := g_pr hok
  try subst e
  obtain ⟨e, hok⟩ := g_pr hok
  try subst e
  obtain ⟨e, hok⟩ := g_pr hok
  try subst e
  obtain ⟨e, hok⟩ := g_pr hok
  try subst e
  obtain ⟨e, hok⟩ := g_pr hok
  try subst e
  obtain ⟨e, hok⟩ := g_pr hok
  try subst e
  obtain ⟨e, hok⟩ := g_pr hok
  try subst e
  obtain ⟨e, hok⟩ := g_pr hok
  try subst e
  obtain ⟨e, hok⟩ := g_pr hok
  try subst e
  obtain ⟨e, hok⟩ := g_pr hok
  try subst e
  obtain ⟨e, hok⟩ := g_pr hok
  try subst e
  obtain ⟨e, hok⟩ := g_pr hok
  try subst e
  obtain ⟨e, hok⟩ := g_pr hok
  try subst e
  cases hok
  exact cr_i hx hb hr hlocks hQ dX9_onCycle_12 hP hS
set_option maxHeartbeats 40000000 in
set_option maxRecDepth 100000 in
theorem c_X9_reaches (l : Launch) (G : va_G) (cA : Nat → ClassId) (ts : Nat → Nat) (h0 : Nat) (h0_g : Nat) (h0_p : Nat) (h0_path : Nat) (h0_isReached : Nat) (h0_kept : Nat) (h0_changed : Nat) (h0_causes : Nat) (h0_rows : Nat) (h0_sorts : Nat) (h0_sizes : Nat) (h0_moved : Nat) (h0_outs : Nat) (h0_losses : Nat) (h0_levelOf : Nat) (h0_levelOften : Nat) (h0_to : Nat) (h0_round : Nat) (h0_tail : Nat) (h0_leastOn : Nat) (h0_period : Nat) (h0_amplitude : Nat) (h0_basin : Nat) (h0_numbered : Nat) (h0_tape : Nat) (h0_told : Nat) (h0_traced : Nat) (x1 : Int32) (s0__isKept : Int32) (s0__done : Int32) (s0__undoable : Int32) (s0__redoable : Int32) (s0__all : Int32) (s0__v : Int32) (s0__loss : Int32) (s0__isOver : Int32) (s0__hasCauses : Int32) (s0__outMany : Int32) (s0__overMany : Int32) (s0__isHalted : Int32) (s0__levelMany : Int32) (s0__rounds : Int32) (s0__stuck : Int32) (s0__onRounds : Int32) (s0__longest : Int32) (s0__loudest : Int32) (s0__reached : Int32) (s0__isAnyOver : Int32) (s0__taped : Int32) (s0__at : Int32) (s0__ran : Int32) (s0_g : Nat → Int32) (s0_p : Nat → Int32) (s0_path : Nat → Int32) (s0_isReached : Nat → Int32) (o0__all : Int32) (o0__v : Int32) (o0__loss : Int32) (o0__isOver : Int32) (o0__reached : Int32) (o0__isAnyOver : Int32) (o0_p : Nat → Int32) (o0_path : Nat → Int32) (o0_isReached : Nat → Int32) (hok : fX9_reaches x1 s0__all s0__v s0__loss s0__isOver s0__reached s0__isAnyOver s0_g s0_p s0_path s0_isReached = some (o0__all, o0__v, o0__loss, o0__isOver, o0__reached, o0__isAnyOver, o0_p, o0_path, o0_isReached)) : Ct l G cA ts yX9_reaches wsX9_reaches 5 133 [.ref h0, .int x1] (wm_X9_reaches cA h0 h0_g h0_p h0_path h0_isReached h0_kept h0_changed h0_causes h0_rows h0_sorts h0_sizes h0_moved h0_outs h0_losses h0_levelOf h0_levelOften h0_to h0_round h0_tail h0_leastOn h0_period h0_amplitude h0_basin h0_numbered h0_tape h0_told h0_traced s0__isKept s0__done s0__undoable s0__redoable s0__all s0__v s0__loss s0__isOver s0__hasCauses s0__outMany s0__overMany s0__isHalted s0__levelMany s0__rounds s0__stuck s0__onRounds s0__longest s0__loudest s0__reached s0__isAnyOver s0__taped s0__at s0__ran s0_g s0_p s0_path s0_isReached) (wm_X9_reaches cA h0 h0_g h0_p h0_path h0_isReached h0_kept h0_changed h0_causes h0_rows h0_sorts h0_sizes h0_moved h0_outs h0_losses h0_levelOf h0_levelOften h0_to h0_round h0_tail h0_leastOn h0_period h0_amplitude h0_basin h0_numbered h0_tape h0_told h0_traced s0__isKept s0__done s0__undoable s0__redoable o0__all o0__v o0__loss o0__isOver s0__hasCauses s0__outMany s0__overMany s0__isHalted s0__levelMany s0__rounds s0__stuck s0__onRounds s0__longest s0__loudest o0__reached o0__isAnyOver s0__taped s0__at s0__ran s0_g o0_p o0_path o0_isReached) none := by
  refine Ct.intro (cc := cX9_reaches) (maxL := 5) (ret := none) (by decide +kernel) rfl (Nat.le_of_ble_eq_true rfl) ?_
  intro p e s m ar below meth c A Q hx hb hr hml hown hlocks hts hK hZ hA hQ hP hD hS ls hl
  have hown : s.vm.findClass RX9 = some m.cls := hown
  have hinX9 : ∀ w ∈ wsX90, w ∈ wsX9_reaches := fun _ h => List.mem_cons_of_mem _ (List.mem_append_right _ (h))
  have hl : lv_has ls 5 [(0, .ref h0), (1, .int x1)] := hl
  have hP : va_P G vwCl (wm_X9_reaches cA h0 h0_g h0_p h0_path h0_isReached h0_kept h0_changed h0_causes h0_rows h0_sorts h0_sizes h0_moved h0_outs h0_losses h0_levelOf h0_levelOften h0_to h0_round h0_tail h0_leastOn h0_period h0_amplitude h0_basin h0_numbered h0_tape h0_told h0_traced s0__isKept s0__done s0__undoable s0__redoable s0__all s0__v s0__loss s0__isOver s0__hasCauses s0__outMany s0__overMany s0__isHalted s0__levelMany s0__rounds s0__stuck s0__onRounds s0__longest s0__loudest s0__reached s0__isAnyOver s0__taped s0__at s0__ran s0_g s0_p s0_path s0_isReached) s.heap := hP
  have hD : va_D A (wm_X9_reaches cA h0 h0_g h0_p h0_path h0_isReached h0_kept h0_changed h0_causes h0_rows h0_sorts h0_sizes h0_moved h0_outs h0_losses h0_levelOf h0_levelOften h0_to h0_round h0_tail h0_leastOn h0_period h0_amplitude h0_basin h0_numbered h0_tape h0_told h0_traced s0__isKept s0__done s0__undoable s0__redoable s0__all s0__v s0__loss s0__isOver s0__hasCauses s0__outMany s0__overMany s0__isHalted s0__levelMany s0__rounds s0__stuck s0__onRounds s0__longest s0__loudest s0__reached s0__isAnyOver s0__taped s0__at s0__ran s0_g s0_p s0_path s0_isReached) := hD
  have L_2 : ∀ (n : Nat) (y2 : Int32) (c0__all : Int32) (c0__v : Int32) (c0__loss : Int32) (c0__isOver : Int32) (c0__reached : Int32) (c0__isAnyOver : Int32) (c0_p : Nat → Int32) (c0_path : Nat → Int32) (c0_isReached : Nat → Int32) (p0_0 : Nat → Int32) (H : Heap) (locs : List Loc) (ls : Array Slot), va_P G vwCl (wm_X9_reaches cA h0 h0_g h0_p h0_path h0_isReached h0_kept h0_changed h0_causes h0_rows h0_sorts h0_sizes h0_moved h0_outs h0_losses h0_levelOf h0_levelOften h0_to h0_round h0_tail h0_leastOn h0_period h0_amplitude h0_basin h0_numbered h0_tape h0_told h0_traced s0__isKept s0__done s0__undoable s0__redoable c0__all c0__v c0__loss c0__isOver s0__hasCauses s0__outMany s0__overMany s0__isHalted s0__levelMany s0__rounds s0__stuck s0__onRounds s0__longest s0__loudest c0__reached c0__isAnyOver s0__taped s0__at s0__ran s0_g c0_p c0_path c0_isReached) H → va_D A (wm_X9_reaches cA h0 h0_g h0_p h0_path h0_isReached h0_kept h0_changed h0_causes h0_rows h0_sorts h0_sizes h0_moved h0_outs h0_losses h0_levelOf h0_levelOften h0_to h0_round h0_tail h0_leastOn h0_period h0_amplitude h0_basin h0_numbered h0_tape h0_told h0_traced s0__isKept s0__done s0__undoable s0__redoable c0__all c0__v c0__loss c0__isOver s0__hasCauses s0__outMany s0__overMany s0__isHalted s0__levelMany s0__rounds s0__stuck s0__onRounds s0__longest s0__loudest c0__reached c0__isAnyOver s0__taped s0__at s0__ran s0_g c0_p c0_path c0_isReached) → va_S A s.heap H locs → lv_has ls 5 [(0, .ref h0), (1, .int x1), (2, .int y2)] → fX9_reaches_L2 x1 s0_g n y2 c0__all c0__v c0__loss c0__isOver c0__reached c0__isAnyOver c0_p c0_path c0_isReached = some p0_0 → (∀ (H : Heap) (locs : List Loc) (ls : Array Slot), va_P G vwCl (wm_X9_reaches cA h0 h0_g h0_p h0_path h0_isReached h0_kept h0_changed h0_causes h0_rows h0_sorts h0_sizes h0_moved h0_outs h0_losses h0_levelOf h0_levelOften h0_to h0_round h0_tail h0_leastOn h0_period h0_amplitude h0_basin h0_numbered h0_tape h0_told h0_traced s0__isKept s0__done s0__undoable s0__redoable c0__all c0__v c0__loss c0__isOver s0__hasCauses s0__outMany s0__overMany s0__isHalted s0__levelMany s0__rounds s0__stuck s0__onRounds s0__longest s0__loudest c0__reached c0__isAnyOver s0__taped s0__at s0__ran s0_g c0_p c0_path p0_0) H → va_D A (wm_X9_reaches cA h0 h0_g h0_p h0_path h0_isReached h0_kept h0_changed h0_causes h0_rows h0_sorts h0_sizes h0_moved h0_outs h0_losses h0_levelOf h0_levelOften h0_to h0_round h0_tail h0_leastOn h0_period h0_amplitude h0_basin h0_numbered h0_tape h0_told h0_traced s0__isKept s0__done s0__undoable s0__redoable c0__all c0__v c0__loss c0__isOver s0__hasCauses s0__outMany s0__overMany s0__isHalted s0__levelMany s0__rounds s0__stuck s0__onRounds s0__longest s0__loudest c0__reached c0__isAnyOver s0__taped s0__at s0__ran s0_g c0_p c0_path p0_0) → va_S A s.heap H locs → lv_has ls 5 [(0, .ref h0), (1, .int x1)] → W p l e (rmX 5 133) s m ar below meth c H locs 0 0 Q (F0 m 22 ls [])) → W p l e (rmX 5 133) s m ar below meth c H locs 0 0 Q (F0 m 2 ls []) := by
    intro n
    induction n with
    | zero =>
      intro y2 c0__all c0__v c0__loss c0__isOver c0__reached c0__isAnyOver c0_p c0_path c0_isReached p0_0 H locs ls hP hD hS hl hok
      rw [fX9_reaches_L2] at hok
      cases hok
    | succ n ih =>
      intro y2 c0__all c0__v c0__loss c0__isOver c0__reached c0__isAnyOver c0_p c0_path c0_isReached p0_0 H locs ls hP hD hS hl hok K
      rw [fX9_reaches_L2] at hok
      refine lv_iload_n hx hb dX9_reaches_2 rfl (lv_at hl 2 rfl) ?_
      refine lv_sipush (v := 1024) hx hb dX9_reaches_3 (by decide) ?_
      refine lv_icmp_ge (tgt := 22) hx hb dX9_reaches_6 (by decide) (fun c => ?_) (fun c => ?_)
      · replace hok := g_pos hok c
        cases hok
        exact K _ _ _ hP hD hS (lv_sub hl [0, 1] rfl)
      replace hok := g_neg hok c
      refine lv_aload_n hx hb dX9_reaches_9 rfl (lv_at hl 0 rfl) ?_
      refine va_get (ci := 9) (v := .ref h0_isReached) (C := RX9) (T := TX9) (N := 49) hx hb hts hinX9 hown hK hP 0 rfl rfl 40 (by decide) (hts _ (List.mem_of_getElem? (i := 1) rfl)) (fun _ h9 => h9) rfl dX9_reaches_10 ?_
      refine lv_iload_n hx hb dX9_reaches_13 rfl (lv_at hl 2 rfl) ?_
      refine lv_iconst (v := 0) hx hb dX9_reaches_14 (by decide) ?_
      obtain ⟨hin, hok⟩ := g_no hok
      refine x_zast (k := y2.toNatClampNeg) hx hb hK hP hD hS 4 3 rfl rfl hin rfl dX9_reaches_15 (fun H locs hP hD hS => ?_)
      have hP : va_P G vwCl (wm_X9_reaches cA h0 h0_g h0_p h0_path h0_isReached h0_kept h0_changed h0_causes h0_rows h0_sorts h0_sizes h0_moved h0_outs h0_losses h0_levelOf h0_levelOften h0_to h0_round h0_tail h0_leastOn h0_period h0_amplitude h0_basin h0_numbered h0_tape h0_told h0_traced s0__isKept s0__done s0__undoable s0__redoable c0__all c0__v c0__loss c0__isOver s0__hasCauses s0__outMany s0__overMany s0__isHalted s0__levelMany s0__rounds s0__stuck s0__onRounds s0__longest s0__loudest c0__reached c0__isAnyOver s0__taped s0__at s0__ran s0_g c0_p c0_path (upd c0_isReached y2.toNatClampNeg (vp_nar .boolean (0:Int32)))) H := hP
      have hD : va_D A (wm_X9_reaches cA h0 h0_g h0_p h0_path h0_isReached h0_kept h0_changed h0_causes h0_rows h0_sorts h0_sizes h0_moved h0_outs h0_losses h0_levelOf h0_levelOften h0_to h0_round h0_tail h0_leastOn h0_period h0_amplitude h0_basin h0_numbered h0_tape h0_told h0_traced s0__isKept s0__done s0__undoable s0__redoable c0__all c0__v c0__loss c0__isOver s0__hasCauses s0__outMany s0__overMany s0__isHalted s0__levelMany s0__rounds s0__stuck s0__onRounds s0__longest s0__loudest c0__reached c0__isAnyOver s0__taped s0__at s0__ran s0_g c0_p c0_path (upd c0_isReached y2.toNatClampNeg (vp_nar .boolean (0:Int32)))) := hD
      refine lv_iinc (v := (y2 + 1)) (lv' := [(2, .int (y2 + 1)), (0, .ref h0), (1, .int x1)]) hx hb dX9_reaches_16 hl (k := 2) rfl rfl (by decide) rfl (fun ls hl => ?_)
      refine lv_goto (tgt := 2) hx hb dX9_reaches_19 (by decide) ?_
      exact ih (y2 + 1) c0__all c0__v c0__loss c0__isOver c0__reached c0__isAnyOver c0_p c0_path (upd c0_isReached y2.toNatClampNeg (vp_nar .boolean (0:Int32))) p0_0 _ _ _ hP hD hS (lv_sub hl [1, 2, 0] rfl) hok K
  have L_88 : ∀ (n : Nat) (y2 : Int32) (y3 : Int32) (c0__all : Int32) (c0__v : Int32) (c0__loss : Int32) (c0__isOver : Int32) (c0__reached : Int32) (c0__isAnyOver : Int32) (c0_p : Nat → Int32) (c0_path : Nat → Int32) (c0_isReached : Nat → Int32) (p0_0 : Int32) (p0_1 : Int32) (p0_2 : Int32) (p0_3 : Int32) (p0_4 : Int32) (p0_5 : Int32) (p0_6 : Nat → Int32) (p0_7 : Nat → Int32) (p0_8 : Nat → Int32) (H : Heap) (locs : List Loc) (ls : Array Slot), va_P G vwCl (wm_X9_reaches cA h0 h0_g h0_p h0_path h0_isReached h0_kept h0_changed h0_causes h0_rows h0_sorts h0_sizes h0_moved h0_outs h0_losses h0_levelOf h0_levelOften h0_to h0_round h0_tail h0_leastOn h0_period h0_amplitude h0_basin h0_numbered h0_tape h0_told h0_traced s0__isKept s0__done s0__undoable s0__redoable c0__all c0__v c0__loss c0__isOver s0__hasCauses s0__outMany s0__overMany s0__isHalted s0__levelMany s0__rounds s0__stuck s0__onRounds s0__longest s0__loudest c0__reached c0__isAnyOver s0__taped s0__at s0__ran s0_g c0_p c0_path c0_isReached) H → va_D A (wm_X9_reaches cA h0 h0_g h0_p h0_path h0_isReached h0_kept h0_changed h0_causes h0_rows h0_sorts h0_sizes h0_moved h0_outs h0_losses h0_levelOf h0_levelOften h0_to h0_round h0_tail h0_leastOn h0_period h0_amplitude h0_basin h0_numbered h0_tape h0_told h0_traced s0__isKept s0__done s0__undoable s0__redoable c0__all c0__v c0__loss c0__isOver s0__hasCauses s0__outMany s0__overMany s0__isHalted s0__levelMany s0__rounds s0__stuck s0__onRounds s0__longest s0__loudest c0__reached c0__isAnyOver s0__taped s0__at s0__ran s0_g c0_p c0_path c0_isReached) → va_S A s.heap H locs → lv_has ls 5 [(0, .ref h0), (1, .int x1), (2, .int y2), (3, .int y3)] → fX9_reaches_L88 x1 s0_g n y2 y3 c0__all c0__v c0__loss c0__isOver c0__reached c0__isAnyOver c0_p c0_path c0_isReached = some (p0_0, p0_1, p0_2, p0_3, p0_4, p0_5, p0_6, p0_7, p0_8) → (∀ (H : Heap) (locs : List Loc) (ls : Array Slot), va_P G vwCl (wm_X9_reaches cA h0 h0_g h0_p h0_path h0_isReached h0_kept h0_changed h0_causes h0_rows h0_sorts h0_sizes h0_moved h0_outs h0_losses h0_levelOf h0_levelOften h0_to h0_round h0_tail h0_leastOn h0_period h0_amplitude h0_basin h0_numbered h0_tape h0_told h0_traced s0__isKept s0__done s0__undoable s0__redoable p0_0 p0_1 p0_2 p0_3 s0__hasCauses s0__outMany s0__overMany s0__isHalted s0__levelMany s0__rounds s0__stuck s0__onRounds s0__longest s0__loudest p0_4 p0_5 s0__taped s0__at s0__ran s0_g p0_6 p0_7 p0_8) H → va_D A (wm_X9_reaches cA h0 h0_g h0_p h0_path h0_isReached h0_kept h0_changed h0_causes h0_rows h0_sorts h0_sizes h0_moved h0_outs h0_losses h0_levelOf h0_levelOften h0_to h0_round h0_tail h0_leastOn h0_period h0_amplitude h0_basin h0_numbered h0_tape h0_told h0_traced s0__isKept s0__done s0__undoable s0__redoable p0_0 p0_1 p0_2 p0_3 s0__hasCauses s0__outMany s0__overMany s0__isHalted s0__levelMany s0__rounds s0__stuck s0__onRounds s0__longest s0__loudest p0_4 p0_5 s0__taped s0__at s0__ran s0_g p0_6 p0_7 p0_8) → va_S A s.heap H locs → lv_has ls 5 [(0, .ref h0), (1, .int x1), (2, .int y2)] → W p l e (rmX 5 133) s m ar below meth c H locs 0 0 Q (F0 m 169 ls [])) → W p l e (rmX 5 133) s m ar below meth c H locs 0 0 Q (F0 m 88 ls []) := by
    intro n
    induction n with
    | zero =>
      intro y2 y3 c0__all c0__v c0__loss c0__isOver c0__reached c0__isAnyOver c0_p c0_path c0_isReached p0_0 p0_1 p0_2 p0_3 p0_4 p0_5 p0_6 p0_7 p0_8 H locs ls hP hD hS hl hok
      rw [fX9_reaches_L88] at hok
      cases hok
    | succ n ih =>
      intro y2 y3 c0__all c0__v c0__loss c0__isOver c0__reached c0__isAnyOver c0_p c0_path c0_isReached p0_0 p0_1 p0_2 p0_3 p0_4 p0_5 p0_6 p0_7 p0_8 H locs ls hP hD hS hl hok K
      rw [fX9_reaches_L88] at hok
      refine lv_iload_n hx hb dX9_reaches_88 rfl (lv_at hl 3 rfl) ?_
      refine lv_iload_n hx hb dX9_reaches_89 rfl (lv_at hl 1 rfl) ?_
      refine lv_icmp_gt (tgt := 169) hx hb dX9_reaches_90 (by decide) (fun c => ?_) (fun c => ?_)
      · replace hok := g_pos hok c
        cases hok
        exact K _ _ _ hP hD hS (lv_sub hl [0, 1, 2] rfl)
      replace hok := g_neg hok c
      refine lv_aload_n hx hb dX9_reaches_93 rfl (lv_at hl 0 rfl) ?_
      refine lv_aload_n hx hb dX9_reaches_94 rfl (lv_at hl 0 rfl) ?_
      refine va_get (ci := 9) (v := .ref h0_path) (C := RX9) (T := TX9) (N := 49) hx hb hts hinX9 hown hK hP 0 rfl rfl 29 (by decide) (hts _ (List.mem_of_getElem? (i := 3) rfl)) (fun _ h9 => h9) rfl dX9_reaches_95 ?_
      refine lv_iload_n hx hb dX9_reaches_98 rfl (lv_at hl 2 rfl) ?_
      obtain ⟨hin, hok⟩ := g_no hok
      refine x_iald (k := y2.toNatClampNeg) hx hb hK hP 3 0 rfl rfl hin rfl dX9_reaches_99 ?_
      refine lv_iload_n hx hb dX9_reaches_100 rfl (lv_at hl 3 rfl) ?_
      obtain ⟨r3, o4, o5, o6, o7, o8, hq, hok⟩ := g_bnd6 hok
      refine cG (is := [0, 1, 2]) (wc := (wm_X9_begins cA h0 h0_g h0_p h0_kept h0_changed h0_causes h0_rows h0_sorts h0_sizes h0_moved h0_outs h0_losses h0_levelOf h0_levelOften h0_to h0_round h0_tail h0_path h0_leastOn h0_period h0_amplitude h0_basin h0_numbered h0_isReached h0_tape h0_told h0_traced s0__isKept s0__done s0__undoable s0__redoable c0__all c0__v c0__loss c0__isOver s0__hasCauses s0__outMany s0__overMany s0__isHalted s0__levelMany s0__rounds s0__stuck s0__onRounds s0__longest s0__loudest c0__reached c0__isAnyOver s0__taped s0__at s0__ran s0_g c0_p)) (w1 := (wm_X9_begins cA h0 h0_g h0_p h0_kept h0_changed h0_causes h0_rows h0_sorts h0_sizes h0_moved h0_outs h0_losses h0_levelOf h0_levelOften h0_to h0_round h0_tail h0_path h0_leastOn h0_period h0_amplitude h0_basin h0_numbered h0_isReached h0_tape h0_told h0_traced s0__isKept s0__done s0__undoable s0__redoable o4 o5 o6 o7 s0__hasCauses s0__outMany s0__overMany s0__isHalted s0__levelMany s0__rounds s0__stuck s0__onRounds s0__longest s0__loudest c0__reached c0__isAnyOver s0__taped s0__at s0__ran s0_g o8)) (rv := (some (.int r3))) (st1 := [.int r3]) (va_runV (Ts := wsX9_reaches) (As := [.int (c0_path y2.toNatClampNeg), .int y3]) (rest := []) ⟨hx, hb, hml, hown, hts⟩ (c_X9_behind l G cA ts h0 h0_g h0_p h0_kept h0_changed h0_causes h0_rows h0_sorts h0_sizes h0_moved h0_outs h0_losses h0_levelOf h0_levelOften h0_to h0_round h0_tail h0_path h0_leastOn h0_period h0_amplitude h0_basin h0_numbered h0_isReached h0_tape h0_told h0_traced (c0_path y2.toNatClampNeg) y3 s0__isKept s0__done s0__undoable s0__redoable c0__all c0__v c0__loss c0__isOver s0__hasCauses s0__outMany s0__overMany s0__isHalted s0__levelMany s0__rounds s0__stuck s0__onRounds s0__longest s0__loudest c0__reached c0__isAnyOver s0__taped s0__at s0__ran s0_g c0_p r3 o4 o5 o6 o7 o8 hq H.size) (cwV 2 hts gX9_reaches_X9_behind rfl rfl rfl (by decide +kernel) ⟨Nat.le_of_ble_eq_true rfl, Nat.le_of_ble_eq_true rfl⟩) (pre_V (ci := 9) (q0 := 0) (is := [0, 1, 2]) rfl rfl hP hD hS hA hK hZ (by decide +kernel) (by rfl)) rfl rfl hl.1 rfl (by exact lv_room (Nat.le_of_ble_eq_true rfl)) dX9_reaches_101 ⟨Nat.le_refl _, Nat.le_refl _⟩) hP hD hS hA (by decide +kernel) (by rfl) (by rfl) rfl (fun H locs hP hD hS => ?_)
      have hP : va_P G vwCl (wm_X9_reaches cA h0 h0_g h0_p h0_path h0_isReached h0_kept h0_changed h0_causes h0_rows h0_sorts h0_sizes h0_moved h0_outs h0_losses h0_levelOf h0_levelOften h0_to h0_round h0_tail h0_leastOn h0_period h0_amplitude h0_basin h0_numbered h0_tape h0_told h0_traced s0__isKept s0__done s0__undoable s0__redoable o4 o5 o6 o7 s0__hasCauses s0__outMany s0__overMany s0__isHalted s0__levelMany s0__rounds s0__stuck s0__onRounds s0__longest s0__loudest c0__reached c0__isAnyOver s0__taped s0__at s0__ran s0_g o8 c0_path c0_isReached) H := hP
      have hD : va_D A (wm_X9_reaches cA h0 h0_g h0_p h0_path h0_isReached h0_kept h0_changed h0_causes h0_rows h0_sorts h0_sizes h0_moved h0_outs h0_losses h0_levelOf h0_levelOften h0_to h0_round h0_tail h0_leastOn h0_period h0_amplitude h0_basin h0_numbered h0_tape h0_told h0_traced s0__isKept s0__done s0__undoable s0__redoable o4 o5 o6 o7 s0__hasCauses s0__outMany s0__overMany s0__isHalted s0__levelMany s0__rounds s0__stuck s0__onRounds s0__longest s0__loudest c0__reached c0__isAnyOver s0__taped s0__at s0__ran s0_g o8 c0_path c0_isReached) := hD
      refine lv_istore (lv' := [(4, .int r3), (0, .ref h0), (1, .int x1), (2, .int y2), (3, .int y3)]) hx hb dX9_reaches_104 hl (by decide) rfl (fun ls hl => ?_)
      refine lv_aload_n hx hb dX9_reaches_106 rfl (lv_at hl 1 rfl) ?_
      refine lv_dup hx hb dX9_reaches_107 rfl ?_
      refine va_get (ci := 9) (v := .int c0__isAnyOver) (C := RX9) (T := TX9) (N := 49) hx hb hts hinX9 hown hK hP 0 rfl rfl 42 (by decide) (hts _ (List.mem_of_getElem? (i := 5) rfl)) (fun _ h9 => h9) rfl dX9_reaches_108 ?_
      refine lv_aload_n hx hb dX9_reaches_111 rfl (lv_at hl 1 rfl) ?_
      refine va_get (ci := 9) (v := .int o7) (C := RX9) (T := TX9) (N := 49) hx hb hts hinX9 hown hK hP 0 rfl rfl 11 (by decide) (hts _ (List.mem_of_getElem? (i := 6) rfl)) (fun _ h9 => h9) rfl dX9_reaches_112 ?_
      refine lv_ior hx hb dX9_reaches_115 ?_
      obtain ⟨hin, hok⟩ := g_no hok
      refine va_put (D := G) (ci := 9) (v := .int (c0__isAnyOver ||| o7)) (ty := .boolean) (C := RX9) (T := TX9) (N := 49) hx hb hts hinX9 tyX9 tyX9_ok nmX9 hown hK hP hD hS 0 rfl rfl 42 (by decide) (hts _ (List.mem_of_getElem? (i := 5) rfl)) (fun _ h9 => h9) rfl (by decide +kernel) (nar_z hin) (fit_z hin) (Nat.le_of_ble_eq_true rfl) dX9_reaches_116 (fun H locs hP hD hS => ?_)
      have hP : va_P G vwCl (wm_X9_reaches cA h0 h0_g h0_p h0_path h0_isReached h0_kept h0_changed h0_causes h0_rows h0_sorts h0_sizes h0_moved h0_outs h0_losses h0_levelOf h0_levelOften h0_to h0_round h0_tail h0_leastOn h0_period h0_amplitude h0_basin h0_numbered h0_tape h0_told h0_traced s0__isKept s0__done s0__undoable s0__redoable o4 o5 o6 o7 s0__hasCauses s0__outMany s0__overMany s0__isHalted s0__levelMany s0__rounds s0__stuck s0__onRounds s0__longest s0__loudest c0__reached (c0__isAnyOver ||| o7) s0__taped s0__at s0__ran s0_g o8 c0_path c0_isReached) H := hP
      have hD : va_D A (wm_X9_reaches cA h0 h0_g h0_p h0_path h0_isReached h0_kept h0_changed h0_causes h0_rows h0_sorts h0_sizes h0_moved h0_outs h0_losses h0_levelOf h0_levelOften h0_to h0_round h0_tail h0_leastOn h0_period h0_amplitude h0_basin h0_numbered h0_tape h0_told h0_traced s0__isKept s0__done s0__undoable s0__redoable o4 o5 o6 o7 s0__hasCauses s0__outMany s0__overMany s0__isHalted s0__levelMany s0__rounds s0__stuck s0__onRounds s0__longest s0__loudest c0__reached (c0__isAnyOver ||| o7) s0__taped s0__at s0__ran s0_g o8 c0_path c0_isReached) := hD
      refine lv_iload hx hb dX9_reaches_119 (lv_at hl 0 rfl) ?_
      refine lv_if_lt (tgt := 163) hx hb dX9_reaches_121 (by decide) (fun c => ?_) (fun c => ?_)
      · replace hok := g_pos hok c
        refine lv_iinc (v := (y3 + 1)) (lv' := [(3, .int (y3 + 1)), (4, .int r3), (0, .ref h0), (1, .int x1), (2, .int y2)]) hx hb dX9_reaches_163 hl (k := 4) rfl rfl (by decide) rfl (fun ls hl => ?_)
        refine lv_goto (tgt := 88) hx hb dX9_reaches_166 (by decide) ?_
        exact ih y2 (y3 + 1) o4 o5 o6 o7 c0__reached (c0__isAnyOver ||| o7) o8 c0_path c0_isReached p0_0 p0_1 p0_2 p0_3 p0_4 p0_5 p0_6 p0_7 p0_8 _ _ _ hP hD hS (lv_sub hl [2, 3, 4, 0] rfl) hok K
      replace hok := g_neg hok c
      refine lv_aload_n hx hb dX9_reaches_124 rfl (lv_at hl 1 rfl) ?_
      refine va_get (ci := 9) (v := .ref h0_isReached) (C := RX9) (T := TX9) (N := 49) hx hb hts hinX9 hown hK hP 0 rfl rfl 40 (by decide) (hts _ (List.mem_of_getElem? (i := 1) rfl)) (fun _ h9 => h9) rfl dX9_reaches_125 ?_
      refine lv_iload hx hb dX9_reaches_128 (lv_at hl 0 rfl) ?_
      obtain ⟨hin, hok⟩ := g_no hok
      refine x_zald (k := r3.toNatClampNeg) hx hb hK hP 4 3 rfl rfl hin rfl dX9_reaches_130 ?_
      refine lv_if_ne (tgt := 163) hx hb dX9_reaches_131 (by decide) (fun c => ?_) (fun c => ?_)
      · replace hok := g_neg hok c
        refine lv_iinc (v := (y3 + 1)) (lv' := [(3, .int (y3 + 1)), (4, .int r3), (0, .ref h0), (1, .int x1), (2, .int y2)]) hx hb dX9_reaches_163 hl (k := 4) rfl rfl (by decide) rfl (fun ls hl => ?_)
        refine lv_goto (tgt := 88) hx hb dX9_reaches_166 (by decide) ?_
        exact ih y2 (y3 + 1) o4 o5 o6 o7 c0__reached (c0__isAnyOver ||| o7) o8 c0_path c0_isReached p0_0 p0_1 p0_2 p0_3 p0_4 p0_5 p0_6 p0_7 p0_8 _ _ _ hP hD hS (lv_sub hl [2, 3, 4, 0] rfl) hok K
      replace hok := g_pos hok c
      refine lv_aload_n hx hb dX9_reaches_134 rfl (lv_at hl 1 rfl) ?_
      refine va_get (ci := 9) (v := .ref h0_isReached) (C := RX9) (T := TX9) (N := 49) hx hb hts hinX9 hown hK hP 0 rfl rfl 40 (by decide) (hts _ (List.mem_of_getElem? (i := 1) rfl)) (fun _ h9 => h9) rfl dX9_reaches_135 ?_
      refine lv_iload hx hb dX9_reaches_138 (lv_at hl 0 rfl) ?_
      refine lv_iconst (v := 1) hx hb dX9_reaches_140 (by decide) ?_
      obtain ⟨hin, hok⟩ := g_no hok
      refine x_zast (k := r3.toNatClampNeg) hx hb hK hP hD hS 4 3 rfl rfl hin rfl dX9_reaches_141 (fun H locs hP hD hS => ?_)
      have hP : va_P G vwCl (wm_X9_reaches cA h0 h0_g h0_p h0_path h0_isReached h0_kept h0_changed h0_causes h0_rows h0_sorts h0_sizes h0_moved h0_outs h0_losses h0_levelOf h0_levelOften h0_to h0_round h0_tail h0_leastOn h0_period h0_amplitude h0_basin h0_numbered h0_tape h0_told h0_traced s0__isKept s0__done s0__undoable s0__redoable o4 o5 o6 o7 s0__hasCauses s0__outMany s0__overMany s0__isHalted s0__levelMany s0__rounds s0__stuck s0__onRounds s0__longest s0__loudest c0__reached (c0__isAnyOver ||| o7) s0__taped s0__at s0__ran s0_g o8 c0_path (upd c0_isReached r3.toNatClampNeg (vp_nar .boolean (1:Int32)))) H := hP
      have hD : va_D A (wm_X9_reaches cA h0 h0_g h0_p h0_path h0_isReached h0_kept h0_changed h0_causes h0_rows h0_sorts h0_sizes h0_moved h0_outs h0_losses h0_levelOf h0_levelOften h0_to h0_round h0_tail h0_leastOn h0_period h0_amplitude h0_basin h0_numbered h0_tape h0_told h0_traced s0__isKept s0__done s0__undoable s0__redoable o4 o5 o6 o7 s0__hasCauses s0__outMany s0__overMany s0__isHalted s0__levelMany s0__rounds s0__stuck s0__onRounds s0__longest s0__loudest c0__reached (c0__isAnyOver ||| o7) s0__taped s0__at s0__ran s0_g o8 c0_path (upd c0_isReached r3.toNatClampNeg (vp_nar .boolean (1:Int32)))) := hD
      refine lv_aload_n hx hb dX9_reaches_142 rfl (lv_at hl 1 rfl) ?_
      refine va_get (ci := 9) (v := .ref h0_path) (C := RX9) (T := TX9) (N := 49) hx hb hts hinX9 hown hK hP 0 rfl rfl 29 (by decide) (hts _ (List.mem_of_getElem? (i := 3) rfl)) (fun _ h9 => h9) rfl dX9_reaches_143 ?_
      refine lv_aload_n hx hb dX9_reaches_146 rfl (lv_at hl 1 rfl) ?_
      refine va_get (ci := 9) (v := .int c0__reached) (C := RX9) (T := TX9) (N := 49) hx hb hts hinX9 hown hK hP 0 rfl rfl 41 (by decide) (hts _ (List.mem_of_getElem? (i := 4) rfl)) (fun _ h9 => h9) rfl dX9_reaches_147 ?_
      refine lv_iload hx hb dX9_reaches_150 (lv_at hl 0 rfl) ?_
      obtain ⟨hin, hok⟩ := g_no hok
      refine x_iast (k := c0__reached.toNatClampNeg) hx hb hK hP hD hS 3 0 rfl rfl hin rfl dX9_reaches_152 (fun H locs hP hD hS => ?_)
      have hP : va_P G vwCl (wm_X9_reaches cA h0 h0_g h0_p h0_path h0_isReached h0_kept h0_changed h0_causes h0_rows h0_sorts h0_sizes h0_moved h0_outs h0_losses h0_levelOf h0_levelOften h0_to h0_round h0_tail h0_leastOn h0_period h0_amplitude h0_basin h0_numbered h0_tape h0_told h0_traced s0__isKept s0__done s0__undoable s0__redoable o4 o5 o6 o7 s0__hasCauses s0__outMany s0__overMany s0__isHalted s0__levelMany s0__rounds s0__stuck s0__onRounds s0__longest s0__loudest c0__reached (c0__isAnyOver ||| o7) s0__taped s0__at s0__ran s0_g o8 (upd c0_path c0__reached.toNatClampNeg r3) (upd c0_isReached r3.toNatClampNeg (vp_nar .boolean (1:Int32)))) H := hP
      have hD : va_D A (wm_X9_reaches cA h0 h0_g h0_p h0_path h0_isReached h0_kept h0_changed h0_causes h0_rows h0_sorts h0_sizes h0_moved h0_outs h0_losses h0_levelOf h0_levelOften h0_to h0_round h0_tail h0_leastOn h0_period h0_amplitude h0_basin h0_numbered h0_tape h0_told h0_traced s0__isKept s0__done s0__undoable s0__redoable o4 o5 o6 o7 s0__hasCauses s0__outMany s0__overMany s0__isHalted s0__levelMany s0__rounds s0__stuck s0__onRounds s0__longest s0__loudest c0__reached (c0__isAnyOver ||| o7) s0__taped s0__at s0__ran s0_g o8 (upd c0_path c0__reached.toNatClampNeg r3) (upd c0_isReached r3.toNatClampNeg (vp_nar .boolean (1:Int32)))) := hD
      refine lv_aload_n hx hb dX9_reaches_153 rfl (lv_at hl 1 rfl) ?_
      refine lv_dup hx hb dX9_reaches_154 rfl ?_
      refine va_get (ci := 9) (v := .int c0__reached) (C := RX9) (T := TX9) (N := 49) hx hb hts hinX9 hown hK hP 0 rfl rfl 41 (by decide) (hts _ (List.mem_of_getElem? (i := 4) rfl)) (fun _ h9 => h9) rfl dX9_reaches_155 ?_
      refine lv_iconst (v := 1) hx hb dX9_reaches_158 (by decide) ?_
      refine lv_iadd hx hb dX9_reaches_159 ?_
      refine va_put (D := G) (ci := 9) (v := .int (c0__reached + (1:Int32))) (ty := .int) (C := RX9) (T := TX9) (N := 49) hx hb hts hinX9 tyX9 tyX9_ok nmX9 hown hK hP hD hS 0 rfl rfl 41 (by decide) (hts _ (List.mem_of_getElem? (i := 4) rfl)) (fun _ h9 => h9) rfl (by decide +kernel) rfl rfl (Nat.le_of_ble_eq_true rfl) dX9_reaches_160 (fun H locs hP hD hS => ?_)
      have hP : va_P G vwCl (wm_X9_reaches cA h0 h0_g h0_p h0_path h0_isReached h0_kept h0_changed h0_causes h0_rows h0_sorts h0_sizes h0_moved h0_outs h0_losses h0_levelOf h0_levelOften h0_to h0_round h0_tail h0_leastOn h0_period h0_amplitude h0_basin h0_numbered h0_tape h0_told h0_traced s0__isKept s0__done s0__undoable s0__redoable o4 o5 o6 o7 s0__hasCauses s0__outMany s0__overMany s0__isHalted s0__levelMany s0__rounds s0__stuck s0__onRounds s0__longest s0__loudest (c0__reached + (1:Int32)) (c0__isAnyOver ||| o7) s0__taped s0__at s0__ran s0_g o8 (upd c0_path c0__reached.toNatClampNeg r3) (upd c0_isReached r3.toNatClampNeg (vp_nar .boolean (1:Int32)))) H := hP
      have hD : va_D A (wm_X9_reaches cA h0 h0_g h0_p h0_path h0_isReached h0_kept h0_changed h0_causes h0_rows h0_sorts h0_sizes h0_moved h0_outs h0_losses h0_levelOf h0_levelOften h0_to h0_round h0_tail h0_leastOn h0_period h0_amplitude h0_basin h0_numbered h0_tape h0_told h0_traced s0__isKept s0__done s0__undoable s0__redoable o4 o5 o6 o7 s0__hasCauses s0__outMany s0__overMany s0__isHalted s0__levelMany s0__rounds s0__stuck s0__onRounds s0__longest s0__loudest (c0__reached + (1:Int32)) (c0__isAnyOver ||| o7) s0__taped s0__at s0__ran s0_g o8 (upd c0_path c0__reached.toNatClampNeg r3) (upd c0_isReached r3.toNatClampNeg (vp_nar .boolean (1:Int32)))) := hD
      refine lv_iinc (v := (y3 + 1)) (lv' := [(3, .int (y3 + 1)), (4, .int r3), (0, .ref h0), (1, .int x1), (2, .int y2)]) hx hb dX9_reaches_163 hl (k := 4) rfl rfl (by decide) rfl (fun ls hl => ?_)
      refine lv_goto (tgt := 88) hx hb dX9_reaches_166 (by decide) ?_
      exact ih y2 (y3 + 1) o4 o5 o6 o7 (c0__reached + (1:Int32)) (c0__isAnyOver ||| o7) o8 (upd c0_path c0__reached.toNatClampNeg r3) (upd c0_isReached r3.toNatClampNeg (vp_nar .boolean (1:Int32))) p0_0 p0_1 p0_2 p0_3 p0_4 p0_5 p0_6 p0_7 p0_8 _ _ _ hP hD hS (lv_sub hl [2, 3, 4, 0] rfl) hok K
  have L_77 : ∀ (n : Nat) (y2 : Int32) (c0__all : Int32) (c0__v : Int32) (c0__loss : Int32) (c0__isOver : Int32) (c0__reached : Int32) (c0__isAnyOver : Int32) (c0_p : Nat → Int32) (c0_path : Nat → Int32) (c0_isReached : Nat → Int32) (p0_0 : Int32) (p0_1 : Int32) (p0_2 : Int32) (p0_3 : Int32) (p0_4 : Int32) (p0_5 : Int32) (p0_6 : Nat → Int32) (p0_7 : Nat → Int32) (p0_8 : Nat → Int32) (H : Heap) (locs : List Loc) (ls : Array Slot), va_P G vwCl (wm_X9_reaches cA h0 h0_g h0_p h0_path h0_isReached h0_kept h0_changed h0_causes h0_rows h0_sorts h0_sizes h0_moved h0_outs h0_losses h0_levelOf h0_levelOften h0_to h0_round h0_tail h0_leastOn h0_period h0_amplitude h0_basin h0_numbered h0_tape h0_told h0_traced s0__isKept s0__done s0__undoable s0__redoable c0__all c0__v c0__loss c0__isOver s0__hasCauses s0__outMany s0__overMany s0__isHalted s0__levelMany s0__rounds s0__stuck s0__onRounds s0__longest s0__loudest c0__reached c0__isAnyOver s0__taped s0__at s0__ran s0_g c0_p c0_path c0_isReached) H → va_D A (wm_X9_reaches cA h0 h0_g h0_p h0_path h0_isReached h0_kept h0_changed h0_causes h0_rows h0_sorts h0_sizes h0_moved h0_outs h0_losses h0_levelOf h0_levelOften h0_to h0_round h0_tail h0_leastOn h0_period h0_amplitude h0_basin h0_numbered h0_tape h0_told h0_traced s0__isKept s0__done s0__undoable s0__redoable c0__all c0__v c0__loss c0__isOver s0__hasCauses s0__outMany s0__overMany s0__isHalted s0__levelMany s0__rounds s0__stuck s0__onRounds s0__longest s0__loudest c0__reached c0__isAnyOver s0__taped s0__at s0__ran s0_g c0_p c0_path c0_isReached) → va_S A s.heap H locs → lv_has ls 5 [(0, .ref h0), (1, .int x1), (2, .int y2)] → fX9_reaches_L77 x1 s0_g n y2 c0__all c0__v c0__loss c0__isOver c0__reached c0__isAnyOver c0_p c0_path c0_isReached = some (p0_0, p0_1, p0_2, p0_3, p0_4, p0_5, p0_6, p0_7, p0_8) → (∀ (H : Heap) (locs : List Loc) (ls : Array Slot), va_P G vwCl (wm_X9_reaches cA h0 h0_g h0_p h0_path h0_isReached h0_kept h0_changed h0_causes h0_rows h0_sorts h0_sizes h0_moved h0_outs h0_losses h0_levelOf h0_levelOften h0_to h0_round h0_tail h0_leastOn h0_period h0_amplitude h0_basin h0_numbered h0_tape h0_told h0_traced s0__isKept s0__done s0__undoable s0__redoable p0_0 p0_1 p0_2 p0_3 s0__hasCauses s0__outMany s0__overMany s0__isHalted s0__levelMany s0__rounds s0__stuck s0__onRounds s0__longest s0__loudest p0_4 p0_5 s0__taped s0__at s0__ran s0_g p0_6 p0_7 p0_8) H → va_D A (wm_X9_reaches cA h0 h0_g h0_p h0_path h0_isReached h0_kept h0_changed h0_causes h0_rows h0_sorts h0_sizes h0_moved h0_outs h0_losses h0_levelOf h0_levelOften h0_to h0_round h0_tail h0_leastOn h0_period h0_amplitude h0_basin h0_numbered h0_tape h0_told h0_traced s0__isKept s0__done s0__undoable s0__redoable p0_0 p0_1 p0_2 p0_3 s0__hasCauses s0__outMany s0__overMany s0__isHalted s0__levelMany s0__rounds s0__stuck s0__onRounds s0__longest s0__loudest p0_4 p0_5 s0__taped s0__at s0__ran s0_g p0_6 p0_7 p0_8) → va_S A s.heap H locs → lv_has ls 5 [] → W p l e (rmX 5 133) s m ar below meth c H locs 0 0 Q (F0 m 175 ls [])) → W p l e (rmX 5 133) s m ar below meth c H locs 0 0 Q (F0 m 77 ls []) := by
    intro n
    induction n with
    | zero =>
      intro y2 c0__all c0__v c0__loss c0__isOver c0__reached c0__isAnyOver c0_p c0_path c0_isReached p0_0 p0_1 p0_2 p0_3 p0_4 p0_5 p0_6 p0_7 p0_8 H locs ls hP hD hS hl hok
      rw [fX9_reaches_L77] at hok
      cases hok
    | succ n ih =>
      intro y2 c0__all c0__v c0__loss c0__isOver c0__reached c0__isAnyOver c0_p c0_path c0_isReached p0_0 p0_1 p0_2 p0_3 p0_4 p0_5 p0_6 p0_7 p0_8 H locs ls hP hD hS hl hok K
      rw [fX9_reaches_L77] at hok
      refine lv_iload_n hx hb dX9_reaches_77 rfl (lv_at hl 2 rfl) ?_
      refine lv_aload_n hx hb dX9_reaches_78 rfl (lv_at hl 0 rfl) ?_
      refine va_get (ci := 9) (v := .int c0__reached) (C := RX9) (T := TX9) (N := 49) hx hb hts hinX9 hown hK hP 0 rfl rfl 41 (by decide) (hts _ (List.mem_of_getElem? (i := 4) rfl)) (fun _ h9 => h9) rfl dX9_reaches_79 ?_
      refine lv_icmp_ge (tgt := 175) hx hb dX9_reaches_82 (by decide) (fun c => ?_) (fun c => ?_)
      · replace hok := g_pos hok c
        cases hok
        exact K _ _ _ hP hD hS (lv_sub hl [] rfl)
      replace hok := g_neg hok c
      refine lv_iload_n hx hb dX9_reaches_85 rfl (lv_at hl 1 rfl) ?_
      refine lv_ineg hx hb dX9_reaches_86 ?_
      refine lv_istore_n (lv' := [(3, .int (-x1)), (0, .ref h0), (1, .int x1), (2, .int y2)]) hx hb dX9_reaches_87 rfl hl (by decide) rfl (fun ls hl => ?_)
      obtain ⟨o9, o10, o11, o12, o13, o14, o15, o16, o17, hq, hok⟩ := g_bnd9 hok
      refine L_88 FUEL y2 (-x1) c0__all c0__v c0__loss c0__isOver c0__reached c0__isAnyOver c0_p c0_path c0_isReached o9 o10 o11 o12 o13 o14 o15 o16 o17 _ _ _ hP hD hS (lv_sub hl [1, 2, 3, 0] rfl) hq (fun H locs ls hP hD hS hl => ?_)
      refine lv_iinc (v := (y2 + 1)) (lv' := [(2, .int (y2 + 1)), (0, .ref h0), (1, .int x1)]) hx hb dX9_reaches_169 hl (k := 2) rfl rfl (by decide) rfl (fun ls hl => ?_)
      refine lv_goto (tgt := 77) hx hb dX9_reaches_172 (by decide) ?_
      exact ih (y2 + 1) o9 o10 o11 o12 o13 o14 o15 o16 o17 p0_0 p0_1 p0_2 p0_3 p0_4 p0_5 p0_6 p0_7 p0_8 _ _ _ hP hD hS (lv_sub hl [1, 2, 0] rfl) hok K
  unfold fX9_reaches at hok
  refine lv_iconst (v := 0) hx hb dX9_reaches_0 (by decide) ?_
  refine lv_istore_n (lv' := [(2, .int (0:Int32)), (0, .ref h0), (1, .int x1)]) hx hb dX9_reaches_1 rfl hl (by decide) rfl (fun ls hl => ?_)
  obtain ⟨o1, hq, hok⟩ := g_bnd1 hok
  refine L_2 FUEL (0:Int32) s0__all s0__v s0__loss s0__isOver s0__reached s0__isAnyOver s0_p s0_path s0_isReached o1 _ _ _ hP hD hS (lv_sub hl [1, 2, 0] rfl) hq (fun H locs ls hP hD hS hl => ?_)
  refine lv_aload_n hx hb dX9_reaches_22 rfl (lv_at hl 0 rfl) ?_
  refine va_get (ci := 9) (v := .ref h0_p) (C := RX9) (T := TX9) (N := 49) hx hb hts hinX9 hown hK hP 0 rfl rfl 7 (by decide) (hts _ (List.mem_of_getElem? (i := 2) rfl)) (fun _ h9 => h9) rfl dX9_reaches_23 ?_
  refine lv_iconst (v := 0) hx hb dX9_reaches_26 (by decide) ?_
  refine lv_iconst (v := 0) hx hb dX9_reaches_27 (by decide) ?_
  refine x_iast (k := 0) hx hb hK hP hD hS 2 0 rfl rfl (show ¬ ((0:Int32) < 0 ∨ 3 ≤ (0:Int32).toNatClampNeg) by decide) (by decide) dX9_reaches_28 (fun H locs hP hD hS => ?_)
  have hP : va_P G vwCl (wm_X9_reaches cA h0 h0_g h0_p h0_path h0_isReached h0_kept h0_changed h0_causes h0_rows h0_sorts h0_sizes h0_moved h0_outs h0_losses h0_levelOf h0_levelOften h0_to h0_round h0_tail h0_leastOn h0_period h0_amplitude h0_basin h0_numbered h0_tape h0_told h0_traced s0__isKept s0__done s0__undoable s0__redoable s0__all s0__v s0__loss s0__isOver s0__hasCauses s0__outMany s0__overMany s0__isHalted s0__levelMany s0__rounds s0__stuck s0__onRounds s0__longest s0__loudest s0__reached s0__isAnyOver s0__taped s0__at s0__ran s0_g (upd s0_p 0 (0:Int32)) s0_path o1) H := hP
  have hD : va_D A (wm_X9_reaches cA h0 h0_g h0_p h0_path h0_isReached h0_kept h0_changed h0_causes h0_rows h0_sorts h0_sizes h0_moved h0_outs h0_losses h0_levelOf h0_levelOften h0_to h0_round h0_tail h0_leastOn h0_period h0_amplitude h0_basin h0_numbered h0_tape h0_told h0_traced s0__isKept s0__done s0__undoable s0__redoable s0__all s0__v s0__loss s0__isOver s0__hasCauses s0__outMany s0__overMany s0__isHalted s0__levelMany s0__rounds s0__stuck s0__onRounds s0__longest s0__loudest s0__reached s0__isAnyOver s0__taped s0__at s0__ran s0_g (upd s0_p 0 (0:Int32)) s0_path o1) := hD
  refine lv_aload_n hx hb dX9_reaches_29 rfl (lv_at hl 0 rfl) ?_
  refine va_get (ci := 9) (v := .ref h0_p) (C := RX9) (T := TX9) (N := 49) hx hb hts hinX9 hown hK hP 0 rfl rfl 7 (by decide) (hts _ (List.mem_of_getElem? (i := 2) rfl)) (fun _ h9 => h9) rfl dX9_reaches_30 ?_
  refine lv_iconst (v := 1) hx hb dX9_reaches_33 (by decide) ?_
  refine lv_iconst (v := 0) hx hb dX9_reaches_34 (by decide) ?_
  refine x_iast (k := 1) hx hb hK hP hD hS 2 0 rfl rfl (show ¬ ((1:Int32) < 0 ∨ 3 ≤ (1:Int32).toNatClampNeg) by decide) (by decide) dX9_reaches_35 (fun H locs hP hD hS => ?_)
  have hP : va_P G vwCl (wm_X9_reaches cA h0 h0_g h0_p h0_path h0_isReached h0_kept h0_changed h0_causes h0_rows h0_sorts h0_sizes h0_moved h0_outs h0_losses h0_levelOf h0_levelOften h0_to h0_round h0_tail h0_leastOn h0_period h0_amplitude h0_basin h0_numbered h0_tape h0_told h0_traced s0__isKept s0__done s0__undoable s0__redoable s0__all s0__v s0__loss s0__isOver s0__hasCauses s0__outMany s0__overMany s0__isHalted s0__levelMany s0__rounds s0__stuck s0__onRounds s0__longest s0__loudest s0__reached s0__isAnyOver s0__taped s0__at s0__ran s0_g (upd (upd s0_p 0 (0:Int32)) 1 (0:Int32)) s0_path o1) H := hP
  have hD : va_D A (wm_X9_reaches cA h0 h0_g h0_p h0_path h0_isReached h0_kept h0_changed h0_causes h0_rows h0_sorts h0_sizes h0_moved h0_outs h0_losses h0_levelOf h0_levelOften h0_to h0_round h0_tail h0_leastOn h0_period h0_amplitude h0_basin h0_numbered h0_tape h0_told h0_traced s0__isKept s0__done s0__undoable s0__redoable s0__all s0__v s0__loss s0__isOver s0__hasCauses s0__outMany s0__overMany s0__isHalted s0__levelMany s0__rounds s0__stuck s0__onRounds s0__longest s0__loudest s0__reached s0__isAnyOver s0__taped s0__at s0__ran s0_g (upd (upd s0_p 0 (0:Int32)) 1 (0:Int32)) s0_path o1) := hD
  refine lv_aload_n hx hb dX9_reaches_36 rfl (lv_at hl 0 rfl) ?_
  refine va_get (ci := 9) (v := .ref h0_p) (C := RX9) (T := TX9) (N := 49) hx hb hts hinX9 hown hK hP 0 rfl rfl 7 (by decide) (hts _ (List.mem_of_getElem? (i := 2) rfl)) (fun _ h9 => h9) rfl dX9_reaches_37 ?_
  refine lv_iconst (v := 2) hx hb dX9_reaches_40 (by decide) ?_
  refine lv_iconst (v := 0) hx hb dX9_reaches_41 (by decide) ?_
  refine x_iast (k := 2) hx hb hK hP hD hS 2 0 rfl rfl (show ¬ ((2:Int32) < 0 ∨ 3 ≤ (2:Int32).toNatClampNeg) by decide) (by decide) dX9_reaches_42 (fun H locs hP hD hS => ?_)
  have hP : va_P G vwCl (wm_X9_reaches cA h0 h0_g h0_p h0_path h0_isReached h0_kept h0_changed h0_causes h0_rows h0_sorts h0_sizes h0_moved h0_outs h0_losses h0_levelOf h0_levelOften h0_to h0_round h0_tail h0_leastOn h0_period h0_amplitude h0_basin h0_numbered h0_tape h0_told h0_traced s0__isKept s0__done s0__undoable s0__redoable s0__all s0__v s0__loss s0__isOver s0__hasCauses s0__outMany s0__overMany s0__isHalted s0__levelMany s0__rounds s0__stuck s0__onRounds s0__longest s0__loudest s0__reached s0__isAnyOver s0__taped s0__at s0__ran s0_g (upd (upd (upd s0_p 0 (0:Int32)) 1 (0:Int32)) 2 (0:Int32)) s0_path o1) H := hP
  have hD : va_D A (wm_X9_reaches cA h0 h0_g h0_p h0_path h0_isReached h0_kept h0_changed h0_causes h0_rows h0_sorts h0_sizes h0_moved h0_outs h0_losses h0_levelOf h0_levelOften h0_to h0_round h0_tail h0_leastOn h0_period h0_amplitude h0_basin h0_numbered h0_tape h0_told h0_traced s0__isKept s0__done s0__undoable s0__redoable s0__all s0__v s0__loss s0__isOver s0__hasCauses s0__outMany s0__overMany s0__isHalted s0__levelMany s0__rounds s0__stuck s0__onRounds s0__longest s0__loudest s0__reached s0__isAnyOver s0__taped s0__at s0__ran s0_g (upd (upd (upd s0_p 0 (0:Int32)) 1 (0:Int32)) 2 (0:Int32)) s0_path o1) := hD
  refine lv_aload_n hx hb dX9_reaches_43 rfl (lv_at hl 0 rfl) ?_
  refine va_get (ci := 9) (v := .ref h0_path) (C := RX9) (T := TX9) (N := 49) hx hb hts hinX9 hown hK hP 0 rfl rfl 29 (by decide) (hts _ (List.mem_of_getElem? (i := 3) rfl)) (fun _ h9 => h9) rfl dX9_reaches_44 ?_
  refine lv_iconst (v := 0) hx hb dX9_reaches_47 (by decide) ?_
  refine lv_aload_n hx hb dX9_reaches_48 rfl (lv_at hl 0 rfl) ?_
  obtain ⟨r2, hq, hok⟩ := g_bnd1 hok
  refine cG (is := [0, 1, 2]) (wc := (wm_X9_begins cA h0 h0_g h0_p h0_kept h0_changed h0_causes h0_rows h0_sorts h0_sizes h0_moved h0_outs h0_losses h0_levelOf h0_levelOften h0_to h0_round h0_tail h0_path h0_leastOn h0_period h0_amplitude h0_basin h0_numbered h0_isReached h0_tape h0_told h0_traced s0__isKept s0__done s0__undoable s0__redoable s0__all s0__v s0__loss s0__isOver s0__hasCauses s0__outMany s0__overMany s0__isHalted s0__levelMany s0__rounds s0__stuck s0__onRounds s0__longest s0__loudest s0__reached s0__isAnyOver s0__taped s0__at s0__ran s0_g (upd (upd (upd s0_p 0 (0:Int32)) 1 (0:Int32)) 2 (0:Int32)))) (w1 := (wm_X9_begins cA h0 h0_g h0_p h0_kept h0_changed h0_causes h0_rows h0_sorts h0_sizes h0_moved h0_outs h0_losses h0_levelOf h0_levelOften h0_to h0_round h0_tail h0_path h0_leastOn h0_period h0_amplitude h0_basin h0_numbered h0_isReached h0_tape h0_told h0_traced s0__isKept s0__done s0__undoable s0__redoable s0__all s0__v s0__loss s0__isOver s0__hasCauses s0__outMany s0__overMany s0__isHalted s0__levelMany s0__rounds s0__stuck s0__onRounds s0__longest s0__loudest s0__reached s0__isAnyOver s0__taped s0__at s0__ran s0_g (upd (upd (upd s0_p 0 (0:Int32)) 1 (0:Int32)) 2 (0:Int32)))) (rv := (some (.int r2))) (st1 := [.int r2, .int (0:Int32), .ref h0_path]) (va_runV (Ts := wsX9_reaches) (As := []) (rest := [.int (0:Int32), .ref h0_path]) ⟨hx, hb, hml, hown, hts⟩ (c_X9_codeOfPast l G cA ts h0 h0_g h0_p h0_kept h0_changed h0_causes h0_rows h0_sorts h0_sizes h0_moved h0_outs h0_losses h0_levelOf h0_levelOften h0_to h0_round h0_tail h0_path h0_leastOn h0_period h0_amplitude h0_basin h0_numbered h0_isReached h0_tape h0_told h0_traced s0__isKept s0__done s0__undoable s0__redoable s0__all s0__v s0__loss s0__isOver s0__hasCauses s0__outMany s0__overMany s0__isHalted s0__levelMany s0__rounds s0__stuck s0__onRounds s0__longest s0__loudest s0__reached s0__isAnyOver s0__taped s0__at s0__ran s0_g (upd (upd (upd s0_p 0 (0:Int32)) 1 (0:Int32)) 2 (0:Int32)) r2 hq H.size) (cwV 0 hts gX9_reaches_X9_codeOfPast rfl rfl rfl (by decide +kernel) ⟨Nat.le_of_ble_eq_true rfl, Nat.le_of_ble_eq_true rfl⟩) (pre_V (ci := 9) (q0 := 0) (is := [0, 1, 2]) rfl rfl hP hD hS hA hK hZ (by decide +kernel) (by rfl)) rfl rfl hl.1 rfl (by exact lv_room (Nat.le_of_ble_eq_true rfl)) dX9_reaches_49 ⟨Nat.le_refl _, Nat.le_refl _⟩) hP hD hS hA (by decide +kernel) (by rfl) (by rfl) rfl (fun H locs hP hD hS => ?_)
  have hP : va_P G vwCl (wm_X9_reaches cA h0 h0_g h0_p h0_path h0_isReached h0_kept h0_changed h0_causes h0_rows h0_sorts h0_sizes h0_moved h0_outs h0_losses h0_levelOf h0_levelOften h0_to h0_round h0_tail h0_leastOn h0_period h0_amplitude h0_basin h0_numbered h0_tape h0_told h0_traced s0__isKept s0__done s0__undoable s0__redoable s0__all s0__v s0__loss s0__isOver s0__hasCauses s0__outMany s0__overMany s0__isHalted s0__levelMany s0__rounds s0__stuck s0__onRounds s0__longest s0__loudest s0__reached s0__isAnyOver s0__taped s0__at s0__ran s0_g (upd (upd (upd s0_p 0 (0:Int32)) 1 (0:Int32)) 2 (0:Int32)) s0_path o1) H := hP
  have hD : va_D A (wm_X9_reaches cA h0 h0_g h0_p h0_path h0_isReached h0_kept h0_changed h0_causes h0_rows h0_sorts h0_sizes h0_moved h0_outs h0_losses h0_levelOf h0_levelOften h0_to h0_round h0_tail h0_leastOn h0_period h0_amplitude h0_basin h0_numbered h0_tape h0_told h0_traced s0__isKept s0__done s0__undoable s0__redoable s0__all s0__v s0__loss s0__isOver s0__hasCauses s0__outMany s0__overMany s0__isHalted s0__levelMany s0__rounds s0__stuck s0__onRounds s0__longest s0__loudest s0__reached s0__isAnyOver s0__taped s0__at s0__ran s0_g (upd (upd (upd s0_p 0 (0:Int32)) 1 (0:Int32)) 2 (0:Int32)) s0_path o1) := hD
  refine x_iast (k := 0) hx hb hK hP hD hS 3 0 rfl rfl (show ¬ ((0:Int32) < 0 ∨ 1024 ≤ (0:Int32).toNatClampNeg) by decide) (by decide) dX9_reaches_52 (fun H locs hP hD hS => ?_)
  have hP : va_P G vwCl (wm_X9_reaches cA h0 h0_g h0_p h0_path h0_isReached h0_kept h0_changed h0_causes h0_rows h0_sorts h0_sizes h0_moved h0_outs h0_losses h0_levelOf h0_levelOften h0_to h0_round h0_tail h0_leastOn h0_period h0_amplitude h0_basin h0_numbered h0_tape h0_told h0_traced s0__isKept s0__done s0__undoable s0__redoable s0__all s0__v s0__loss s0__isOver s0__hasCauses s0__outMany s0__overMany s0__isHalted s0__levelMany s0__rounds s0__stuck s0__onRounds s0__longest s0__loudest s0__reached s0__isAnyOver s0__taped s0__at s0__ran s0_g (upd (upd (upd s0_p 0 (0:Int32)) 1 (0:Int32)) 2 (0:Int32)) (upd s0_path 0 r2) o1) H := hP
  have hD : va_D A (wm_X9_reaches cA h0 h0_g h0_p h0_path h0_isReached h0_kept h0_changed h0_causes h0_rows h0_sorts h0_sizes h0_moved h0_outs h0_losses h0_levelOf h0_levelOften h0_to h0_round h0_tail h0_leastOn h0_period h0_amplitude h0_basin h0_numbered h0_tape h0_told h0_traced s0__isKept s0__done s0__undoable s0__redoable s0__all s0__v s0__loss s0__isOver s0__hasCauses s0__outMany s0__overMany s0__isHalted s0__levelMany s0__rounds s0__stuck s0__onRounds s0__longest s0__loudest s0__reached s0__isAnyOver s0__taped s0__at s0__ran s0_g (upd (upd (upd s0_p 0 (0:Int32)) 1 (0:Int32)) 2 (0:Int32)) (upd s0_path 0 r2) o1) := hD
  refine lv_aload_n hx hb dX9_reaches_53 rfl (lv_at hl 0 rfl) ?_
  refine va_get (ci := 9) (v := .ref h0_isReached) (C := RX9) (T := TX9) (N := 49) hx hb hts hinX9 hown hK hP 0 rfl rfl 40 (by decide) (hts _ (List.mem_of_getElem? (i := 1) rfl)) (fun _ h9 => h9) rfl dX9_reaches_54 ?_
  refine lv_aload_n hx hb dX9_reaches_57 rfl (lv_at hl 0 rfl) ?_
  refine va_get (ci := 9) (v := .ref h0_path) (C := RX9) (T := TX9) (N := 49) hx hb hts hinX9 hown hK hP 0 rfl rfl 29 (by decide) (hts _ (List.mem_of_getElem? (i := 3) rfl)) (fun _ h9 => h9) rfl dX9_reaches_58 ?_
  refine lv_iconst (v := 0) hx hb dX9_reaches_61 (by decide) ?_
  refine x_iald (k := 0) hx hb hK hP 3 0 rfl rfl (show ¬ ((0:Int32) < 0 ∨ 1024 ≤ (0:Int32).toNatClampNeg) by decide) (by decide) dX9_reaches_62 ?_
  refine lv_iconst (v := 1) hx hb dX9_reaches_63 (by decide) ?_
  obtain ⟨hin, hok⟩ := g_no hok
  refine x_zast (k := ((upd s0_path 0 r2) 0).toNatClampNeg) hx hb hK hP hD hS 4 3 rfl rfl hin rfl dX9_reaches_64 (fun H locs hP hD hS => ?_)
  have hP : va_P G vwCl (wm_X9_reaches cA h0 h0_g h0_p h0_path h0_isReached h0_kept h0_changed h0_causes h0_rows h0_sorts h0_sizes h0_moved h0_outs h0_losses h0_levelOf h0_levelOften h0_to h0_round h0_tail h0_leastOn h0_period h0_amplitude h0_basin h0_numbered h0_tape h0_told h0_traced s0__isKept s0__done s0__undoable s0__redoable s0__all s0__v s0__loss s0__isOver s0__hasCauses s0__outMany s0__overMany s0__isHalted s0__levelMany s0__rounds s0__stuck s0__onRounds s0__longest s0__loudest s0__reached s0__isAnyOver s0__taped s0__at s0__ran s0_g (upd (upd (upd s0_p 0 (0:Int32)) 1 (0:Int32)) 2 (0:Int32)) (upd s0_path 0 r2) (upd o1 ((upd s0_path 0 r2) 0).toNatClampNeg (vp_nar .boolean (1:Int32)))) H := hP
  have hD : va_D A (wm_X9_reaches cA h0 h0_g h0_p h0_path h0_isReached h0_kept h0_changed h0_causes h0_rows h0_sorts h0_sizes h0_moved h0_outs h0_losses h0_levelOf h0_levelOften h0_to h0_round h0_tail h0_leastOn h0_period h0_amplitude h0_basin h0_numbered h0_tape h0_told h0_traced s0__isKept s0__done s0__undoable s0__redoable s0__all s0__v s0__loss s0__isOver s0__hasCauses s0__outMany s0__overMany s0__isHalted s0__levelMany s0__rounds s0__stuck s0__onRounds s0__longest s0__loudest s0__reached s0__isAnyOver s0__taped s0__at s0__ran s0_g (upd (upd (upd s0_p 0 (0:Int32)) 1 (0:Int32)) 2 (0:Int32)) (upd s0_path 0 r2) (upd o1 ((upd s0_path 0 r2) 0).toNatClampNeg (vp_nar .boolean (1:Int32)))) := hD
  refine lv_aload_n hx hb dX9_reaches_65 rfl (lv_at hl 0 rfl) ?_
  refine lv_iconst (v := 1) hx hb dX9_reaches_66 (by decide) ?_
  refine va_put (D := G) (ci := 9) (v := .int (1:Int32)) (ty := .int) (C := RX9) (T := TX9) (N := 49) hx hb hts hinX9 tyX9 tyX9_ok nmX9 hown hK hP hD hS 0 rfl rfl 41 (by decide) (hts _ (List.mem_of_getElem? (i := 4) rfl)) (fun _ h9 => h9) rfl (by decide +kernel) rfl rfl (Nat.le_of_ble_eq_true rfl) dX9_reaches_67 (fun H locs hP hD hS => ?_)
  have hP : va_P G vwCl (wm_X9_reaches cA h0 h0_g h0_p h0_path h0_isReached h0_kept h0_changed h0_causes h0_rows h0_sorts h0_sizes h0_moved h0_outs h0_losses h0_levelOf h0_levelOften h0_to h0_round h0_tail h0_leastOn h0_period h0_amplitude h0_basin h0_numbered h0_tape h0_told h0_traced s0__isKept s0__done s0__undoable s0__redoable s0__all s0__v s0__loss s0__isOver s0__hasCauses s0__outMany s0__overMany s0__isHalted s0__levelMany s0__rounds s0__stuck s0__onRounds s0__longest s0__loudest (1:Int32) s0__isAnyOver s0__taped s0__at s0__ran s0_g (upd (upd (upd s0_p 0 (0:Int32)) 1 (0:Int32)) 2 (0:Int32)) (upd s0_path 0 r2) (upd o1 ((upd s0_path 0 r2) 0).toNatClampNeg (vp_nar .boolean (1:Int32)))) H := hP
  have hD : va_D A (wm_X9_reaches cA h0 h0_g h0_p h0_path h0_isReached h0_kept h0_changed h0_causes h0_rows h0_sorts h0_sizes h0_moved h0_outs h0_losses h0_levelOf h0_levelOften h0_to h0_round h0_tail h0_leastOn h0_period h0_amplitude h0_basin h0_numbered h0_tape h0_told h0_traced s0__isKept s0__done s0__undoable s0__redoable s0__all s0__v s0__loss s0__isOver s0__hasCauses s0__outMany s0__overMany s0__isHalted s0__levelMany s0__rounds s0__stuck s0__onRounds s0__longest s0__loudest (1:Int32) s0__isAnyOver s0__taped s0__at s0__ran s0_g (upd (upd (upd s0_p 0 (0:Int32)) 1 (0:Int32)) 2 (0:Int32)) (upd s0_path 0 r2) (upd o1 ((upd s0_path 0 r2) 0).toNatClampNeg (vp_nar .boolean (1:Int32)))) := hD
  refine lv_aload_n hx hb dX9_reaches_70 rfl (lv_at hl 0 rfl) ?_
  refine lv_iconst (v := 0) hx hb dX9_reaches_71 (by decide) ?_
  refine va_put (D := G) (ci := 9) (v := .int (0:Int32)) (ty := .boolean) (C := RX9) (T := TX9) (N := 49) hx hb hts hinX9 tyX9 tyX9_ok nmX9 hown hK hP hD hS 0 rfl rfl 42 (by decide) (hts _ (List.mem_of_getElem? (i := 5) rfl)) (fun _ h9 => h9) rfl (by decide +kernel) (by decide +kernel) (by decide +kernel) (Nat.le_of_ble_eq_true rfl) dX9_reaches_72 (fun H locs hP hD hS => ?_)
  have hP : va_P G vwCl (wm_X9_reaches cA h0 h0_g h0_p h0_path h0_isReached h0_kept h0_changed h0_causes h0_rows h0_sorts h0_sizes h0_moved h0_outs h0_losses h0_levelOf h0_levelOften h0_to h0_round h0_tail h0_leastOn h0_period h0_amplitude h0_basin h0_numbered h0_tape h0_told h0_traced s0__isKept s0__done s0__undoable s0__redoable s0__all s0__v s0__loss s0__isOver s0__hasCauses s0__outMany s0__overMany s0__isHalted s0__levelMany s0__rounds s0__stuck s0__onRounds s0__longest s0__loudest (1:Int32) (0:Int32) s0__taped s0__at s0__ran s0_g (upd (upd (upd s0_p 0 (0:Int32)) 1 (0:Int32)) 2 (0:Int32)) (upd s0_path 0 r2) (upd o1 ((upd s0_path 0 r2) 0).toNatClampNeg (vp_nar .boolean (1:Int32)))) H := hP
  have hD : va_D A (wm_X9_reaches cA h0 h0_g h0_p h0_path h0_isReached h0_kept h0_changed h0_causes h0_rows h0_sorts h0_sizes h0_moved h0_outs h0_losses h0_levelOf h0_levelOften h0_to h0_round h0_tail h0_leastOn h0_period h0_amplitude h0_basin h0_numbered h0_tape h0_told h0_traced s0__isKept s0__done s0__undoable s0__redoable s0__all s0__v s0__loss s0__isOver s0__hasCauses s0__outMany s0__overMany s0__isHalted s0__levelMany s0__rounds s0__stuck s0__onRounds s0__longest s0__loudest (1:Int32) (0:Int32) s0__taped s0__at s0__ran s0_g (upd (upd (upd s0_p 0 (0:Int32)) 1 (0:Int32)) 2 (0:Int32)) (upd s0_path 0 r2) (upd o1 ((upd s0_path 0 r2) 0).toNatClampNeg (vp_nar .boolean (1:Int32)))) := hD
  refine lv_iconst (v := 0) hx hb dX9_reaches_75 (by decide) ?_
  refine lv_istore_n (lv' := [(2, .int (0:Int32)), (0, .ref h0), (1, .int x1)]) hx hb dX9_reaches_76 rfl hl (by decide) rfl (fun ls hl => ?_)
  obtain ⟨o18, o19, o20, o21, o22, o23, o24, o25, o26, hq, hok⟩ := g_bnd9 hok
  refine L_77 FUEL (0:Int32) s0__all s0__v s0__loss s0__isOver (1:Int32) (0:Int32) (upd (upd (upd s0_p 0 (0:Int32)) 1 (0:Int32)) 2 (0:Int32)) (upd s0_path 0 r2) (upd o1 ((upd s0_path 0 r2) 0).toNatClampNeg (vp_nar .boolean (1:Int32))) o18 o19 o20 o21 o22 o23 o24 o25 o26 _ _ _ hP hD hS (lv_sub hl [1, 2, 0] rfl) hq (fun H locs ls hP hD hS hl => ?_)
  cases hok
  exact cr_v hx hb hr hlocks hQ dX9_reaches_175 hP hS
