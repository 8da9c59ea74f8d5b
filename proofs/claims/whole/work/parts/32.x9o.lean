set_option maxHeartbeats 40000000 in
set_option maxRecDepth 100000 in
theorem c_X9_lost (l : Launch) (G : va_G) (cA : Nat → ClassId) (ts : Nat → Nat) (h0 : Nat) (h0_g : Nat) (h0_p : Nat) (h0_kept : Nat) (h0_changed : Nat) (h0_causes : Nat) (h0_rows : Nat) (h0_sorts : Nat) (h0_sizes : Nat) (h0_moved : Nat) (h0_outs : Nat) (h0_losses : Nat) (h0_levelOf : Nat) (h0_levelOften : Nat) (h0_to : Nat) (h0_round : Nat) (h0_tail : Nat) (h0_path : Nat) (h0_leastOn : Nat) (h0_period : Nat) (h0_amplitude : Nat) (h0_basin : Nat) (h0_numbered : Nat) (h0_isReached : Nat) (h0_tape : Nat) (h0_told : Nat) (h0_traced : Nat) (x1 : Int32) (x2 : Int32) (s0__isKept : Int32) (s0__done : Int32) (s0__undoable : Int32) (s0__redoable : Int32) (s0__all : Int32) (s0__v : Int32) (s0__loss : Int32) (s0__isOver : Int32) (s0__hasCauses : Int32) (s0__outMany : Int32) (s0__overMany : Int32) (s0__isHalted : Int32) (s0__levelMany : Int32) (s0__rounds : Int32) (s0__stuck : Int32) (s0__onRounds : Int32) (s0__longest : Int32) (s0__loudest : Int32) (s0__reached : Int32) (s0__isAnyOver : Int32) (s0__taped : Int32) (s0__at : Int32) (s0__ran : Int32) (s0_g : Nat → Int32) (s0_p : Nat → Int32) (r : Int64) (o0__all : Int32) (o0__v : Int32) (o0__loss : Int32) (o0__isOver : Int32) (o0_p : Nat → Int32) (hok : fX9_lost x1 x2 s0__all s0__v s0__loss s0__isOver s0_g s0_p = some (r, o0__all, o0__v, o0__loss, o0__isOver, o0_p)) : Ct l G cA ts yX9_lost wsX9_lost 5 133 [.ref h0, .int x1, .int x2] (wm_X9_begins cA h0 h0_g h0_p h0_kept h0_changed h0_causes h0_rows h0_sorts h0_sizes h0_moved h0_outs h0_losses h0_levelOf h0_levelOften h0_to h0_round h0_tail h0_path h0_leastOn h0_period h0_amplitude h0_basin h0_numbered h0_isReached h0_tape h0_told h0_traced s0__isKept s0__done s0__undoable s0__redoable s0__all s0__v s0__loss s0__isOver s0__hasCauses s0__outMany s0__overMany s0__isHalted s0__levelMany s0__rounds s0__stuck s0__onRounds s0__longest s0__loudest s0__reached s0__isAnyOver s0__taped s0__at s0__ran s0_g s0_p) (wm_X9_begins cA h0 h0_g h0_p h0_kept h0_changed h0_causes h0_rows h0_sorts h0_sizes h0_moved h0_outs h0_losses h0_levelOf h0_levelOften h0_to h0_round h0_tail h0_path h0_leastOn h0_period h0_amplitude h0_basin h0_numbered h0_isReached h0_tape h0_told h0_traced s0__isKept s0__done s0__undoable s0__redoable o0__all o0__v o0__loss o0__isOver s0__hasCauses s0__outMany s0__overMany s0__isHalted s0__levelMany s0__rounds s0__stuck s0__onRounds s0__longest s0__loudest s0__reached s0__isAnyOver s0__taped s0__at s0__ran s0_g o0_p) (some (.long r)) := by
  refine Ct.intro (cc := cX9_lost) (maxL := 6) (ret := some .long) (by decide +kernel) rfl (Nat.le_of_ble_eq_true rfl) ?_
  intro p e s m ar below meth c A Q hx hb hr hml hown hlocks hts hK hZ hA hQ hP hD hS ls hl
  have hown : s.vm.findClass RX9 = some m.cls := hown
  have hinX9 : ∀ w ∈ wsX90, w ∈ wsX9_lost := fun _ h => List.mem_cons_of_mem _ (List.mem_append_right _ (h))
  have hl : lv_has ls 6 [(0, .ref h0), (1, .int x1), (2, .int x2)] := hl
  have hP : va_P G vwCl (wm_X9_begins cA h0 h0_g h0_p h0_kept h0_changed h0_causes h0_rows h0_sorts h0_sizes h0_moved h0_outs h0_losses h0_levelOf h0_levelOften h0_to h0_round h0_tail h0_path h0_leastOn h0_period h0_amplitude h0_basin h0_numbered h0_isReached h0_tape h0_told h0_traced s0__isKept s0__done s0__undoable s0__redoable s0__all s0__v s0__loss s0__isOver s0__hasCauses s0__outMany s0__overMany s0__isHalted s0__levelMany s0__rounds s0__stuck s0__onRounds s0__longest s0__loudest s0__reached s0__isAnyOver s0__taped s0__at s0__ran s0_g s0_p) s.heap := hP
  have hD : va_D A (wm_X9_begins cA h0 h0_g h0_p h0_kept h0_changed h0_causes h0_rows h0_sorts h0_sizes h0_moved h0_outs h0_losses h0_levelOf h0_levelOften h0_to h0_round h0_tail h0_path h0_leastOn h0_period h0_amplitude h0_basin h0_numbered h0_isReached h0_tape h0_told h0_traced s0__isKept s0__done s0__undoable s0__redoable s0__all s0__v s0__loss s0__isOver s0__hasCauses s0__outMany s0__overMany s0__isHalted s0__levelMany s0__rounds s0__stuck s0__onRounds s0__longest s0__loudest s0__reached s0__isAnyOver s0__taped s0__at s0__ran s0_g s0_p) := hD
  have L_26 : ∀ (n : Nat) (y3 : Int64) (y5 : Int32) (c0__all : Int32) (c0__v : Int32) (c0__loss : Int32) (c0__isOver : Int32) (c0_p : Nat → Int32) (p0_0 : Int64) (p0_1 : Int32) (p0_2 : Int32) (p0_3 : Int32) (p0_4 : Int32) (p0_5 : Nat → Int32) (H : Heap) (locs : List Loc) (ls : Array Slot), va_P G vwCl (wm_X9_begins cA h0 h0_g h0_p h0_kept h0_changed h0_causes h0_rows h0_sorts h0_sizes h0_moved h0_outs h0_losses h0_levelOf h0_levelOften h0_to h0_round h0_tail h0_path h0_leastOn h0_period h0_amplitude h0_basin h0_numbered h0_isReached h0_tape h0_told h0_traced s0__isKept s0__done s0__undoable s0__redoable c0__all c0__v c0__loss c0__isOver s0__hasCauses s0__outMany s0__overMany s0__isHalted s0__levelMany s0__rounds s0__stuck s0__onRounds s0__longest s0__loudest s0__reached s0__isAnyOver s0__taped s0__at s0__ran s0_g c0_p) H → va_D A (wm_X9_begins cA h0 h0_g h0_p h0_kept h0_changed h0_causes h0_rows h0_sorts h0_sizes h0_moved h0_outs h0_losses h0_levelOf h0_levelOften h0_to h0_round h0_tail h0_path h0_leastOn h0_period h0_amplitude h0_basin h0_numbered h0_isReached h0_tape h0_told h0_traced s0__isKept s0__done s0__undoable s0__redoable c0__all c0__v c0__loss c0__isOver s0__hasCauses s0__outMany s0__overMany s0__isHalted s0__levelMany s0__rounds s0__stuck s0__onRounds s0__longest s0__loudest s0__reached s0__isAnyOver s0__taped s0__at s0__ran s0_g c0_p) → va_S A s.heap H locs → lv_has ls 6 [(0, .ref h0), (1, .int x1), (2, .int x2), (3, .long y3), (5, .int y5)] → fX9_lost_L26 x1 x2 s0_g n y3 y5 c0__all c0__v c0__loss c0__isOver c0_p = some (p0_0, p0_1, p0_2, p0_3, p0_4, p0_5) → (∀ (H : Heap) (locs : List Loc) (ls : Array Slot), va_P G vwCl (wm_X9_begins cA h0 h0_g h0_p h0_kept h0_changed h0_causes h0_rows h0_sorts h0_sizes h0_moved h0_outs h0_losses h0_levelOf h0_levelOften h0_to h0_round h0_tail h0_path h0_leastOn h0_period h0_amplitude h0_basin h0_numbered h0_isReached h0_tape h0_told h0_traced s0__isKept s0__done s0__undoable s0__redoable p0_1 p0_2 p0_3 p0_4 s0__hasCauses s0__outMany s0__overMany s0__isHalted s0__levelMany s0__rounds s0__stuck s0__onRounds s0__longest s0__loudest s0__reached s0__isAnyOver s0__taped s0__at s0__ran s0_g p0_5) H → va_D A (wm_X9_begins cA h0 h0_g h0_p h0_kept h0_changed h0_causes h0_rows h0_sorts h0_sizes h0_moved h0_outs h0_losses h0_levelOf h0_levelOften h0_to h0_round h0_tail h0_path h0_leastOn h0_period h0_amplitude h0_basin h0_numbered h0_isReached h0_tape h0_told h0_traced s0__isKept s0__done s0__undoable s0__redoable p0_1 p0_2 p0_3 p0_4 s0__hasCauses s0__outMany s0__overMany s0__isHalted s0__levelMany s0__rounds s0__stuck s0__onRounds s0__longest s0__loudest s0__reached s0__isAnyOver s0__taped s0__at s0__ran s0_g p0_5) → va_S A s.heap H locs → lv_has ls 6 [(0, .ref h0), (2, .int x2), (3, .long p0_0)] → W p l e (rmX 5 133) s m ar below meth c H locs 0 0 Q (F0 m 60 ls [])) → W p l e (rmX 5 133) s m ar below meth c H locs 0 0 Q (F0 m 26 ls []) := by
    intro n
    induction n with
    | zero =>
      intro y3 y5 c0__all c0__v c0__loss c0__isOver c0_p p0_0 p0_1 p0_2 p0_3 p0_4 p0_5 H locs ls hP hD hS hl hok
      rw [fX9_lost_L26] at hok
      cases hok
    | succ n ih =>
      intro y3 y5 c0__all c0__v c0__loss c0__isOver c0_p p0_0 p0_1 p0_2 p0_3 p0_4 p0_5 H locs ls hP hD hS hl hok K
      rw [fX9_lost_L26] at hok
      refine lv_iload hx hb dX9_lost_26 (lv_at hl 4 rfl) ?_
      refine lv_aload_n hx hb dX9_lost_28 rfl (lv_at hl 0 rfl) ?_
      obtain ⟨r3, hq, hok⟩ := g_bnd1 hok
      refine cG (is := [0, 1]) (wc := (wm_X9_half cA h0 h0_g h0_kept h0_changed h0_p h0_causes h0_rows h0_sorts h0_sizes h0_moved h0_outs h0_losses h0_levelOf h0_levelOften h0_to h0_round h0_tail h0_path h0_leastOn h0_period h0_amplitude h0_basin h0_numbered h0_isReached h0_tape h0_told h0_traced s0__isKept s0__done s0__undoable s0__redoable c0__all c0__v c0__loss c0__isOver s0__hasCauses s0__outMany s0__overMany s0__isHalted s0__levelMany s0__rounds s0__stuck s0__onRounds s0__longest s0__loudest s0__reached s0__isAnyOver s0__taped s0__at s0__ran s0_g)) (w1 := (wm_X9_half cA h0 h0_g h0_kept h0_changed h0_p h0_causes h0_rows h0_sorts h0_sizes h0_moved h0_outs h0_losses h0_levelOf h0_levelOften h0_to h0_round h0_tail h0_path h0_leastOn h0_period h0_amplitude h0_basin h0_numbered h0_isReached h0_tape h0_told h0_traced s0__isKept s0__done s0__undoable s0__redoable c0__all c0__v c0__loss c0__isOver s0__hasCauses s0__outMany s0__overMany s0__isHalted s0__levelMany s0__rounds s0__stuck s0__onRounds s0__longest s0__loudest s0__reached s0__isAnyOver s0__taped s0__at s0__ran s0_g)) (rv := (some (.int r3))) (st1 := [.int r3, .int y5]) (va_runV (Ts := wsX9_lost) (As := []) (rest := [.int y5]) ⟨hx, hb, hml, hown, hts⟩ (c_X9_starts l G cA ts h0 h0_g h0_kept h0_changed h0_p h0_causes h0_rows h0_sorts h0_sizes h0_moved h0_outs h0_losses h0_levelOf h0_levelOften h0_to h0_round h0_tail h0_path h0_leastOn h0_period h0_amplitude h0_basin h0_numbered h0_isReached h0_tape h0_told h0_traced s0__isKept s0__done s0__undoable s0__redoable c0__all c0__v c0__loss c0__isOver s0__hasCauses s0__outMany s0__overMany s0__isHalted s0__levelMany s0__rounds s0__stuck s0__onRounds s0__longest s0__loudest s0__reached s0__isAnyOver s0__taped s0__at s0__ran s0_g r3 hq H.size) (cwV 0 hts gX9_lost_X9_starts rfl rfl rfl (by decide +kernel) ⟨Nat.le_of_ble_eq_true rfl, Nat.le_of_ble_eq_true rfl⟩) (pre_V (ci := 9) (q0 := 0) (is := [0, 1]) rfl rfl hP hD hS hA hK hZ (by decide +kernel) (by rfl)) rfl rfl hl.1 rfl (by exact lv_room (Nat.le_of_ble_eq_true rfl)) dX9_lost_29 ⟨Nat.le_refl _, Nat.le_refl _⟩) hP hD hS hA (by decide +kernel) (by rfl) (by rfl) rfl (fun H locs hP hD hS => ?_)
      have hP : va_P G vwCl (wm_X9_begins cA h0 h0_g h0_p h0_kept h0_changed h0_causes h0_rows h0_sorts h0_sizes h0_moved h0_outs h0_losses h0_levelOf h0_levelOften h0_to h0_round h0_tail h0_path h0_leastOn h0_period h0_amplitude h0_basin h0_numbered h0_isReached h0_tape h0_told h0_traced s0__isKept s0__done s0__undoable s0__redoable c0__all c0__v c0__loss c0__isOver s0__hasCauses s0__outMany s0__overMany s0__isHalted s0__levelMany s0__rounds s0__stuck s0__onRounds s0__longest s0__loudest s0__reached s0__isAnyOver s0__taped s0__at s0__ran s0_g c0_p) H := hP
      have hD : va_D A (wm_X9_begins cA h0 h0_g h0_p h0_kept h0_changed h0_causes h0_rows h0_sorts h0_sizes h0_moved h0_outs h0_losses h0_levelOf h0_levelOften h0_to h0_round h0_tail h0_path h0_leastOn h0_period h0_amplitude h0_basin h0_numbered h0_isReached h0_tape h0_told h0_traced s0__isKept s0__done s0__undoable s0__redoable c0__all c0__v c0__loss c0__isOver s0__hasCauses s0__outMany s0__overMany s0__isHalted s0__levelMany s0__rounds s0__stuck s0__onRounds s0__longest s0__loudest s0__reached s0__isAnyOver s0__taped s0__at s0__ran s0_g c0_p) := hD
      refine lv_icmp_ge (tgt := 60) hx hb dX9_lost_32 (by decide) (fun c => ?_) (fun c => ?_)
      · replace hok := g_pos hok c
        cases hok
        exact K _ _ _ hP hD hS (lv_sub hl [0, 2, 3] rfl)
      replace hok := g_neg hok c
      refine lv_aload_n hx hb dX9_lost_35 rfl (lv_at hl 0 rfl) ?_
      refine lv_iload hx hb dX9_lost_36 (lv_at hl 4 rfl) ?_
      refine lv_iload_n hx hb dX9_lost_38 rfl (lv_at hl 1 rfl) ?_
      obtain ⟨r4, o5, o6, o7, o8, o9, hq, hok⟩ := g_bnd6 hok
      refine cG (is := [0, 1, 2]) (wc := (wm_X9_begins cA h0 h0_g h0_p h0_kept h0_changed h0_causes h0_rows h0_sorts h0_sizes h0_moved h0_outs h0_losses h0_levelOf h0_levelOften h0_to h0_round h0_tail h0_path h0_leastOn h0_period h0_amplitude h0_basin h0_numbered h0_isReached h0_tape h0_told h0_traced s0__isKept s0__done s0__undoable s0__redoable c0__all c0__v c0__loss c0__isOver s0__hasCauses s0__outMany s0__overMany s0__isHalted s0__levelMany s0__rounds s0__stuck s0__onRounds s0__longest s0__loudest s0__reached s0__isAnyOver s0__taped s0__at s0__ran s0_g c0_p)) (w1 := (wm_X9_begins cA h0 h0_g h0_p h0_kept h0_changed h0_causes h0_rows h0_sorts h0_sizes h0_moved h0_outs h0_losses h0_levelOf h0_levelOften h0_to h0_round h0_tail h0_path h0_leastOn h0_period h0_amplitude h0_basin h0_numbered h0_isReached h0_tape h0_told h0_traced s0__isKept s0__done s0__undoable s0__redoable o5 o6 o7 o8 s0__hasCauses s0__outMany s0__overMany s0__isHalted s0__levelMany s0__rounds s0__stuck s0__onRounds s0__longest s0__loudest s0__reached s0__isAnyOver s0__taped s0__at s0__ran s0_g o9)) (rv := (some (.int r4))) (st1 := [.int r4]) (va_runV (Ts := wsX9_lost) (As := [.int y5, .int x1]) (rest := []) ⟨hx, hb, hml, hown, hts⟩ (c_X9_behind l G cA ts h0 h0_g h0_p h0_kept h0_changed h0_causes h0_rows h0_sorts h0_sizes h0_moved h0_outs h0_losses h0_levelOf h0_levelOften h0_to h0_round h0_tail h0_path h0_leastOn h0_period h0_amplitude h0_basin h0_numbered h0_isReached h0_tape h0_told h0_traced y5 x1 s0__isKept s0__done s0__undoable s0__redoable c0__all c0__v c0__loss c0__isOver s0__hasCauses s0__outMany s0__overMany s0__isHalted s0__levelMany s0__rounds s0__stuck s0__onRounds s0__longest s0__loudest s0__reached s0__isAnyOver s0__taped s0__at s0__ran s0_g c0_p r4 o5 o6 o7 o8 o9 hq H.size) (cwV 2 hts gX9_lost_X9_behind rfl rfl rfl (by decide +kernel) ⟨Nat.le_of_ble_eq_true rfl, Nat.le_of_ble_eq_true rfl⟩) (pre_V (ci := 9) (q0 := 0) (is := [0, 1, 2]) rfl rfl hP hD hS hA hK hZ (by decide +kernel) (by rfl)) rfl rfl hl.1 rfl (by exact lv_room (Nat.le_of_ble_eq_true rfl)) dX9_lost_39 ⟨Nat.le_refl _, Nat.le_refl _⟩) hP hD hS hA (by decide +kernel) (by rfl) (by rfl) rfl (fun H locs hP hD hS => ?_)
      have hP : va_P G vwCl (wm_X9_begins cA h0 h0_g h0_p h0_kept h0_changed h0_causes h0_rows h0_sorts h0_sizes h0_moved h0_outs h0_losses h0_levelOf h0_levelOften h0_to h0_round h0_tail h0_path h0_leastOn h0_period h0_amplitude h0_basin h0_numbered h0_isReached h0_tape h0_told h0_traced s0__isKept s0__done s0__undoable s0__redoable o5 o6 o7 o8 s0__hasCauses s0__outMany s0__overMany s0__isHalted s0__levelMany s0__rounds s0__stuck s0__onRounds s0__longest s0__loudest s0__reached s0__isAnyOver s0__taped s0__at s0__ran s0_g o9) H := hP
      have hD : va_D A (wm_X9_begins cA h0 h0_g h0_p h0_kept h0_changed h0_causes h0_rows h0_sorts h0_sizes h0_moved h0_outs h0_losses h0_levelOf h0_levelOften h0_to h0_round h0_tail h0_path h0_leastOn h0_period h0_amplitude h0_basin h0_numbered h0_isReached h0_tape h0_told h0_traced s0__isKept s0__done s0__undoable s0__redoable o5 o6 o7 o8 s0__hasCauses s0__outMany s0__overMany s0__isHalted s0__levelMany s0__rounds s0__stuck s0__onRounds s0__longest s0__loudest s0__reached s0__isAnyOver s0__taped s0__at s0__ran s0_g o9) := hD
      refine lv_pop hx hb dX9_lost_42 rfl ?_
      refine lv_lload_n hx hb dX9_lost_43 rfl (lv_at hl 3 rfl) ?_
      refine lv_aload_n hx hb dX9_lost_44 rfl (lv_at hl 0 rfl) ?_
      refine va_get (ci := 9) (v := .int o7) (C := RX9) (T := TX9) (N := 49) hx hb hts hinX9 hown hK hP 0 rfl rfl 10 (by decide) (hts _ (List.mem_of_getElem? (i := 2) rfl)) (fun _ h9 => h9) rfl dX9_lost_45 ?_
      refine va_mabs hx hb (hml.trans hl.1.symm) hown (hts _ (List.mem_of_getElem? (i := 3) rfl)) (hts _ (List.mem_of_getElem? (i := 4) rfl)) (hts _ (List.mem_of_getElem? (i := 5) rfl)) (hts _ (List.mem_of_getElem? (i := 6) rfl)) (Nat.le_of_ble_eq_true rfl) (Nat.le_of_ble_eq_true rfl) (Nat.zero_le _) (Nat.zero_le _) dX9_lost_48 ?_
      refine lv_i2l (v := ((if 0 ≤ o7 then o7 else 0 - o7).toInt64)) hx hb dX9_lost_51 rfl ?_
      refine lv_ladd hx hb dX9_lost_52 ?_
      refine lv_lstore_n (lv' := [(3, .long (y3 + ((if 0 ≤ o7 then o7 else 0 - o7).toInt64))), (0, .ref h0), (1, .int x1), (2, .int x2), (5, .int y5)]) hx hb dX9_lost_53 rfl hl (by decide) rfl (fun ls hl => ?_)
      refine lv_iinc (v := (y5 + 1)) (lv' := [(5, .int (y5 + 1)), (3, .long (y3 + ((if 0 ≤ o7 then o7 else 0 - o7).toInt64))), (0, .ref h0), (1, .int x1), (2, .int x2)]) hx hb dX9_lost_54 hl (k := 4) rfl rfl (by decide) rfl (fun ls hl => ?_)
      refine lv_goto (tgt := 26) hx hb dX9_lost_57 (by decide) ?_
      exact ih (y3 + ((if 0 ≤ o7 then o7 else 0 - o7).toInt64)) (y5 + 1) o5 o6 o7 o8 o9 p0_0 p0_1 p0_2 p0_3 p0_4 p0_5 _ _ _ hP hD hS (lv_sub hl [2, 3, 4, 1, 0] rfl) hok K
  unfold fX9_lost at hok
  refine lv_iload_n hx hb dX9_lost_0 rfl (lv_at hl 1 rfl) ?_
  obtain ⟨r1, hq, hok⟩ := g_bnd1 hok
  refine cG (is := []) (wc := (wm_X0_find cA)) (w1 := (wm_X0_find cA)) (rv := (some (.int r1))) (st1 := [.int r1]) (va_runS (Ts := wsX9_lost) (As := [.int x1]) (rest := []) ⟨hx, hb, hml, hown, hts⟩ (c_X9_isInput l G cA ts x1 r1 hq s.heap.size) (va_cwS 1 hts gX9_lost_X9_isInput rfl rfl rfl (by decide +kernel) ⟨Nat.le_of_ble_eq_true rfl, Nat.le_of_ble_eq_true rfl⟩) (pre_S (is := []) hP hD hS hA hK hZ (by decide +kernel) (by rfl)) rfl rfl hl.1 rfl (by exact lv_room (Nat.le_of_ble_eq_true rfl)) dX9_lost_1 ⟨Nat.le_refl _, Nat.le_refl _⟩) hP hD hS hA (by decide +kernel) (by rfl) (by rfl) rfl (fun H locs hP hD hS => ?_)
  have hP : va_P G vwCl (wm_X9_begins cA h0 h0_g h0_p h0_kept h0_changed h0_causes h0_rows h0_sorts h0_sizes h0_moved h0_outs h0_losses h0_levelOf h0_levelOften h0_to h0_round h0_tail h0_path h0_leastOn h0_period h0_amplitude h0_basin h0_numbered h0_isReached h0_tape h0_told h0_traced s0__isKept s0__done s0__undoable s0__redoable s0__all s0__v s0__loss s0__isOver s0__hasCauses s0__outMany s0__overMany s0__isHalted s0__levelMany s0__rounds s0__stuck s0__onRounds s0__longest s0__loudest s0__reached s0__isAnyOver s0__taped s0__at s0__ran s0_g s0_p) H := hP
  have hD : va_D A (wm_X9_begins cA h0 h0_g h0_p h0_kept h0_changed h0_causes h0_rows h0_sorts h0_sizes h0_moved h0_outs h0_losses h0_levelOf h0_levelOften h0_to h0_round h0_tail h0_path h0_leastOn h0_period h0_amplitude h0_basin h0_numbered h0_isReached h0_tape h0_told h0_traced s0__isKept s0__done s0__undoable s0__redoable s0__all s0__v s0__loss s0__isOver s0__hasCauses s0__outMany s0__overMany s0__isHalted s0__levelMany s0__rounds s0__stuck s0__onRounds s0__longest s0__loudest s0__reached s0__isAnyOver s0__taped s0__at s0__ran s0_g s0_p) := hD
  refine lv_if_eq (tgt := 17) hx hb dX9_lost_4 (by decide) (fun c => ?_) (fun c => ?_)
  · replace hok := g_pos hok c
    refine lv_ldc2 (v := -9223372036854775808) hx hb hown (hts _ (List.mem_of_getElem? (i := 1) rfl)) dX9_lost_17 ?_
    cases hok
    exact cr_l hx hb hr hlocks hQ dX9_lost_20 hP hS
  replace hok := g_neg hok c
  refine lv_iload_n hx hb dX9_lost_7 rfl (lv_at hl 2 rfl) ?_
  refine lv_i2l (v := (x2.toInt64)) hx hb dX9_lost_8 rfl ?_
  refine lv_lconst (v := 0) hx hb dX9_lost_9 (by decide) ?_
  refine lv_lconst (v := 1) hx hb dX9_lost_10 (by decide) ?_
  obtain ⟨r2, hq, hok⟩ := g_bnd1 hok
  refine cG (is := []) (wc := (wm_X0_find cA)) (w1 := (wm_X0_find cA)) (rv := (some (.int r2))) (st1 := [.int r2]) (va_runS (Ts := wsX9_lost) (As := [.long (x2.toInt64), .long (0:Int64), .long (1:Int64)]) (rest := []) ⟨hx, hb, hml, hown, hts⟩ (c_X9_in l G cA ts (x2.toInt64) (0:Int64) (1:Int64) r2 hq H.size) (va_cwS 3 hts gX9_lost_X9_in rfl rfl rfl (by decide +kernel) ⟨Nat.le_of_ble_eq_true rfl, Nat.le_of_ble_eq_true rfl⟩) (pre_S (is := []) hP hD hS hA hK hZ (by decide +kernel) (by rfl)) rfl rfl hl.1 rfl (by exact lv_room (Nat.le_of_ble_eq_true rfl)) dX9_lost_11 ⟨Nat.le_refl _, Nat.le_refl _⟩) hP hD hS hA (by decide +kernel) (by rfl) (by rfl) rfl (fun H locs hP hD hS => ?_)
  have hP : va_P G vwCl (wm_X9_begins cA h0 h0_g h0_p h0_kept h0_changed h0_causes h0_rows h0_sorts h0_sizes h0_moved h0_outs h0_losses h0_levelOf h0_levelOften h0_to h0_round h0_tail h0_path h0_leastOn h0_period h0_amplitude h0_basin h0_numbered h0_isReached h0_tape h0_told h0_traced s0__isKept s0__done s0__undoable s0__redoable s0__all s0__v s0__loss s0__isOver s0__hasCauses s0__outMany s0__overMany s0__isHalted s0__levelMany s0__rounds s0__stuck s0__onRounds s0__longest s0__loudest s0__reached s0__isAnyOver s0__taped s0__at s0__ran s0_g s0_p) H := hP
  have hD : va_D A (wm_X9_begins cA h0 h0_g h0_p h0_kept h0_changed h0_causes h0_rows h0_sorts h0_sizes h0_moved h0_outs h0_losses h0_levelOf h0_levelOften h0_to h0_round h0_tail h0_path h0_leastOn h0_period h0_amplitude h0_basin h0_numbered h0_isReached h0_tape h0_told h0_traced s0__isKept s0__done s0__undoable s0__redoable s0__all s0__v s0__loss s0__isOver s0__hasCauses s0__outMany s0__overMany s0__isHalted s0__levelMany s0__rounds s0__stuck s0__onRounds s0__longest s0__loudest s0__reached s0__isAnyOver s0__taped s0__at s0__ran s0_g s0_p) := hD
  refine lv_if_ne (tgt := 21) hx hb dX9_lost_14 (by decide) (fun c => ?_) (fun c => ?_)
  · replace hok := g_neg hok c
    refine lv_lconst (v := 0) hx hb dX9_lost_21 (by decide) ?_
    refine lv_lstore_n (lv' := [(3, .long (0:Int64)), (0, .ref h0), (1, .int x1), (2, .int x2)]) hx hb dX9_lost_22 rfl hl (by decide) rfl (fun ls hl => ?_)
    refine lv_iconst (v := 0) hx hb dX9_lost_23 (by decide) ?_
    refine lv_istore (lv' := [(5, .int (0:Int32)), (3, .long (0:Int64)), (0, .ref h0), (1, .int x1), (2, .int x2)]) hx hb dX9_lost_24 hl (by decide) rfl (fun ls hl => ?_)
    obtain ⟨o10, o11, o12, o13, o14, o15, hq, hok⟩ := g_bnd6 hok
    refine L_26 FUEL (0:Int64) (0:Int32) s0__all s0__v s0__loss s0__isOver s0_p o10 o11 o12 o13 o14 o15 _ _ _ hP hD hS (lv_sub hl [2, 3, 4, 1, 0] rfl) hq (fun H locs ls hP hD hS hl => ?_)
    refine lv_lload_n hx hb dX9_lost_60 rfl (lv_at hl 2 rfl) ?_
    refine lv_aload_n hx hb dX9_lost_61 rfl (lv_at hl 0 rfl) ?_
    obtain ⟨r16, hq, hok⟩ := g_bnd1 hok
    refine cG (is := [0, 1]) (wc := (wm_X9_half cA h0 h0_g h0_kept h0_changed h0_p h0_causes h0_rows h0_sorts h0_sizes h0_moved h0_outs h0_losses h0_levelOf h0_levelOften h0_to h0_round h0_tail h0_path h0_leastOn h0_period h0_amplitude h0_basin h0_numbered h0_isReached h0_tape h0_told h0_traced s0__isKept s0__done s0__undoable s0__redoable o11 o12 o13 o14 s0__hasCauses s0__outMany s0__overMany s0__isHalted s0__levelMany s0__rounds s0__stuck s0__onRounds s0__longest s0__loudest s0__reached s0__isAnyOver s0__taped s0__at s0__ran s0_g)) (w1 := (wm_X9_half cA h0 h0_g h0_kept h0_changed h0_p h0_causes h0_rows h0_sorts h0_sizes h0_moved h0_outs h0_losses h0_levelOf h0_levelOften h0_to h0_round h0_tail h0_path h0_leastOn h0_period h0_amplitude h0_basin h0_numbered h0_isReached h0_tape h0_told h0_traced s0__isKept s0__done s0__undoable s0__redoable o11 o12 o13 o14 s0__hasCauses s0__outMany s0__overMany s0__isHalted s0__levelMany s0__rounds s0__stuck s0__onRounds s0__longest s0__loudest s0__reached s0__isAnyOver s0__taped s0__at s0__ran s0_g)) (rv := (some (.int r16))) (st1 := [.int r16, .long o10]) (va_runV (Ts := wsX9_lost) (As := []) (rest := [.long o10]) ⟨hx, hb, hml, hown, hts⟩ (c_X9_starts l G cA ts h0 h0_g h0_kept h0_changed h0_p h0_causes h0_rows h0_sorts h0_sizes h0_moved h0_outs h0_losses h0_levelOf h0_levelOften h0_to h0_round h0_tail h0_path h0_leastOn h0_period h0_amplitude h0_basin h0_numbered h0_isReached h0_tape h0_told h0_traced s0__isKept s0__done s0__undoable s0__redoable o11 o12 o13 o14 s0__hasCauses s0__outMany s0__overMany s0__isHalted s0__levelMany s0__rounds s0__stuck s0__onRounds s0__longest s0__loudest s0__reached s0__isAnyOver s0__taped s0__at s0__ran s0_g r16 hq H.size) (cwV 0 hts gX9_lost_X9_starts rfl rfl rfl (by decide +kernel) ⟨Nat.le_of_ble_eq_true rfl, Nat.le_of_ble_eq_true rfl⟩) (pre_V (ci := 9) (q0 := 0) (is := [0, 1]) rfl rfl hP hD hS hA hK hZ (by decide +kernel) (by rfl)) rfl rfl hl.1 rfl (by exact lv_room (Nat.le_of_ble_eq_true rfl)) dX9_lost_62 ⟨Nat.le_refl _, Nat.le_refl _⟩) hP hD hS hA (by decide +kernel) (by rfl) (by rfl) rfl (fun H locs hP hD hS => ?_)
    have hP : va_P G vwCl (wm_X9_begins cA h0 h0_g h0_p h0_kept h0_changed h0_causes h0_rows h0_sorts h0_sizes h0_moved h0_outs h0_losses h0_levelOf h0_levelOften h0_to h0_round h0_tail h0_path h0_leastOn h0_period h0_amplitude h0_basin h0_numbered h0_isReached h0_tape h0_told h0_traced s0__isKept s0__done s0__undoable s0__redoable o11 o12 o13 o14 s0__hasCauses s0__outMany s0__overMany s0__isHalted s0__levelMany s0__rounds s0__stuck s0__onRounds s0__longest s0__loudest s0__reached s0__isAnyOver s0__taped s0__at s0__ran s0_g o15) H := hP
    have hD : va_D A (wm_X9_begins cA h0 h0_g h0_p h0_kept h0_changed h0_causes h0_rows h0_sorts h0_sizes h0_moved h0_outs h0_losses h0_levelOf h0_levelOften h0_to h0_round h0_tail h0_path h0_leastOn h0_period h0_amplitude h0_basin h0_numbered h0_isReached h0_tape h0_told h0_traced s0__isKept s0__done s0__undoable s0__redoable o11 o12 o13 o14 s0__hasCauses s0__outMany s0__overMany s0__isHalted s0__levelMany s0__rounds s0__stuck s0__onRounds s0__longest s0__loudest s0__reached s0__isAnyOver s0__taped s0__at s0__ran s0_g o15) := hD
    refine lv_i2l (v := (r16.toInt64)) hx hb dX9_lost_65 rfl ?_
    refine lv_aload_n hx hb dX9_lost_66 rfl (lv_at hl 0 rfl) ?_
    refine va_get (ci := 9) (v := .ref h0_g) (C := RX9) (T := TX9) (N := 49) hx hb hts hinX9 hown hK hP 0 rfl rfl 0 (by decide) (hts _ (List.mem_of_getElem? (i := 7) rfl)) (fun _ h9 => h9) rfl dX9_lost_67 ?_
    refine lv_bipush (v := 6) hx hb dX9_lost_70 (by decide) ?_
    refine x_iald (k := 6) hx hb hK hP 1 0 rfl rfl (show ¬ ((6:Int32) < 0 ∨ 13 ≤ (6:Int32).toNatClampNeg) by decide) (by decide) dX9_lost_72 ?_
    refine lv_lshl (v := ((r16.toInt64) <<< ((s0_g 6).toInt64 &&& 63))) hx hb dX9_lost_73 rfl ?_
    refine lv_iload_n hx hb dX9_lost_74 rfl (lv_at hl 1 rfl) ?_
    obtain ⟨r17, hq, hok⟩ := g_bnd1 hok
    refine cG (is := []) (wc := (wm_X0_find cA)) (w1 := (wm_X0_find cA)) (rv := (some (.long r17))) (st1 := [.long r17]) (va_runS (Ts := wsX9_lost) (As := [.long o10, .long ((r16.toInt64) <<< ((s0_g 6).toInt64 &&& 63)), .int x2]) (rest := []) ⟨hx, hb, hml, hown, hts⟩ (c_X9_lowest l G cA ts o10 ((r16.toInt64) <<< ((s0_g 6).toInt64 &&& 63)) x2 r17 hq H.size) (va_cwS 3 hts gX9_lost_X9_lowest rfl rfl rfl (by decide +kernel) ⟨Nat.le_of_ble_eq_true rfl, Nat.le_of_ble_eq_true rfl⟩) (pre_S (is := []) hP hD hS hA hK hZ (by decide +kernel) (by rfl)) rfl rfl hl.1 rfl (by exact lv_room (Nat.le_of_ble_eq_true rfl)) dX9_lost_75 ⟨Nat.le_refl _, Nat.le_refl _⟩) hP hD hS hA (by decide +kernel) (by rfl) (by rfl) rfl (fun H locs hP hD hS => ?_)
    have hP : va_P G vwCl (wm_X9_begins cA h0 h0_g h0_p h0_kept h0_changed h0_causes h0_rows h0_sorts h0_sizes h0_moved h0_outs h0_losses h0_levelOf h0_levelOften h0_to h0_round h0_tail h0_path h0_leastOn h0_period h0_amplitude h0_basin h0_numbered h0_isReached h0_tape h0_told h0_traced s0__isKept s0__done s0__undoable s0__redoable o11 o12 o13 o14 s0__hasCauses s0__outMany s0__overMany s0__isHalted s0__levelMany s0__rounds s0__stuck s0__onRounds s0__longest s0__loudest s0__reached s0__isAnyOver s0__taped s0__at s0__ran s0_g o15) H := hP
    have hD : va_D A (wm_X9_begins cA h0 h0_g h0_p h0_kept h0_changed h0_causes h0_rows h0_sorts h0_sizes h0_moved h0_outs h0_losses h0_levelOf h0_levelOften h0_to h0_round h0_tail h0_path h0_leastOn h0_period h0_amplitude h0_basin h0_numbered h0_isReached h0_tape h0_told h0_traced s0__isKept s0__done s0__undoable s0__redoable o11 o12 o13 o14 s0__hasCauses s0__outMany s0__overMany s0__isHalted s0__levelMany s0__rounds s0__stuck s0__onRounds s0__longest s0__loudest s0__reached s0__isAnyOver s0__taped s0__at s0__ran s0_g o15) := hD
    cases hok
    exact cr_l hx hb hr hlocks hQ dX9_lost_78 hP hS
  replace hok := g_pos hok c
  refine lv_ldc2 (v := -9223372036854775808) hx hb hown (hts _ (List.mem_of_getElem? (i := 1) rfl)) dX9_lost_17 ?_
  cases hok
  exact cr_l hx hb hr hlocks hQ dX9_lost_20 hP hS
set_option maxHeartbeats 40000000 in
set_option maxRecDepth 100000 in
theorem c_X9_isSoBy (l : Launch) (G : va_G) (cA : Nat → ClassId) (ts : Nat → Nat) (h0 : Nat) (h0_g : Nat) (h0_p : Nat) (h0_rows : Nat) (h0_rows_e : Nat → Nat) (h0_sizes : Nat) (h0_outs : Nat) (h0_losses : Nat) (h0_kept : Nat) (h0_changed : Nat) (h0_causes : Nat) (h0_sorts : Nat) (h0_moved : Nat) (h0_levelOf : Nat) (h0_levelOften : Nat) (h0_to : Nat) (h0_round : Nat) (h0_tail : Nat) (h0_path : Nat) (h0_leastOn : Nat) (h0_period : Nat) (h0_amplitude : Nat) (h0_basin : Nat) (h0_numbered : Nat) (h0_isReached : Nat) (h0_tape : Nat) (h0_told : Nat) (h0_traced : Nat) (x1 : Int32) (x2 : Int32) (s0__isKept : Int32) (s0__done : Int32) (s0__undoable : Int32) (s0__redoable : Int32) (s0__all : Int32) (s0__v : Int32) (s0__loss : Int32) (s0__isOver : Int32) (s0__hasCauses : Int32) (s0__outMany : Int32) (s0__overMany : Int32) (s0__isHalted : Int32) (s0__levelMany : Int32) (s0__rounds : Int32) (s0__stuck : Int32) (s0__onRounds : Int32) (s0__longest : Int32) (s0__loudest : Int32) (s0__reached : Int32) (s0__isAnyOver : Int32) (s0__taped : Int32) (s0__at : Int32) (s0__ran : Int32) (s0_g : Nat → Int32) (s0_p : Nat → Int32) (s0_rows_e : Nat → Nat → Int64) (s0_sizes : Nat → Int32) (s0_outs : Nat → Int32) (s0_losses : Nat → Int32) (r : Int32) (o0__all : Int32) (o0__v : Int32) (o0__loss : Int32) (o0__isOver : Int32) (o0__outMany : Int32) (o0__overMany : Int32) (o0__isHalted : Int32) (o0_p : Nat → Int32) (o0_outs : Nat → Int32) (o0_losses : Nat → Int32) (hok : fX9_isSoBy x1 x2 s0__all s0__v s0__loss s0__isOver s0__outMany s0__overMany s0__isHalted s0_g s0_p s0_rows_e s0_sizes s0_outs s0_losses = some (r, o0__all, o0__v, o0__loss, o0__isOver, o0__outMany, o0__overMany, o0__isHalted, o0_p, o0_outs, o0_losses)) : Ct l G cA ts yX9_isSoBy wsX9_isSoBy 5 134 [.ref h0, .int x1, .int x2] (wm_X9_runs cA h0 h0_g h0_p h0_rows h0_rows_e h0_sizes h0_outs h0_losses h0_kept h0_changed h0_causes h0_sorts h0_moved h0_levelOf h0_levelOften h0_to h0_round h0_tail h0_path h0_leastOn h0_period h0_amplitude h0_basin h0_numbered h0_isReached h0_tape h0_told h0_traced s0__isKept s0__done s0__undoable s0__redoable s0__all s0__v s0__loss s0__isOver s0__hasCauses s0__outMany s0__overMany s0__isHalted s0__levelMany s0__rounds s0__stuck s0__onRounds s0__longest s0__loudest s0__reached s0__isAnyOver s0__taped s0__at s0__ran s0_g s0_p s0_rows_e s0_sizes s0_outs s0_losses) (wm_X9_runs cA h0 h0_g h0_p h0_rows h0_rows_e h0_sizes h0_outs h0_losses h0_kept h0_changed h0_causes h0_sorts h0_moved h0_levelOf h0_levelOften h0_to h0_round h0_tail h0_path h0_leastOn h0_period h0_amplitude h0_basin h0_numbered h0_isReached h0_tape h0_told h0_traced s0__isKept s0__done s0__undoable s0__redoable o0__all o0__v o0__loss o0__isOver s0__hasCauses o0__outMany o0__overMany o0__isHalted s0__levelMany s0__rounds s0__stuck s0__onRounds s0__longest s0__loudest s0__reached s0__isAnyOver s0__taped s0__at s0__ran s0_g o0_p s0_rows_e s0_sizes o0_outs o0_losses) (some (.int r)) := by
  refine Ct.intro (cc := cX9_isSoBy) (maxL := 4) (ret := some .boolean) (by decide +kernel) rfl (Nat.le_of_ble_eq_true rfl) ?_
  intro p e s m ar below meth c A Q hx hb hr hml hown hlocks hts hK hZ hA hQ hP hD hS ls hl
  have hown : s.vm.findClass RX9 = some m.cls := hown
  have hinX9 : ∀ w ∈ wsX90, w ∈ wsX9_isSoBy := fun _ h => List.mem_cons_of_mem _ (List.mem_append_right _ (h))
  have hl : lv_has ls 4 [(0, .ref h0), (1, .int x1), (2, .int x2)] := hl
  have hP : va_P G vwCl (wm_X9_runs cA h0 h0_g h0_p h0_rows h0_rows_e h0_sizes h0_outs h0_losses h0_kept h0_changed h0_causes h0_sorts h0_moved h0_levelOf h0_levelOften h0_to h0_round h0_tail h0_path h0_leastOn h0_period h0_amplitude h0_basin h0_numbered h0_isReached h0_tape h0_told h0_traced s0__isKept s0__done s0__undoable s0__redoable s0__all s0__v s0__loss s0__isOver s0__hasCauses s0__outMany s0__overMany s0__isHalted s0__levelMany s0__rounds s0__stuck s0__onRounds s0__longest s0__loudest s0__reached s0__isAnyOver s0__taped s0__at s0__ran s0_g s0_p s0_rows_e s0_sizes s0_outs s0_losses) s.heap := hP
  have hD : va_D A (wm_X9_runs cA h0 h0_g h0_p h0_rows h0_rows_e h0_sizes h0_outs h0_losses h0_kept h0_changed h0_causes h0_sorts h0_moved h0_levelOf h0_levelOften h0_to h0_round h0_tail h0_path h0_leastOn h0_period h0_amplitude h0_basin h0_numbered h0_isReached h0_tape h0_told h0_traced s0__isKept s0__done s0__undoable s0__redoable s0__all s0__v s0__loss s0__isOver s0__hasCauses s0__outMany s0__overMany s0__isHalted s0__levelMany s0__rounds s0__stuck s0__onRounds s0__longest s0__loudest s0__reached s0__isAnyOver s0__taped s0__at s0__ran s0_g s0_p s0_rows_e s0_sizes s0_outs s0_losses) := hD
  have L_22 : ∀ (n : Nat) (y3 : Int32) (c0__all : Int32) (c0__v : Int32) (c0__loss : Int32) (c0__isOver : Int32) (c0__outMany : Int32) (c0__overMany : Int32) (c0__isHalted : Int32) (c0_p : Nat → Int32) (c0_outs : Nat → Int32) (c0_losses : Nat → Int32) (oE : (Unit) ⊕ (Unit)) (H : Heap) (locs : List Loc) (ls : Array Slot), va_P G vwCl (wm_X9_runs cA h0 h0_g h0_p h0_rows h0_rows_e h0_sizes h0_outs h0_losses h0_kept h0_changed h0_causes h0_sorts h0_moved h0_levelOf h0_levelOften h0_to h0_round h0_tail h0_path h0_leastOn h0_period h0_amplitude h0_basin h0_numbered h0_isReached h0_tape h0_told h0_traced s0__isKept s0__done s0__undoable s0__redoable c0__all c0__v c0__loss c0__isOver s0__hasCauses c0__outMany c0__overMany c0__isHalted s0__levelMany s0__rounds s0__stuck s0__onRounds s0__longest s0__loudest s0__reached s0__isAnyOver s0__taped s0__at s0__ran s0_g c0_p s0_rows_e s0_sizes c0_outs c0_losses) H → va_D A (wm_X9_runs cA h0 h0_g h0_p h0_rows h0_rows_e h0_sizes h0_outs h0_losses h0_kept h0_changed h0_causes h0_sorts h0_moved h0_levelOf h0_levelOften h0_to h0_round h0_tail h0_path h0_leastOn h0_period h0_amplitude h0_basin h0_numbered h0_isReached h0_tape h0_told h0_traced s0__isKept s0__done s0__undoable s0__redoable c0__all c0__v c0__loss c0__isOver s0__hasCauses c0__outMany c0__overMany c0__isHalted s0__levelMany s0__rounds s0__stuck s0__onRounds s0__longest s0__loudest s0__reached s0__isAnyOver s0__taped s0__at s0__ran s0_g c0_p s0_rows_e s0_sizes c0_outs c0_losses) → va_S A s.heap H locs → lv_has ls 4 [(0, .ref h0), (2, .int x2), (3, .int y3)] → fX9_isSoBy_L22 x1 x2 s0_g s0_rows_e s0_sizes n y3 c0__all c0__v c0__loss c0__isOver c0__outMany c0__overMany c0__isHalted c0_p c0_outs c0_losses = some oE → (∀ (_ : Unit), oE = .inl () → ∀ (H : Heap) (locs : List Loc) (ls : Array Slot), va_P G vwCl (wm_X9_runs cA h0 h0_g h0_p h0_rows h0_rows_e h0_sizes h0_outs h0_losses h0_kept h0_changed h0_causes h0_sorts h0_moved h0_levelOf h0_levelOften h0_to h0_round h0_tail h0_path h0_leastOn h0_period h0_amplitude h0_basin h0_numbered h0_isReached h0_tape h0_told h0_traced s0__isKept s0__done s0__undoable s0__redoable c0__all c0__v c0__loss c0__isOver s0__hasCauses c0__outMany c0__overMany c0__isHalted s0__levelMany s0__rounds s0__stuck s0__onRounds s0__longest s0__loudest s0__reached s0__isAnyOver s0__taped s0__at s0__ran s0_g c0_p s0_rows_e s0_sizes c0_outs c0_losses) H → va_D A (wm_X9_runs cA h0 h0_g h0_p h0_rows h0_rows_e h0_sizes h0_outs h0_losses h0_kept h0_changed h0_causes h0_sorts h0_moved h0_levelOf h0_levelOften h0_to h0_round h0_tail h0_path h0_leastOn h0_period h0_amplitude h0_basin h0_numbered h0_isReached h0_tape h0_told h0_traced s0__isKept s0__done s0__undoable s0__redoable c0__all c0__v c0__loss c0__isOver s0__hasCauses c0__outMany c0__overMany c0__isHalted s0__levelMany s0__rounds s0__stuck s0__onRounds s0__longest s0__loudest s0__reached s0__isAnyOver s0__taped s0__at s0__ran s0_g c0_p s0_rows_e s0_sizes c0_outs c0_losses) → va_S A s.heap H locs → lv_has ls 4 [] → W p l e (rmX 5 134) s m ar below meth c H locs 0 0 Q (F0 m 51 ls [])) → (∀ (_ : Unit), oE = .inr (()) → ∀ (H : Heap) (locs : List Loc) (ls : Array Slot), va_P G vwCl (wm_X9_runs cA h0 h0_g h0_p h0_rows h0_rows_e h0_sizes h0_outs h0_losses h0_kept h0_changed h0_causes h0_sorts h0_moved h0_levelOf h0_levelOften h0_to h0_round h0_tail h0_path h0_leastOn h0_period h0_amplitude h0_basin h0_numbered h0_isReached h0_tape h0_told h0_traced s0__isKept s0__done s0__undoable s0__redoable c0__all c0__v c0__loss c0__isOver s0__hasCauses c0__outMany c0__overMany c0__isHalted s0__levelMany s0__rounds s0__stuck s0__onRounds s0__longest s0__loudest s0__reached s0__isAnyOver s0__taped s0__at s0__ran s0_g c0_p s0_rows_e s0_sizes c0_outs c0_losses) H → va_D A (wm_X9_runs cA h0 h0_g h0_p h0_rows h0_rows_e h0_sizes h0_outs h0_losses h0_kept h0_changed h0_causes h0_sorts h0_moved h0_levelOf h0_levelOften h0_to h0_round h0_tail h0_path h0_leastOn h0_period h0_amplitude h0_basin h0_numbered h0_isReached h0_tape h0_told h0_traced s0__isKept s0__done s0__undoable s0__redoable c0__all c0__v c0__loss c0__isOver s0__hasCauses c0__outMany c0__overMany c0__isHalted s0__levelMany s0__rounds s0__stuck s0__onRounds s0__longest s0__loudest s0__reached s0__isAnyOver s0__taped s0__at s0__ran s0_g c0_p s0_rows_e s0_sizes c0_outs c0_losses) → va_S A s.heap H locs → lv_has ls 4 [] → W p l e (rmX 5 134) s m ar below meth c H locs 0 0 Q (F0 m 59 ls [])) → W p l e (rmX 5 134) s m ar below meth c H locs 0 0 Q (F0 m 22 ls []) := by
    intro n
    induction n with
    | zero =>
      intro y3 c0__all c0__v c0__loss c0__isOver c0__outMany c0__overMany c0__isHalted c0_p c0_outs c0_losses oE H locs ls hP hD hS hl hok
      rw [fX9_isSoBy_L22] at hok
      cases hok
    | succ n ih =>
      intro y3 c0__all c0__v c0__loss c0__isOver c0__outMany c0__overMany c0__isHalted c0_p c0_outs c0_losses oE H locs ls hP hD hS hl hok  K0 K1
      rw [fX9_isSoBy_L22] at hok
      refine lv_iload_n hx hb dX9_isSoBy_22 rfl (lv_at hl 2 rfl) ?_
      refine lv_aload_n hx hb dX9_isSoBy_23 rfl (lv_at hl 0 rfl) ?_
      refine va_get (ci := 9) (v := .ref h0_sizes) (C := RX9) (T := TX9) (N := 49) hx hb hts hinX9 hown hK hP 0 rfl rfl 16 (by decide) (hts _ (List.mem_of_getElem? (i := 2) rfl)) (fun _ h9 => h9) rfl dX9_isSoBy_24 ?_
      refine lv_iload_n hx hb dX9_isSoBy_27 rfl (lv_at hl 1 rfl) ?_
      obtain ⟨hin, hok⟩ := g_no hok
      refine x_iald (k := x2.toNatClampNeg) hx hb hK hP 8 0 rfl rfl hin rfl dX9_isSoBy_28 ?_
      refine lv_icmp_ge (tgt := 59) hx hb dX9_isSoBy_29 (by decide) (fun c => ?_) (fun c => ?_)
      · replace hok := g_pos hok c
        cases hok
        exact K1 () rfl _ _ _ hP hD hS (lv_sub hl [] rfl)
      replace hok := g_neg hok c
      refine lv_aload_n hx hb dX9_isSoBy_32 rfl (lv_at hl 0 rfl) ?_
      refine va_get (ci := 9) (v := .ref h0_rows) (C := RX9) (T := TX9) (N := 49) hx hb hts hinX9 hown hK hP 0 rfl rfl 14 (by decide) (hts _ (List.mem_of_getElem? (i := 3) rfl)) (fun _ h9 => h9) rfl dX9_isSoBy_33 ?_
      refine lv_iload_n hx hb dX9_isSoBy_36 rfl (lv_at hl 1 rfl) ?_
      obtain ⟨hin11, hok⟩ := g_no hok
      refine x_aalda hx hb hK hP 3 6 rfl rfl hin11 dX9_isSoBy_37 ?_
      refine W.eq (congrArg (fun z => F0 m 38 ls (z :: [])) (rf_at (Nat.not_le.mp fun q => hin11 (Or.inr q)))) ?_
      refine lv_iload_n hx hb dX9_isSoBy_38 rfl (lv_at hl 2 rfl) ?_
      obtain ⟨hin, hok⟩ := g_no hok
      refine x_lald (cA := cA 1) (n := 40) (f := (s0_rows_e x2.toNatClampNeg)) (k := y3.toNatClampNeg) hx hb hK hP (4 + 1 * x2.toNatClampNeg) 1 (by rcases lt4 (Nat.not_le.mp fun q => hin11 (Or.inr q)) with e | e | e | e <;> rw [e] <;> rfl) rfl hin rfl dX9_isSoBy_39 ?_
      refine lv_aload_n hx hb dX9_isSoBy_40 rfl (lv_at hl 0 rfl) ?_
      refine va_get (ci := 9) (v := .ref h0_outs) (C := RX9) (T := TX9) (N := 49) hx hb hts hinX9 hown hK hP 0 rfl rfl 18 (by decide) (hts _ (List.mem_of_getElem? (i := 4) rfl)) (fun _ h9 => h9) rfl dX9_isSoBy_41 ?_
      refine lv_iload_n hx hb dX9_isSoBy_44 rfl (lv_at hl 2 rfl) ?_
      obtain ⟨hin, hok⟩ := g_no hok
      refine x_iald (k := y3.toNatClampNeg) hx hb hK hP 9 0 rfl rfl hin rfl dX9_isSoBy_45 ?_
      refine lv_i2l (v := ((c0_outs y3.toNatClampNeg).toInt64)) hx hb dX9_isSoBy_46 rfl ?_
      refine W.lcmp hx hb dX9_isSoBy_47 ?_
      refine lv_if_eq (tgt := 53) hx hb dX9_isSoBy_48 (by decide) (fun c => ?_) (fun c => ?_)
      · replace hok := g_pos hok c
        refine lv_iinc (v := (y3 + 1)) (lv' := [(3, .int (y3 + 1)), (0, .ref h0), (2, .int x2)]) hx hb dX9_isSoBy_53 hl (k := 2) rfl rfl (by decide) rfl (fun ls hl => ?_)
        refine lv_goto (tgt := 22) hx hb dX9_isSoBy_56 (by decide) ?_
        exact ih (y3 + 1) c0__all c0__v c0__loss c0__isOver c0__outMany c0__overMany c0__isHalted c0_p c0_outs c0_losses oE _ _ _ hP hD hS (lv_sub hl [1, 2, 0] rfl) hok K0 K1
      replace hok := g_neg hok c
      cases hok
      exact K0 () rfl _ _ _ hP hD hS (lv_sub hl [] rfl)
  unfold fX9_isSoBy at hok
  refine lv_aload_n hx hb dX9_isSoBy_0 rfl (lv_at hl 0 rfl) ?_
  refine lv_iload_n hx hb dX9_isSoBy_1 rfl (lv_at hl 1 rfl) ?_
  obtain ⟨o1, o2, o3, o4, o5, o6, o7, o8, o9, o10, hq, hok⟩ := g_bnd10 hok
  refine cG (is := [0, 1, 2, 3, 4, 5, 6, 7, 8, 9, 10]) (wc := (wm_X9_runs cA h0 h0_g h0_p h0_rows h0_rows_e h0_sizes h0_outs h0_losses h0_kept h0_changed h0_causes h0_sorts h0_moved h0_levelOf h0_levelOften h0_to h0_round h0_tail h0_path h0_leastOn h0_period h0_amplitude h0_basin h0_numbered h0_isReached h0_tape h0_told h0_traced s0__isKept s0__done s0__undoable s0__redoable s0__all s0__v s0__loss s0__isOver s0__hasCauses s0__outMany s0__overMany s0__isHalted s0__levelMany s0__rounds s0__stuck s0__onRounds s0__longest s0__loudest s0__reached s0__isAnyOver s0__taped s0__at s0__ran s0_g s0_p s0_rows_e s0_sizes s0_outs s0_losses)) (w1 := (wm_X9_runs cA h0 h0_g h0_p h0_rows h0_rows_e h0_sizes h0_outs h0_losses h0_kept h0_changed h0_causes h0_sorts h0_moved h0_levelOf h0_levelOften h0_to h0_round h0_tail h0_path h0_leastOn h0_period h0_amplitude h0_basin h0_numbered h0_isReached h0_tape h0_told h0_traced s0__isKept s0__done s0__undoable s0__redoable o1 o2 o3 o4 s0__hasCauses o5 o6 o7 s0__levelMany s0__rounds s0__stuck s0__onRounds s0__longest s0__loudest s0__reached s0__isAnyOver s0__taped s0__at s0__ran s0_g o8 s0_rows_e s0_sizes o9 o10)) (rv := none) (st1 := []) (va_runV (Ts := wsX9_isSoBy) (As := [.int x1]) (rest := []) ⟨hx, hb, hml, hown, hts⟩ (c_X9_runs l G cA ts h0 h0_g h0_p h0_rows h0_rows_e h0_sizes h0_outs h0_losses h0_kept h0_changed h0_causes h0_sorts h0_moved h0_levelOf h0_levelOften h0_to h0_round h0_tail h0_path h0_leastOn h0_period h0_amplitude h0_basin h0_numbered h0_isReached h0_tape h0_told h0_traced x1 s0__isKept s0__done s0__undoable s0__redoable s0__all s0__v s0__loss s0__isOver s0__hasCauses s0__outMany s0__overMany s0__isHalted s0__levelMany s0__rounds s0__stuck s0__onRounds s0__longest s0__loudest s0__reached s0__isAnyOver s0__taped s0__at s0__ran s0_g s0_p s0_rows_e s0_sizes s0_outs s0_losses o1 o2 o3 o4 o5 o6 o7 o8 o9 o10 hq s.heap.size) (cwV 1 hts gX9_isSoBy_X9_runs rfl rfl rfl (by decide +kernel) ⟨Nat.le_of_ble_eq_true rfl, Nat.le_of_ble_eq_true rfl⟩) (pre_V (ci := 9) (q0 := 0) (is := [0, 1, 2, 3, 4, 5, 6, 7, 8, 9, 10]) rfl rfl hP hD hS hA hK hZ (by decide +kernel) (by rfl)) rfl rfl hl.1 rfl (by exact lv_room (Nat.le_of_ble_eq_true rfl)) dX9_isSoBy_2 ⟨Nat.le_refl _, Nat.le_refl _⟩) hP hD hS hA (by decide +kernel) (by rfl) (by rfl) rfl (fun H locs hP hD hS => ?_)
  obtain ⟨hP, hD⟩ : va_P G vwCl (wm_X9_runs cA h0 h0_g h0_p h0_rows h0_rows_e h0_sizes h0_outs h0_losses h0_kept h0_changed h0_causes h0_sorts h0_moved h0_levelOf h0_levelOften h0_to h0_round h0_tail h0_path h0_leastOn h0_period h0_amplitude h0_basin h0_numbered h0_isReached h0_tape h0_told h0_traced s0__isKept s0__done s0__undoable s0__redoable o1 o2 o3 o4 s0__hasCauses o5 o6 o7 s0__levelMany s0__rounds s0__stuck s0__onRounds s0__longest s0__loudest s0__reached s0__isAnyOver s0__taped s0__at s0__ran s0_g o8 s0_rows_e s0_sizes o9 o10) H ∧ va_D A (wm_X9_runs cA h0 h0_g h0_p h0_rows h0_rows_e h0_sizes h0_outs h0_losses h0_kept h0_changed h0_causes h0_sorts h0_moved h0_levelOf h0_levelOften h0_to h0_round h0_tail h0_path h0_leastOn h0_period h0_amplitude h0_basin h0_numbered h0_isReached h0_tape h0_told h0_traced s0__isKept s0__done s0__undoable s0__redoable o1 o2 o3 o4 s0__hasCauses o5 o6 o7 s0__levelMany s0__rounds s0__stuck s0__onRounds s0__longest s0__loudest s0__reached s0__isAnyOver s0__taped s0__at s0__ran s0_g o8 s0_rows_e s0_sizes o9 o10) := PD_eq hP hD (rp_eq (js := []) 11 (by decide +kernel) rfl rfl (by rfl) (by rfl) (by decide +kernel))
  refine lv_aload_n hx hb dX9_isSoBy_5 rfl (lv_at hl 0 rfl) ?_
  refine va_get (ci := 9) (v := .int o5) (C := RX9) (T := TX9) (N := 49) hx hb hts hinX9 hown hK hP 0 rfl rfl 20 (by decide) (hts _ (List.mem_of_getElem? (i := 1) rfl)) (fun _ h9 => h9) rfl dX9_isSoBy_6 ?_
  refine lv_aload_n hx hb dX9_isSoBy_9 rfl (lv_at hl 0 rfl) ?_
  refine va_get (ci := 9) (v := .ref h0_sizes) (C := RX9) (T := TX9) (N := 49) hx hb hts hinX9 hown hK hP 0 rfl rfl 16 (by decide) (hts _ (List.mem_of_getElem? (i := 2) rfl)) (fun _ h9 => h9) rfl dX9_isSoBy_10 ?_
  refine lv_iload_n hx hb dX9_isSoBy_13 rfl (lv_at hl 2 rfl) ?_
  obtain ⟨hin, hok⟩ := g_no hok
  refine x_iald (k := x2.toNatClampNeg) hx hb hK hP 8 0 rfl rfl hin rfl dX9_isSoBy_14 ?_
  refine lv_icmp_ge (tgt := 20) hx hb dX9_isSoBy_15 (by decide) (fun c => ?_) (fun c => ?_)
  · replace hok := g_pos hok c
    refine lv_iconst (v := 0) hx hb dX9_isSoBy_20 (by decide) ?_
    refine lv_istore_n (lv' := [(3, .int (0:Int32)), (0, .ref h0), (1, .int x1), (2, .int x2)]) hx hb dX9_isSoBy_21 rfl hl (by decide) rfl (fun ls hl => ?_)
    obtain ⟨o12, hq, hok⟩ := g_bnd1 hok
    refine L_22 FUEL (0:Int32) o1 o2 o3 o4 o5 o6 o7 o8 o9 o10 o12 _ _ _ hP hD hS (lv_sub hl [1, 3, 0] rfl) hq (fun _ ho H locs ls hP hD hS hl => ?_) (fun _ ho H locs ls hP hD hS hl => ?_)
    · subst ho
      replace hok := g_inl hok
      replace hok := g_c0 hok
      refine lv_iconst (v := 0) hx hb dX9_isSoBy_51 (by decide) ?_
      obtain ⟨e, hok⟩ := g_pr hok
      try subst e
      obtain ⟨e, hok⟩ := g_pr hok
      try subst e
      obtain ⟨e, hok⟩ := g_pr hok
      try subst e
      obtain ⟨e, hok⟩ := g_pr hok
      try subst e
      obtain ⟨e, hok⟩ := g_pr hok
      try subst e
      obtain ⟨e, hok⟩ := g_pr hok
      try subst e
      obtain ⟨e, hok⟩ := g_pr hok
      try subst e
      obtain ⟨e, hok⟩ := g_pr hok
      try subst e
      obtain ⟨e, hok⟩ := g_pr hok
      try subst e
      obtain ⟨e, hok⟩ := g_pr hok
      try subst e
      cases hok
      exact cr_z (ty := .boolean) (by decide +kernel) hx hb hr hlocks hQ dX9_isSoBy_52 hP hS
    subst ho
    replace hok := g_inr hok
    replace hok := g_c0 hok
    refine lv_iconst (v := 1) hx hb dX9_isSoBy_59 (by decide) ?_
    obtain ⟨e, hok⟩ := g_pr hok
    try subst e
    obtain ⟨e, hok⟩ := g_pr hok
    try subst e
    obtain ⟨e, hok⟩ := g_pr hok
    try subst e
    obtain ⟨e, hok⟩ := g_pr hok
    try subst e
    obtain ⟨e, hok⟩ := g_pr hok
    try subst e
    obtain ⟨e, hok⟩ := g_pr hok
    try subst e
    obtain ⟨e, hok⟩ := g_pr hok
    try subst e
    obtain ⟨e, hok⟩ := g_pr hok
    try subst e
    obtain ⟨e, hok⟩ := g_pr hok
    try subst e
    obtain ⟨e, hok⟩ := g_pr hok
    try subst e
    cases hok
    exact cr_z (ty := .boolean) (by decide +kernel) hx hb hr hlocks hQ dX9_isSoBy_60 hP hS
  replace hok := g_neg hok c
  refine lv_iconst (v := 0) hx hb dX9_isSoBy_18 (by decide) ?_
  obtain ⟨e, hok⟩ := g_pr hok
  try subst e
  obtain ⟨e, hok⟩ := g_pr hok
  try subst e
  obtain ⟨e, hok⟩ := g_pr hok
  try subst e
  obtain ⟨e, hok⟩ := g_pr hok
  try subst e
  obtain ⟨e, hok⟩ := g_pr hok
  try subst e
  obtain ⟨e, hok⟩ := g_pr hok
  try subst e
  obtain ⟨e, hok⟩ := g_pr hok
  try subst e
  obtain ⟨e, hok⟩ := g_pr hok
  try subst e
  obtain ⟨e, hok⟩ := g_pr hok
  try subst e
  obtain ⟨e, hok⟩ := g_pr hok
  try subst e
  cases hok
  exact cr_z (ty := .boolean) (by decide +kernel) hx hb hr hlocks hQ dX9_isSoBy_19 hP hS
set_option maxHeartbeats 40000000 in
set_option maxRecDepth 100000 in
theorem c_X9_setBy (l : Launch) (G : va_G) (cA : Nat → ClassId) (ts : Nat → Nat) (h0 : Nat) (h0_g : Nat) (h0_p : Nat) (h0_rows : Nat) (h0_rows_e : Nat → Nat) (h0_sizes : Nat) (h0_outs : Nat) (h0_losses : Nat) (h0_kept : Nat) (h0_changed : Nat) (h0_causes : Nat) (h0_sorts : Nat) (h0_moved : Nat) (h0_levelOf : Nat) (h0_levelOften : Nat) (h0_to : Nat) (h0_round : Nat) (h0_tail : Nat) (h0_path : Nat) (h0_leastOn : Nat) (h0_period : Nat) (h0_amplitude : Nat) (h0_basin : Nat) (h0_numbered : Nat) (h0_isReached : Nat) (h0_tape : Nat) (h0_told : Nat) (h0_traced : Nat) (x1 : Int32) (x2 : Int32) (x3 : Int32) (x4 : Int32) (s0__isKept : Int32) (s0__done : Int32) (s0__undoable : Int32) (s0__redoable : Int32) (s0__all : Int32) (s0__v : Int32) (s0__loss : Int32) (s0__isOver : Int32) (s0__hasCauses : Int32) (s0__outMany : Int32) (s0__overMany : Int32) (s0__isHalted : Int32) (s0__levelMany : Int32) (s0__rounds : Int32) (s0__stuck : Int32) (s0__onRounds : Int32) (s0__longest : Int32) (s0__loudest : Int32) (s0__reached : Int32) (s0__isAnyOver : Int32) (s0__taped : Int32) (s0__at : Int32) (s0__ran : Int32) (s0_g : Nat → Int32) (s0_p : Nat → Int32) (s0_rows_e : Nat → Nat → Int64) (s0_sizes : Nat → Int32) (s0_outs : Nat → Int32) (s0_losses : Nat → Int32) (r : Int32) (o0__all : Int32) (o0__v : Int32) (o0__loss : Int32) (o0__isOver : Int32) (o0__outMany : Int32) (o0__overMany : Int32) (o0__isHalted : Int32) (o0_g : Nat → Int32) (o0_p : Nat → Int32) (o0_outs : Nat → Int32) (o0_losses : Nat → Int32) (hok : fX9_setBy x1 x2 x3 x4 s0__all s0__v s0__loss s0__isOver s0__outMany s0__overMany s0__isHalted s0_g s0_p s0_rows_e s0_sizes s0_outs s0_losses = some (r, o0__all, o0__v, o0__loss, o0__isOver, o0__outMany, o0__overMany, o0__isHalted, o0_g, o0_p, o0_outs, o0_losses)) : Ct l G cA ts yX9_setBy wsX9_setBy 6 157 [.ref h0, .int x1, .int x2, .int x3, .int x4] (wm_X9_runs cA h0 h0_g h0_p h0_rows h0_rows_e h0_sizes h0_outs h0_losses h0_kept h0_changed h0_causes h0_sorts h0_moved h0_levelOf h0_levelOften h0_to h0_round h0_tail h0_path h0_leastOn h0_period h0_amplitude h0_basin h0_numbered h0_isReached h0_tape h0_told h0_traced s0__isKept s0__done s0__undoable s0__redoable s0__all s0__v s0__loss s0__isOver s0__hasCauses s0__outMany s0__overMany s0__isHalted s0__levelMany s0__rounds s0__stuck s0__onRounds s0__longest s0__loudest s0__reached s0__isAnyOver s0__taped s0__at s0__ran s0_g s0_p s0_rows_e s0_sizes s0_outs s0_losses) (wm_X9_runs cA h0 h0_g h0_p h0_rows h0_rows_e h0_sizes h0_outs h0_losses h0_kept h0_changed h0_causes h0_sorts h0_moved h0_levelOf h0_levelOften h0_to h0_round h0_tail h0_path h0_leastOn h0_period h0_amplitude h0_basin h0_numbered h0_isReached h0_tape h0_told h0_traced s0__isKept s0__done s0__undoable s0__redoable o0__all o0__v o0__loss o0__isOver s0__hasCauses o0__outMany o0__overMany o0__isHalted s0__levelMany s0__rounds s0__stuck s0__onRounds s0__longest s0__loudest s0__reached s0__isAnyOver s0__taped s0__at s0__ran o0_g o0_p s0_rows_e s0_sizes o0_outs o0_losses) (some (.int r)) := by
  refine Ct.intro (cc := cX9_setBy) (maxL := 8) (ret := some .int) (by decide +kernel) rfl (Nat.le_of_ble_eq_true rfl) ?_
  intro p e s m ar below meth c A Q hx hb hr hml hown hlocks hts hK hZ hA hQ hP hD hS ls hl
  have hown : s.vm.findClass RX9 = some m.cls := hown
  have hinX9 : ∀ w ∈ wsX90, w ∈ wsX9_setBy := fun _ h => List.mem_cons_of_mem _ (List.mem_append_right _ (h))
  have hl : lv_has ls 8 [(0, .ref h0), (1, .int x1), (2, .int x2), (3, .int x3), (4, .int x4)] := hl
  have hP : va_P G vwCl (wm_X9_runs cA h0 h0_g h0_p h0_rows h0_rows_e h0_sizes h0_outs h0_losses h0_kept h0_changed h0_causes h0_sorts h0_moved h0_levelOf h0_levelOften h0_to h0_round h0_tail h0_path h0_leastOn h0_period h0_amplitude h0_basin h0_numbered h0_isReached h0_tape h0_told h0_traced s0__isKept s0__done s0__undoable s0__redoable s0__all s0__v s0__loss s0__isOver s0__hasCauses s0__outMany s0__overMany s0__isHalted s0__levelMany s0__rounds s0__stuck s0__onRounds s0__longest s0__loudest s0__reached s0__isAnyOver s0__taped s0__at s0__ran s0_g s0_p s0_rows_e s0_sizes s0_outs s0_losses) s.heap := hP
  have hD : va_D A (wm_X9_runs cA h0 h0_g h0_p h0_rows h0_rows_e h0_sizes h0_outs h0_losses h0_kept h0_changed h0_causes h0_sorts h0_moved h0_levelOf h0_levelOften h0_to h0_round h0_tail h0_path h0_leastOn h0_period h0_amplitude h0_basin h0_numbered h0_isReached h0_tape h0_told h0_traced s0__isKept s0__done s0__undoable s0__redoable s0__all s0__v s0__loss s0__isOver s0__hasCauses s0__outMany s0__overMany s0__isHalted s0__levelMany s0__rounds s0__stuck s0__onRounds s0__longest s0__loudest s0__reached s0__isAnyOver s0__taped s0__at s0__ran s0_g s0_p s0_rows_e s0_sizes s0_outs s0_losses) := hD
  have L_14 : ∀ (n : Nat) (y5 : Int32) (y6 : Int32) (y7 : Int32) (c0__all : Int32) (c0__v : Int32) (c0__loss : Int32) (c0__isOver : Int32) (c0__outMany : Int32) (c0__overMany : Int32) (c0__isHalted : Int32) (c0_g : Nat → Int32) (c0_p : Nat → Int32) (c0_outs : Nat → Int32) (c0_losses : Nat → Int32) (p0_0 : Int32) (p0_1 : Int32) (p0_2 : Int32) (p0_3 : Int32) (p0_4 : Int32) (p0_5 : Int32) (p0_6 : Int32) (p0_7 : Int32) (p0_8 : Nat → Int32) (p0_9 : Nat → Int32) (p0_10 : Nat → Int32) (p0_11 : Nat → Int32) (H : Heap) (locs : List Loc) (ls : Array Slot), va_P G vwCl (wm_X9_runs cA h0 h0_g h0_p h0_rows h0_rows_e h0_sizes h0_outs h0_losses h0_kept h0_changed h0_causes h0_sorts h0_moved h0_levelOf h0_levelOften h0_to h0_round h0_tail h0_path h0_leastOn h0_period h0_amplitude h0_basin h0_numbered h0_isReached h0_tape h0_told h0_traced s0__isKept s0__done s0__undoable s0__redoable c0__all c0__v c0__loss c0__isOver s0__hasCauses c0__outMany c0__overMany c0__isHalted s0__levelMany s0__rounds s0__stuck s0__onRounds s0__longest s0__loudest s0__reached s0__isAnyOver s0__taped s0__at s0__ran c0_g c0_p s0_rows_e s0_sizes c0_outs c0_losses) H → va_D A (wm_X9_runs cA h0 h0_g h0_p h0_rows h0_rows_e h0_sizes h0_outs h0_losses h0_kept h0_changed h0_causes h0_sorts h0_moved h0_levelOf h0_levelOften h0_to h0_round h0_tail h0_path h0_leastOn h0_period h0_amplitude h0_basin h0_numbered h0_isReached h0_tape h0_told h0_traced s0__isKept s0__done s0__undoable s0__redoable c0__all c0__v c0__loss c0__isOver s0__hasCauses c0__outMany c0__overMany c0__isHalted s0__levelMany s0__rounds s0__stuck s0__onRounds s0__longest s0__loudest s0__reached s0__isAnyOver s0__taped s0__at s0__ran c0_g c0_p s0_rows_e s0_sizes c0_outs c0_losses) → va_S A s.heap H locs → lv_has ls 8 [(0, .ref h0), (1, .int x1), (2, .int x2), (3, .int x3), (4, .int x4), (5, .int y5), (6, .int y6), (7, .int y7)] → fX9_setBy_L14 x1 x2 x3 x4 s0_rows_e s0_sizes n y5 y6 y7 c0__all c0__v c0__loss c0__isOver c0__outMany c0__overMany c0__isHalted c0_g c0_p c0_outs c0_losses = some (p0_0, p0_1, p0_2, p0_3, p0_4, p0_5, p0_6, p0_7, p0_8, p0_9, p0_10, p0_11) → (∀ (H : Heap) (locs : List Loc) (ls : Array Slot), va_P G vwCl (wm_X9_runs cA h0 h0_g h0_p h0_rows h0_rows_e h0_sizes h0_outs h0_losses h0_kept h0_changed h0_causes h0_sorts h0_moved h0_levelOf h0_levelOften h0_to h0_round h0_tail h0_path h0_leastOn h0_period h0_amplitude h0_basin h0_numbered h0_isReached h0_tape h0_told h0_traced s0__isKept s0__done s0__undoable s0__redoable p0_1 p0_2 p0_3 p0_4 s0__hasCauses p0_5 p0_6 p0_7 s0__levelMany s0__rounds s0__stuck s0__onRounds s0__longest s0__loudest s0__reached s0__isAnyOver s0__taped s0__at s0__ran p0_8 p0_9 s0_rows_e s0_sizes p0_10 p0_11) H → va_D A (wm_X9_runs cA h0 h0_g h0_p h0_rows h0_rows_e h0_sizes h0_outs h0_losses h0_kept h0_changed h0_causes h0_sorts h0_moved h0_levelOf h0_levelOften h0_to h0_round h0_tail h0_path h0_leastOn h0_period h0_amplitude h0_basin h0_numbered h0_isReached h0_tape h0_told h0_traced s0__isKept s0__done s0__undoable s0__redoable p0_1 p0_2 p0_3 p0_4 s0__hasCauses p0_5 p0_6 p0_7 s0__levelMany s0__rounds s0__stuck s0__onRounds s0__longest s0__loudest s0__reached s0__isAnyOver s0__taped s0__at s0__ran p0_8 p0_9 s0_rows_e s0_sizes p0_10 p0_11) → va_S A s.heap H locs → lv_has ls 8 [(0, .ref h0), (1, .int x1), (5, .int y5), (6, .int p0_0)] → W p l e (rmX 6 157) s m ar below meth c H locs 0 0 Q (F0 m 57 ls [])) → W p l e (rmX 6 157) s m ar below meth c H locs 0 0 Q (F0 m 14 ls []) := by
    intro n
    induction n with
    | zero =>
      intro y5 y6 y7 c0__all c0__v c0__loss c0__isOver c0__outMany c0__overMany c0__isHalted c0_g c0_p c0_outs c0_losses p0_0 p0_1 p0_2 p0_3 p0_4 p0_5 p0_6 p0_7 p0_8 p0_9 p0_10 p0_11 H locs ls hP hD hS hl hok
      rw [fX9_setBy_L14] at hok
      cases hok
    | succ n ih =>
      intro y5 y6 y7 c0__all c0__v c0__loss c0__isOver c0__outMany c0__overMany c0__isHalted c0_g c0_p c0_outs c0_losses p0_0 p0_1 p0_2 p0_3 p0_4 p0_5 p0_6 p0_7 p0_8 p0_9 p0_10 p0_11 H locs ls hP hD hS hl hok K
      rw [fX9_setBy_L14] at hok
      refine lv_iload hx hb dX9_setBy_14 (lv_at hl 7 rfl) ?_
      refine lv_iload_n hx hb dX9_setBy_16 rfl (lv_at hl 2 rfl) ?_
      refine lv_icmp_gt (tgt := 57) hx hb dX9_setBy_17 (by decide) (fun c => ?_) (fun c => ?_)
      · replace hok := g_pos hok c
        cases hok
        exact K _ _ _ hP hD hS (lv_sub hl [0, 1, 5, 6] rfl)
      replace hok := g_neg hok c
      refine lv_aload_n hx hb dX9_setBy_20 rfl (lv_at hl 0 rfl) ?_
      refine va_get (ci := 9) (v := .ref h0_g) (C := RX9) (T := TX9) (N := 49) hx hb hts hinX9 hown hK hP 0 rfl rfl 0 (by decide) (hts _ (List.mem_of_getElem? (i := 1) rfl)) (fun _ h9 => h9) rfl dX9_setBy_21 ?_
      refine lv_iload_n hx hb dX9_setBy_24 rfl (lv_at hl 1 rfl) ?_
      refine lv_iload hx hb dX9_setBy_25 (lv_at hl 7 rfl) ?_
      obtain ⟨hin, hok⟩ := g_no hok
      refine x_iast (k := x1.toNatClampNeg) hx hb hK hP hD hS 1 0 rfl rfl hin rfl dX9_setBy_27 (fun H locs hP hD hS => ?_)
      have hP : va_P G vwCl (wm_X9_runs cA h0 h0_g h0_p h0_rows h0_rows_e h0_sizes h0_outs h0_losses h0_kept h0_changed h0_causes h0_sorts h0_moved h0_levelOf h0_levelOften h0_to h0_round h0_tail h0_path h0_leastOn h0_period h0_amplitude h0_basin h0_numbered h0_isReached h0_tape h0_told h0_traced s0__isKept s0__done s0__undoable s0__redoable c0__all c0__v c0__loss c0__isOver s0__hasCauses c0__outMany c0__overMany c0__isHalted s0__levelMany s0__rounds s0__stuck s0__onRounds s0__longest s0__loudest s0__reached s0__isAnyOver s0__taped s0__at s0__ran (upd c0_g x1.toNatClampNeg y7) c0_p s0_rows_e s0_sizes c0_outs c0_losses) H := hP
      have hD : va_D A (wm_X9_runs cA h0 h0_g h0_p h0_rows h0_rows_e h0_sizes h0_outs h0_losses h0_kept h0_changed h0_causes h0_sorts h0_moved h0_levelOf h0_levelOften h0_to h0_round h0_tail h0_path h0_leastOn h0_period h0_amplitude h0_basin h0_numbered h0_isReached h0_tape h0_told h0_traced s0__isKept s0__done s0__undoable s0__redoable c0__all c0__v c0__loss c0__isOver s0__hasCauses c0__outMany c0__overMany c0__isHalted s0__levelMany s0__rounds s0__stuck s0__onRounds s0__longest s0__loudest s0__reached s0__isAnyOver s0__taped s0__at s0__ran (upd c0_g x1.toNatClampNeg y7) c0_p s0_rows_e s0_sizes c0_outs c0_losses) := hD
      refine lv_iload hx hb dX9_setBy_28 (lv_at hl 6 rfl) ?_
      refine lv_aload_n hx hb dX9_setBy_30 rfl (lv_at hl 0 rfl) ?_
      refine lv_iload_n hx hb dX9_setBy_31 rfl (lv_at hl 3 rfl) ?_
      refine lv_iload hx hb dX9_setBy_32 (lv_at hl 4 rfl) ?_
      obtain ⟨r1, o2, o3, o4, o5, o6, o7, o8, o9, o10, o11, hq, hok⟩ := g_bnd11 hok
      refine cG (is := [0, 1, 2, 3, 4, 5, 6, 7, 8, 9, 10]) (wc := (wm_X9_runs cA h0 h0_g h0_p h0_rows h0_rows_e h0_sizes h0_outs h0_losses h0_kept h0_changed h0_causes h0_sorts h0_moved h0_levelOf h0_levelOften h0_to h0_round h0_tail h0_path h0_leastOn h0_period h0_amplitude h0_basin h0_numbered h0_isReached h0_tape h0_told h0_traced s0__isKept s0__done s0__undoable s0__redoable c0__all c0__v c0__loss c0__isOver s0__hasCauses c0__outMany c0__overMany c0__isHalted s0__levelMany s0__rounds s0__stuck s0__onRounds s0__longest s0__loudest s0__reached s0__isAnyOver s0__taped s0__at s0__ran (upd c0_g x1.toNatClampNeg y7) c0_p s0_rows_e s0_sizes c0_outs c0_losses)) (w1 := (wm_X9_runs cA h0 h0_g h0_p h0_rows h0_rows_e h0_sizes h0_outs h0_losses h0_kept h0_changed h0_causes h0_sorts h0_moved h0_levelOf h0_levelOften h0_to h0_round h0_tail h0_path h0_leastOn h0_period h0_amplitude h0_basin h0_numbered h0_isReached h0_tape h0_told h0_traced s0__isKept s0__done s0__undoable s0__redoable o2 o3 o4 o5 s0__hasCauses o6 o7 o8 s0__levelMany s0__rounds s0__stuck s0__onRounds s0__longest s0__loudest s0__reached s0__isAnyOver s0__taped s0__at s0__ran (upd c0_g x1.toNatClampNeg y7) o9 s0_rows_e s0_sizes o10 o11)) (rv := (some (.int r1))) (st1 := [.int r1, .int y6]) (va_runV (Ts := wsX9_setBy) (As := [.int x3, .int x4]) (rest := [.int y6]) ⟨hx, hb, hml, hown, hts⟩ (c_X9_isSoBy l G cA ts h0 h0_g h0_p h0_rows h0_rows_e h0_sizes h0_outs h0_losses h0_kept h0_changed h0_causes h0_sorts h0_moved h0_levelOf h0_levelOften h0_to h0_round h0_tail h0_path h0_leastOn h0_period h0_amplitude h0_basin h0_numbered h0_isReached h0_tape h0_told h0_traced x3 x4 s0__isKept s0__done s0__undoable s0__redoable c0__all c0__v c0__loss c0__isOver s0__hasCauses c0__outMany c0__overMany c0__isHalted s0__levelMany s0__rounds s0__stuck s0__onRounds s0__longest s0__loudest s0__reached s0__isAnyOver s0__taped s0__at s0__ran (upd c0_g x1.toNatClampNeg y7) c0_p s0_rows_e s0_sizes c0_outs c0_losses r1 o2 o3 o4 o5 o6 o7 o8 o9 o10 o11 hq H.size) (cwV 2 hts gX9_setBy_X9_isSoBy rfl rfl rfl (by decide +kernel) ⟨Nat.le_of_ble_eq_true rfl, Nat.le_of_ble_eq_true rfl⟩) (pre_V (ci := 9) (q0 := 0) (is := [0, 1, 2, 3, 4, 5, 6, 7, 8, 9, 10]) rfl rfl hP hD hS hA hK hZ (by decide +kernel) (by rfl)) rfl rfl hl.1 rfl (by exact lv_room (Nat.le_of_ble_eq_true rfl)) dX9_setBy_34 ⟨Nat.le_refl _, Nat.le_refl _⟩) hP hD hS hA (by decide +kernel) (by rfl) (by rfl) rfl (fun H locs hP hD hS => ?_)
      obtain ⟨hP, hD⟩ : va_P G vwCl (wm_X9_runs cA h0 h0_g h0_p h0_rows h0_rows_e h0_sizes h0_outs h0_losses h0_kept h0_changed h0_causes h0_sorts h0_moved h0_levelOf h0_levelOften h0_to h0_round h0_tail h0_path h0_leastOn h0_period h0_amplitude h0_basin h0_numbered h0_isReached h0_tape h0_told h0_traced s0__isKept s0__done s0__undoable s0__redoable o2 o3 o4 o5 s0__hasCauses o6 o7 o8 s0__levelMany s0__rounds s0__stuck s0__onRounds s0__longest s0__loudest s0__reached s0__isAnyOver s0__taped s0__at s0__ran (upd c0_g x1.toNatClampNeg y7) o9 s0_rows_e s0_sizes o10 o11) H ∧ va_D A (wm_X9_runs cA h0 h0_g h0_p h0_rows h0_rows_e h0_sizes h0_outs h0_losses h0_kept h0_changed h0_causes h0_sorts h0_moved h0_levelOf h0_levelOften h0_to h0_round h0_tail h0_path h0_leastOn h0_period h0_amplitude h0_basin h0_numbered h0_isReached h0_tape h0_told h0_traced s0__isKept s0__done s0__undoable s0__redoable o2 o3 o4 o5 s0__hasCauses o6 o7 o8 s0__levelMany s0__rounds s0__stuck s0__onRounds s0__longest s0__loudest s0__reached s0__isAnyOver s0__taped s0__at s0__ran (upd c0_g x1.toNatClampNeg y7) o9 s0_rows_e s0_sizes o10 o11) := PD_eq hP hD (rp_eq (js := []) 11 (by decide +kernel) rfl rfl (by rfl) (by rfl) (by decide +kernel))
      refine lv_if_eq (tgt := 47) hx hb dX9_setBy_37 (by decide) (fun c => ?_) (fun c => ?_)
      · replace hok := g_pos hok c
        refine lv_iconst (v := 0) hx hb dX9_setBy_47 (by decide) ?_
        refine lv_ior hx hb dX9_setBy_48 ?_
        refine lv_istore (lv' := [(6, .int (y6 ||| (0:Int32))), (0, .ref h0), (1, .int x1), (2, .int x2), (3, .int x3), (4, .int x4), (5, .int y5), (7, .int y7)]) hx hb dX9_setBy_49 hl (by decide) rfl (fun ls hl => ?_)
        refine lv_iinc (v := (y7 + 1)) (lv' := [(7, .int (y7 + 1)), (6, .int (y6 ||| (0:Int32))), (0, .ref h0), (1, .int x1), (2, .int x2), (3, .int x3), (4, .int x4), (5, .int y5)]) hx hb dX9_setBy_51 hl (k := 7) rfl rfl (by decide) rfl (fun ls hl => ?_)
        refine lv_goto (tgt := 14) hx hb dX9_setBy_54 (by decide) ?_
        exact ih y5 (y6 ||| (0:Int32)) (y7 + 1) o2 o3 o4 o5 o6 o7 o8 (upd c0_g x1.toNatClampNeg y7) o9 o10 o11 p0_0 p0_1 p0_2 p0_3 p0_4 p0_5 p0_6 p0_7 p0_8 p0_9 p0_10 p0_11 _ _ _ hP hD hS (lv_sub hl [2, 3, 4, 5, 6, 7, 1, 0] rfl) hok K
      replace hok := g_neg hok c
      refine lv_iconst (v := 1) hx hb dX9_setBy_40 (by decide) ?_
      refine lv_iload hx hb dX9_setBy_41 (lv_at hl 7 rfl) ?_
      refine lv_ishl hx hb dX9_setBy_43 ?_
      refine lv_goto (tgt := 48) hx hb dX9_setBy_44 (by decide) ?_
      refine lv_ior hx hb dX9_setBy_48 ?_
      refine lv_istore (lv' := [(6, .int (y6 ||| ((1:Int32) <<< (y7 &&& 31)))), (0, .ref h0), (1, .int x1), (2, .int x2), (3, .int x3), (4, .int x4), (5, .int y5), (7, .int y7)]) hx hb dX9_setBy_49 hl (by decide) rfl (fun ls hl => ?_)
      refine lv_iinc (v := (y7 + 1)) (lv' := [(7, .int (y7 + 1)), (6, .int (y6 ||| ((1:Int32) <<< (y7 &&& 31)))), (0, .ref h0), (1, .int x1), (2, .int x2), (3, .int x3), (4, .int x4), (5, .int y5)]) hx hb dX9_setBy_51 hl (k := 7) rfl rfl (by decide) rfl (fun ls hl => ?_)
      refine lv_goto (tgt := 14) hx hb dX9_setBy_54 (by decide) ?_
      exact ih y5 (y6 ||| ((1:Int32) <<< (y7 &&& 31))) (y7 + 1) o2 o3 o4 o5 o6 o7 o8 (upd c0_g x1.toNatClampNeg y7) o9 o10 o11 p0_0 p0_1 p0_2 p0_3 p0_4 p0_5 p0_6 p0_7 p0_8 p0_9 p0_10 p0_11 _ _ _ hP hD hS (lv_sub hl [2, 3, 4, 5, 6, 7, 1, 0] rfl) hok K
  unfold fX9_setBy at hok
  refine lv_aload_n hx hb dX9_setBy_0 rfl (lv_at hl 0 rfl) ?_
  refine va_get (ci := 9) (v := .ref h0_g) (C := RX9) (T := TX9) (N := 49) hx hb hts hinX9 hown hK hP 0 rfl rfl 0 (by decide) (hts _ (List.mem_of_getElem? (i := 1) rfl)) (fun _ h9 => h9) rfl dX9_setBy_1 ?_
  refine lv_iload_n hx hb dX9_setBy_4 rfl (lv_at hl 1 rfl) ?_
  obtain ⟨hin, hok⟩ := g_no hok
  refine x_iald (k := x1.toNatClampNeg) hx hb hK hP 1 0 rfl rfl hin rfl dX9_setBy_5 ?_
  refine lv_istore (lv' := [(5, .int (s0_g x1.toNatClampNeg)), (0, .ref h0), (1, .int x1), (2, .int x2), (3, .int x3), (4, .int x4)]) hx hb dX9_setBy_6 hl (by decide) rfl (fun ls hl => ?_)
  refine lv_iconst (v := 0) hx hb dX9_setBy_8 (by decide) ?_
  refine lv_istore (lv' := [(6, .int (0:Int32)), (5, .int (s0_g x1.toNatClampNeg)), (0, .ref h0), (1, .int x1), (2, .int x2), (3, .int x3), (4, .int x4)]) hx hb dX9_setBy_9 hl (by decide) rfl (fun ls hl => ?_)
  refine lv_iconst (v := 0) hx hb dX9_setBy_11 (by decide) ?_
  refine lv_istore (lv' := [(7, .int (0:Int32)), (6, .int (0:Int32)), (5, .int (s0_g x1.toNatClampNeg)), (0, .ref h0), (1, .int x1), (2, .int x2), (3, .int x3), (4, .int x4)]) hx hb dX9_setBy_12 hl (by decide) rfl (fun ls hl => ?_)
  obtain ⟨o12, o13, o14, o15, o16, o17, o18, o19, o20, o21, o22, o23, hq, hok⟩ := g_bnd12 hok
  refine L_14 FUEL (s0_g x1.toNatClampNeg) (0:Int32) (0:Int32) s0__all s0__v s0__loss s0__isOver s0__outMany s0__overMany s0__isHalted s0_g s0_p s0_outs s0_losses o12 o13 o14 o15 o16 o17 o18 o19 o20 o21 o22 o23 _ _ _ hP hD hS (lv_sub hl [3, 4, 5, 6, 7, 2, 1, 0] rfl) hq (fun H locs ls hP hD hS hl => ?_)
  refine lv_aload_n hx hb dX9_setBy_57 rfl (lv_at hl 0 rfl) ?_
  refine va_get (ci := 9) (v := .ref h0_g) (C := RX9) (T := TX9) (N := 49) hx hb hts hinX9 hown hK hP 0 rfl rfl 0 (by decide) (hts _ (List.mem_of_getElem? (i := 1) rfl)) (fun _ h9 => h9) rfl dX9_setBy_58 ?_
  refine lv_iload_n hx hb dX9_setBy_61 rfl (lv_at hl 1 rfl) ?_
  refine lv_iload hx hb dX9_setBy_62 (lv_at hl 2 rfl) ?_
  obtain ⟨hin, hok⟩ := g_no hok
  refine x_iast (k := x1.toNatClampNeg) hx hb hK hP hD hS 1 0 rfl rfl hin rfl dX9_setBy_64 (fun H locs hP hD hS => ?_)
  have hP : va_P G vwCl (wm_X9_runs cA h0 h0_g h0_p h0_rows h0_rows_e h0_sizes h0_outs h0_losses h0_kept h0_changed h0_causes h0_sorts h0_moved h0_levelOf h0_levelOften h0_to h0_round h0_tail h0_path h0_leastOn h0_period h0_amplitude h0_basin h0_numbered h0_isReached h0_tape h0_told h0_traced s0__isKept s0__done s0__undoable s0__redoable o13 o14 o15 o16 s0__hasCauses o17 o18 o19 s0__levelMany s0__rounds s0__stuck s0__onRounds s0__longest s0__loudest s0__reached s0__isAnyOver s0__taped s0__at s0__ran (upd o20 x1.toNatClampNeg (s0_g x1.toNatClampNeg)) o21 s0_rows_e s0_sizes o22 o23) H := hP
  have hD : va_D A (wm_X9_runs cA h0 h0_g h0_p h0_rows h0_rows_e h0_sizes h0_outs h0_losses h0_kept h0_changed h0_causes h0_sorts h0_moved h0_levelOf h0_levelOften h0_to h0_round h0_tail h0_path h0_leastOn h0_period h0_amplitude h0_basin h0_numbered h0_isReached h0_tape h0_told h0_traced s0__isKept s0__done s0__undoable s0__redoable o13 o14 o15 o16 s0__hasCauses o17 o18 o19 s0__levelMany s0__rounds s0__stuck s0__onRounds s0__longest s0__loudest s0__reached s0__isAnyOver s0__taped s0__at s0__ran (upd o20 x1.toNatClampNeg (s0_g x1.toNatClampNeg)) o21 s0_rows_e s0_sizes o22 o23) := hD
  refine lv_iload hx hb dX9_setBy_65 (lv_at hl 3 rfl) ?_
  obtain ⟨e, hok⟩ := g_pr hok
  try subst e
  obtain ⟨e, hok⟩ := g_pr hok
  try subst e
  obtain ⟨e, hok⟩ := g_pr hok
  try subst e
  obtain ⟨e, hok⟩ := g_pr hok
  try subst e
  obtain ⟨e, hok⟩ := g_pr hok
  try subst e
  obtain ⟨e, hok⟩ := g_pr hok
  try subst e
  obtain ⟨e, hok⟩ := g_pr hok
  try subst e
  obtain ⟨e, hok⟩ := g_pr hok
  try subst e
  obtain ⟨e, hok⟩ := g_pr hok
  try subst e
  obtain ⟨e, hok⟩ := g_pr hok
  try subst e
  obtain ⟨e, hok⟩ := g_pr hok
  try subst e
  cases hok
  exact cr_i hx hb hr hlocks hQ dX9_setBy_67 hP hS
set_option maxHeartbeats 40000000 in
set_option maxRecDepth 100000 in
theorem c_X9_coefficient (l : Launch) (G : va_G) (cA : Nat → ClassId) (ts : Nat → Nat) (h0 : Nat) (h0_g : Nat) (h0_p : Nat) (h0_rows : Nat) (h0_rows_e : Nat → Nat) (h0_sizes : Nat) (h0_outs : Nat) (h0_losses : Nat) (h0_kept : Nat) (h0_changed : Nat) (h0_causes : Nat) (h0_sorts : Nat) (h0_moved : Nat) (h0_levelOf : Nat) (h0_levelOften : Nat) (h0_to : Nat) (h0_round : Nat) (h0_tail : Nat) (h0_path : Nat) (h0_leastOn : Nat) (h0_period : Nat) (h0_amplitude : Nat) (h0_basin : Nat) (h0_numbered : Nat) (h0_isReached : Nat) (h0_tape : Nat) (h0_told : Nat) (h0_traced : Nat) (x1 : Int32) (x2 : Int32) (x3 : Int32) (s0__isKept : Int32) (s0__done : Int32) (s0__undoable : Int32) (s0__redoable : Int32) (s0__all : Int32) (s0__v : Int32) (s0__loss : Int32) (s0__isOver : Int32) (s0__hasCauses : Int32) (s0__outMany : Int32) (s0__overMany : Int32) (s0__isHalted : Int32) (s0__levelMany : Int32) (s0__rounds : Int32) (s0__stuck : Int32) (s0__onRounds : Int32) (s0__longest : Int32) (s0__loudest : Int32) (s0__reached : Int32) (s0__isAnyOver : Int32) (s0__taped : Int32) (s0__at : Int32) (s0__ran : Int32) (s0_g : Nat → Int32) (s0_p : Nat → Int32) (s0_rows_e : Nat → Nat → Int64) (s0_sizes : Nat → Int32) (s0_outs : Nat → Int32) (s0_losses : Nat → Int32) (r : Int32) (o0__all : Int32) (o0__v : Int32) (o0__loss : Int32) (o0__isOver : Int32) (o0__outMany : Int32) (o0__overMany : Int32) (o0__isHalted : Int32) (o0_g : Nat → Int32) (o0_p : Nat → Int32) (o0_outs : Nat → Int32) (o0_losses : Nat → Int32) (hok : fX9_coefficient x1 x2 x3 s0__all s0__v s0__loss s0__isOver s0__outMany s0__overMany s0__isHalted s0_g s0_p s0_rows_e s0_sizes s0_outs s0_losses = some (r, o0__all, o0__v, o0__loss, o0__isOver, o0__outMany, o0__overMany, o0__isHalted, o0_g, o0_p, o0_outs, o0_losses)) : Ct l G cA ts yX9_coefficient wsX9_coefficient 6 157 [.ref h0, .int x1, .int x2, .int x3] (wm_X9_runs cA h0 h0_g h0_p h0_rows h0_rows_e h0_sizes h0_outs h0_losses h0_kept h0_changed h0_causes h0_sorts h0_moved h0_levelOf h0_levelOften h0_to h0_round h0_tail h0_path h0_leastOn h0_period h0_amplitude h0_basin h0_numbered h0_isReached h0_tape h0_told h0_traced s0__isKept s0__done s0__undoable s0__redoable s0__all s0__v s0__loss s0__isOver s0__hasCauses s0__outMany s0__overMany s0__isHalted s0__levelMany s0__rounds s0__stuck s0__onRounds s0__longest s0__loudest s0__reached s0__isAnyOver s0__taped s0__at s0__ran s0_g s0_p s0_rows_e s0_sizes s0_outs s0_losses) (wm_X9_runs cA h0 h0_g h0_p h0_rows h0_rows_e h0_sizes h0_outs h0_losses h0_kept h0_changed h0_causes h0_sorts h0_moved h0_levelOf h0_levelOften h0_to h0_round h0_tail h0_path h0_leastOn h0_period h0_amplitude h0_basin h0_numbered h0_isReached h0_tape h0_told h0_traced s0__isKept s0__done s0__undoable s0__redoable o0__all o0__v o0__loss o0__isOver s0__hasCauses o0__outMany o0__overMany o0__isHalted s0__levelMany s0__rounds s0__stuck s0__onRounds s0__longest s0__loudest s0__reached s0__isAnyOver s0__taped s0__at s0__ran o0_g o0_p s0_rows_e s0_sizes o0_outs o0_losses) (some (.int r)) := by
  refine Ct.intro (cc := cX9_coefficient) (maxL := 8) (ret := some .int) (by decide +kernel) rfl (Nat.le_of_ble_eq_true rfl) ?_
  intro p e s m ar below meth c A Q hx hb hr hml hown hlocks hts hK hZ hA hQ hP hD hS ls hl
  have hown : s.vm.findClass RX9 = some m.cls := hown
  have hinX9 : ∀ w ∈ wsX90, w ∈ wsX9_coefficient := fun _ h => List.mem_cons_of_mem _ (List.mem_append_right _ (h))
  have hl : lv_has ls 8 [(0, .ref h0), (1, .int x1), (2, .int x2), (3, .int x3)] := hl
  have hP : va_P G vwCl (wm_X9_runs cA h0 h0_g h0_p h0_rows h0_rows_e h0_sizes h0_outs h0_losses h0_kept h0_changed h0_causes h0_sorts h0_moved h0_levelOf h0_levelOften h0_to h0_round h0_tail h0_path h0_leastOn h0_period h0_amplitude h0_basin h0_numbered h0_isReached h0_tape h0_told h0_traced s0__isKept s0__done s0__undoable s0__redoable s0__all s0__v s0__loss s0__isOver s0__hasCauses s0__outMany s0__overMany s0__isHalted s0__levelMany s0__rounds s0__stuck s0__onRounds s0__longest s0__loudest s0__reached s0__isAnyOver s0__taped s0__at s0__ran s0_g s0_p s0_rows_e s0_sizes s0_outs s0_losses) s.heap := hP
  have hD : va_D A (wm_X9_runs cA h0 h0_g h0_p h0_rows h0_rows_e h0_sizes h0_outs h0_losses h0_kept h0_changed h0_causes h0_sorts h0_moved h0_levelOf h0_levelOften h0_to h0_round h0_tail h0_path h0_leastOn h0_period h0_amplitude h0_basin h0_numbered h0_isReached h0_tape h0_told h0_traced s0__isKept s0__done s0__undoable s0__redoable s0__all s0__v s0__loss s0__isOver s0__hasCauses s0__outMany s0__overMany s0__isHalted s0__levelMany s0__rounds s0__stuck s0__onRounds s0__longest s0__loudest s0__reached s0__isAnyOver s0__taped s0__at s0__ran s0_g s0_p s0_rows_e s0_sizes s0_outs s0_losses) := hD
  have L_20 : ∀ (n : Nat) (y4 : Int32) (y5 : Int32) (y6 : Int32) (y7 : Int32) (c0__all : Int32) (c0__v : Int32) (c0__loss : Int32) (c0__isOver : Int32) (c0__outMany : Int32) (c0__overMany : Int32) (c0__isHalted : Int32) (c0_g : Nat → Int32) (c0_p : Nat → Int32) (c0_outs : Nat → Int32) (c0_losses : Nat → Int32) (p0_0 : Int32) (p0_1 : Int32) (p0_2 : Int32) (p0_3 : Int32) (p0_4 : Int32) (p0_5 : Int32) (p0_6 : Int32) (p0_7 : Int32) (p0_8 : Int32) (p0_9 : Nat → Int32) (p0_10 : Nat → Int32) (p0_11 : Nat → Int32) (p0_12 : Nat → Int32) (H : Heap) (locs : List Loc) (ls : Array Slot), va_P G vwCl (wm_X9_runs cA h0 h0_g h0_p h0_rows h0_rows_e h0_sizes h0_outs h0_losses h0_kept h0_changed h0_causes h0_sorts h0_moved h0_levelOf h0_levelOften h0_to h0_round h0_tail h0_path h0_leastOn h0_period h0_amplitude h0_basin h0_numbered h0_isReached h0_tape h0_told h0_traced s0__isKept s0__done s0__undoable s0__redoable c0__all c0__v c0__loss c0__isOver s0__hasCauses c0__outMany c0__overMany c0__isHalted s0__levelMany s0__rounds s0__stuck s0__onRounds s0__longest s0__loudest s0__reached s0__isAnyOver s0__taped s0__at s0__ran c0_g c0_p s0_rows_e s0_sizes c0_outs c0_losses) H → va_D A (wm_X9_runs cA h0 h0_g h0_p h0_rows h0_rows_e h0_sizes h0_outs h0_losses h0_kept h0_changed h0_causes h0_sorts h0_moved h0_levelOf h0_levelOften h0_to h0_round h0_tail h0_path h0_leastOn h0_period h0_amplitude h0_basin h0_numbered h0_isReached h0_tape h0_told h0_traced s0__isKept s0__done s0__undoable s0__redoable c0__all c0__v c0__loss c0__isOver s0__hasCauses c0__outMany c0__overMany c0__isHalted s0__levelMany s0__rounds s0__stuck s0__onRounds s0__longest s0__loudest s0__reached s0__isAnyOver s0__taped s0__at s0__ran c0_g c0_p s0_rows_e s0_sizes c0_outs c0_losses) → va_S A s.heap H locs → lv_has ls 8 [(0, .ref h0), (1, .int x1), (2, .int x2), (3, .int x3), (4, .int y4), (5, .int y5), (6, .int y6), (7, .int y7)] → fX9_coefficient_L20 x1 x2 x3 s0_rows_e s0_sizes n y4 y5 y6 y7 c0__all c0__v c0__loss c0__isOver c0__outMany c0__overMany c0__isHalted c0_g c0_p c0_outs c0_losses = some (p0_0, p0_1, p0_2, p0_3, p0_4, p0_5, p0_6, p0_7, p0_8, p0_9, p0_10, p0_11, p0_12) → (∀ (H : Heap) (locs : List Loc) (ls : Array Slot), va_P G vwCl (wm_X9_runs cA h0 h0_g h0_p h0_rows h0_rows_e h0_sizes h0_outs h0_losses h0_kept h0_changed h0_causes h0_sorts h0_moved h0_levelOf h0_levelOften h0_to h0_round h0_tail h0_path h0_leastOn h0_period h0_amplitude h0_basin h0_numbered h0_isReached h0_tape h0_told h0_traced s0__isKept s0__done s0__undoable s0__redoable p0_2 p0_3 p0_4 p0_5 s0__hasCauses p0_6 p0_7 p0_8 s0__levelMany s0__rounds s0__stuck s0__onRounds s0__longest s0__loudest s0__reached s0__isAnyOver s0__taped s0__at s0__ran p0_9 p0_10 s0_rows_e s0_sizes p0_11 p0_12) H → va_D A (wm_X9_runs cA h0 h0_g h0_p h0_rows h0_rows_e h0_sizes h0_outs h0_losses h0_kept h0_changed h0_causes h0_sorts h0_moved h0_levelOf h0_levelOften h0_to h0_round h0_tail h0_path h0_leastOn h0_period h0_amplitude h0_basin h0_numbered h0_isReached h0_tape h0_told h0_traced s0__isKept s0__done s0__undoable s0__redoable p0_2 p0_3 p0_4 p0_5 s0__hasCauses p0_6 p0_7 p0_8 s0__levelMany s0__rounds s0__stuck s0__onRounds s0__longest s0__loudest s0__reached s0__isAnyOver s0__taped s0__at s0__ran p0_9 p0_10 s0_rows_e s0_sizes p0_11 p0_12) → va_S A s.heap H locs → lv_has ls 8 [(0, .ref h0), (3, .int x3), (4, .int y4), (5, .int p0_0), (6, .int p0_1)] → W p l e (rmX 6 157) s m ar below meth c H locs 0 0 Q (F0 m 57 ls [])) → W p l e (rmX 6 157) s m ar below meth c H locs 0 0 Q (F0 m 20 ls []) := by
    intro n
    induction n with
    | zero =>
      intro y4 y5 y6 y7 c0__all c0__v c0__loss c0__isOver c0__outMany c0__overMany c0__isHalted c0_g c0_p c0_outs c0_losses p0_0 p0_1 p0_2 p0_3 p0_4 p0_5 p0_6 p0_7 p0_8 p0_9 p0_10 p0_11 p0_12 H locs ls hP hD hS hl hok
      rw [fX9_coefficient_L20] at hok
      cases hok
    | succ n ih =>
      intro y4 y5 y6 y7 c0__all c0__v c0__loss c0__isOver c0__outMany c0__overMany c0__isHalted c0_g c0_p c0_outs c0_losses p0_0 p0_1 p0_2 p0_3 p0_4 p0_5 p0_6 p0_7 p0_8 p0_9 p0_10 p0_11 p0_12 H locs ls hP hD hS hl hok K
      rw [fX9_coefficient_L20] at hok
      refine lv_iload hx hb dX9_coefficient_20 (lv_at hl 7 rfl) ?_
      refine lv_bipush (v := -99) hx hb dX9_coefficient_22 (by decide) ?_
      refine lv_icmp_lt (tgt := 57) hx hb dX9_coefficient_24 (by decide) (fun c => ?_) (fun c => ?_)
      · replace hok := g_pos hok c
        cases hok
        exact K _ _ _ hP hD hS (lv_sub hl [0, 3, 4, 5, 6] rfl)
      replace hok := g_neg hok c
      refine lv_aload_n hx hb dX9_coefficient_27 rfl (lv_at hl 0 rfl) ?_
      refine va_get (ci := 9) (v := .ref h0_g) (C := RX9) (T := TX9) (N := 49) hx hb hts hinX9 hown hK hP 0 rfl rfl 0 (by decide) (hts _ (List.mem_of_getElem? (i := 1) rfl)) (fun _ h9 => h9) rfl dX9_coefficient_28 ?_
      refine lv_iconst (v := 2) hx hb dX9_coefficient_31 (by decide) ?_
      refine lv_iload hx hb dX9_coefficient_32 (lv_at hl 7 rfl) ?_
      refine x_iast (k := 2) hx hb hK hP hD hS 1 0 rfl rfl (show ¬ ((2:Int32) < 0 ∨ 13 ≤ (2:Int32).toNatClampNeg) by decide) (by decide) dX9_coefficient_34 (fun H locs hP hD hS => ?_)
      have hP : va_P G vwCl (wm_X9_runs cA h0 h0_g h0_p h0_rows h0_rows_e h0_sizes h0_outs h0_losses h0_kept h0_changed h0_causes h0_sorts h0_moved h0_levelOf h0_levelOften h0_to h0_round h0_tail h0_path h0_leastOn h0_period h0_amplitude h0_basin h0_numbered h0_isReached h0_tape h0_told h0_traced s0__isKept s0__done s0__undoable s0__redoable c0__all c0__v c0__loss c0__isOver s0__hasCauses c0__outMany c0__overMany c0__isHalted s0__levelMany s0__rounds s0__stuck s0__onRounds s0__longest s0__loudest s0__reached s0__isAnyOver s0__taped s0__at s0__ran (upd c0_g 2 y7) c0_p s0_rows_e s0_sizes c0_outs c0_losses) H := hP
      have hD : va_D A (wm_X9_runs cA h0 h0_g h0_p h0_rows h0_rows_e h0_sizes h0_outs h0_losses h0_kept h0_changed h0_causes h0_sorts h0_moved h0_levelOf h0_levelOften h0_to h0_round h0_tail h0_path h0_leastOn h0_period h0_amplitude h0_basin h0_numbered h0_isReached h0_tape h0_told h0_traced s0__isKept s0__done s0__undoable s0__redoable c0__all c0__v c0__loss c0__isOver s0__hasCauses c0__outMany c0__overMany c0__isHalted s0__levelMany s0__rounds s0__stuck s0__onRounds s0__longest s0__loudest s0__reached s0__isAnyOver s0__taped s0__at s0__ran (upd c0_g 2 y7) c0_p s0_rows_e s0_sizes c0_outs c0_losses) := hD
      refine lv_aload_n hx hb dX9_coefficient_35 rfl (lv_at hl 0 rfl) ?_
      refine lv_iload_n hx hb dX9_coefficient_36 rfl (lv_at hl 1 rfl) ?_
      refine lv_iload_n hx hb dX9_coefficient_37 rfl (lv_at hl 2 rfl) ?_
      obtain ⟨r1, o2, o3, o4, o5, o6, o7, o8, o9, o10, o11, hq, hok⟩ := g_bnd11 hok
      refine cG (is := [0, 1, 2, 3, 4, 5, 6, 7, 8, 9, 10]) (wc := (wm_X9_runs cA h0 h0_g h0_p h0_rows h0_rows_e h0_sizes h0_outs h0_losses h0_kept h0_changed h0_causes h0_sorts h0_moved h0_levelOf h0_levelOften h0_to h0_round h0_tail h0_path h0_leastOn h0_period h0_amplitude h0_basin h0_numbered h0_isReached h0_tape h0_told h0_traced s0__isKept s0__done s0__undoable s0__redoable c0__all c0__v c0__loss c0__isOver s0__hasCauses c0__outMany c0__overMany c0__isHalted s0__levelMany s0__rounds s0__stuck s0__onRounds s0__longest s0__loudest s0__reached s0__isAnyOver s0__taped s0__at s0__ran (upd c0_g 2 y7) c0_p s0_rows_e s0_sizes c0_outs c0_losses)) (w1 := (wm_X9_runs cA h0 h0_g h0_p h0_rows h0_rows_e h0_sizes h0_outs h0_losses h0_kept h0_changed h0_causes h0_sorts h0_moved h0_levelOf h0_levelOften h0_to h0_round h0_tail h0_path h0_leastOn h0_period h0_amplitude h0_basin h0_numbered h0_isReached h0_tape h0_told h0_traced s0__isKept s0__done s0__undoable s0__redoable o2 o3 o4 o5 s0__hasCauses o6 o7 o8 s0__levelMany s0__rounds s0__stuck s0__onRounds s0__longest s0__loudest s0__reached s0__isAnyOver s0__taped s0__at s0__ran (upd c0_g 2 y7) o9 s0_rows_e s0_sizes o10 o11)) (rv := (some (.int r1))) (st1 := [.int r1]) (va_runV (Ts := wsX9_coefficient) (As := [.int x1, .int x2]) (rest := []) ⟨hx, hb, hml, hown, hts⟩ (c_X9_isSoBy l G cA ts h0 h0_g h0_p h0_rows h0_rows_e h0_sizes h0_outs h0_losses h0_kept h0_changed h0_causes h0_sorts h0_moved h0_levelOf h0_levelOften h0_to h0_round h0_tail h0_path h0_leastOn h0_period h0_amplitude h0_basin h0_numbered h0_isReached h0_tape h0_told h0_traced x1 x2 s0__isKept s0__done s0__undoable s0__redoable c0__all c0__v c0__loss c0__isOver s0__hasCauses c0__outMany c0__overMany c0__isHalted s0__levelMany s0__rounds s0__stuck s0__onRounds s0__longest s0__loudest s0__reached s0__isAnyOver s0__taped s0__at s0__ran (upd c0_g 2 y7) c0_p s0_rows_e s0_sizes c0_outs c0_losses r1 o2 o3 o4 o5 o6 o7 o8 o9 o10 o11 hq H.size) (cwV 2 hts gX9_coefficient_X9_isSoBy rfl rfl rfl (by decide +kernel) ⟨Nat.le_of_ble_eq_true rfl, Nat.le_of_ble_eq_true rfl⟩) (pre_V (ci := 9) (q0 := 0) (is := [0, 1, 2, 3, 4, 5, 6, 7, 8, 9, 10]) rfl rfl hP hD hS hA hK hZ (by decide +kernel) (by rfl)) rfl rfl hl.1 rfl (by exact lv_room (Nat.le_of_ble_eq_true rfl)) dX9_coefficient_38 ⟨Nat.le_refl _, Nat.le_refl _⟩) hP hD hS hA (by decide +kernel) (by rfl) (by rfl) rfl (fun H locs hP hD hS => ?_)
      obtain ⟨hP, hD⟩ : va_P G vwCl (wm_X9_runs cA h0 h0_g h0_p h0_rows h0_rows_e h0_sizes h0_outs h0_losses h0_kept h0_changed h0_causes h0_sorts h0_moved h0_levelOf h0_levelOften h0_to h0_round h0_tail h0_path h0_leastOn h0_period h0_amplitude h0_basin h0_numbered h0_isReached h0_tape h0_told h0_traced s0__isKept s0__done s0__undoable s0__redoable o2 o3 o4 o5 s0__hasCauses o6 o7 o8 s0__levelMany s0__rounds s0__stuck s0__onRounds s0__longest s0__loudest s0__reached s0__isAnyOver s0__taped s0__at s0__ran (upd c0_g 2 y7) o9 s0_rows_e s0_sizes o10 o11) H ∧ va_D A (wm_X9_runs cA h0 h0_g h0_p h0_rows h0_rows_e h0_sizes h0_outs h0_losses h0_kept h0_changed h0_causes h0_sorts h0_moved h0_levelOf h0_levelOften h0_to h0_round h0_tail h0_path h0_leastOn h0_period h0_amplitude h0_basin h0_numbered h0_isReached h0_tape h0_told h0_traced s0__isKept s0__done s0__undoable s0__redoable o2 o3 o4 o5 s0__hasCauses o6 o7 o8 s0__levelMany s0__rounds s0__stuck s0__onRounds s0__longest s0__loudest s0__reached s0__isAnyOver s0__taped s0__at s0__ran (upd c0_g 2 y7) o9 s0_rows_e s0_sizes o10 o11) := PD_eq hP hD (rp_eq (js := []) 11 (by decide +kernel) rfl rfl (by rfl) (by rfl) (by decide +kernel))
      refine lv_if_eq (tgt := 51) hx hb dX9_coefficient_41 (by decide) (fun c => ?_) (fun c => ?_)
      · replace hok := g_pos hok c
        refine lv_iinc (v := (y7 + (-1))) (lv' := [(7, .int (y7 + (-1))), (0, .ref h0), (1, .int x1), (2, .int x2), (3, .int x3), (4, .int y4), (5, .int y5), (6, .int y6)]) hx hb dX9_coefficient_51 hl (k := 7) rfl rfl (by decide) rfl (fun ls hl => ?_)
        refine lv_goto (tgt := 20) hx hb dX9_coefficient_54 (by decide) ?_
        exact ih y4 y5 y6 (y7 + (-1)) o2 o3 o4 o5 o6 o7 o8 (upd c0_g 2 y7) o9 o10 o11 p0_0 p0_1 p0_2 p0_3 p0_4 p0_5 p0_6 p0_7 p0_8 p0_9 p0_10 p0_11 p0_12 _ _ _ hP hD hS (lv_sub hl [1, 2, 3, 4, 5, 6, 7, 0] rfl) hok K
      replace hok := g_neg hok c
      refine lv_iinc (v := (y5 + 1)) (lv' := [(5, .int (y5 + 1)), (0, .ref h0), (1, .int x1), (2, .int x2), (3, .int x3), (4, .int y4), (6, .int y6), (7, .int y7)]) hx hb dX9_coefficient_44 hl (k := 5) rfl rfl (by decide) rfl (fun ls hl => ?_)
      refine lv_iload hx hb dX9_coefficient_47 (lv_at hl 7 rfl) ?_
      refine lv_istore (lv' := [(6, .int y7), (5, .int (y5 + 1)), (0, .ref h0), (1, .int x1), (2, .int x2), (3, .int x3), (4, .int y4), (7, .int y7)]) hx hb dX9_coefficient_49 hl (by decide) rfl (fun ls hl => ?_)
      refine lv_iinc (v := (y7 + (-1))) (lv' := [(7, .int (y7 + (-1))), (6, .int y7), (5, .int (y5 + 1)), (0, .ref h0), (1, .int x1), (2, .int x2), (3, .int x3), (4, .int y4)]) hx hb dX9_coefficient_51 hl (k := 7) rfl rfl (by decide) rfl (fun ls hl => ?_)
      refine lv_goto (tgt := 20) hx hb dX9_coefficient_54 (by decide) ?_
      exact ih y4 (y5 + 1) y7 (y7 + (-1)) o2 o3 o4 o5 o6 o7 o8 (upd c0_g 2 y7) o9 o10 o11 p0_0 p0_1 p0_2 p0_3 p0_4 p0_5 p0_6 p0_7 p0_8 p0_9 p0_10 p0_11 p0_12 _ _ _ hP hD hS (lv_sub hl [3, 4, 5, 6, 7, 2, 1, 0] rfl) hok K
  unfold fX9_coefficient at hok
  refine lv_aload_n hx hb dX9_coefficient_0 rfl (lv_at hl 0 rfl) ?_
  refine va_get (ci := 9) (v := .ref h0_g) (C := RX9) (T := TX9) (N := 49) hx hb hts hinX9 hown hK hP 0 rfl rfl 0 (by decide) (hts _ (List.mem_of_getElem? (i := 1) rfl)) (fun _ h9 => h9) rfl dX9_coefficient_1 ?_
  refine lv_iconst (v := 2) hx hb dX9_coefficient_4 (by decide) ?_
  refine x_iald (k := 2) hx hb hK hP 1 0 rfl rfl (show ¬ ((2:Int32) < 0 ∨ 13 ≤ (2:Int32).toNatClampNeg) by decide) (by decide) dX9_coefficient_5 ?_
  refine lv_istore (lv' := [(4, .int (s0_g 2)), (0, .ref h0), (1, .int x1), (2, .int x2), (3, .int x3)]) hx hb dX9_coefficient_6 hl (by decide) rfl (fun ls hl => ?_)
  refine lv_iconst (v := 0) hx hb dX9_coefficient_8 (by decide) ?_
  refine lv_istore (lv' := [(5, .int (0:Int32)), (4, .int (s0_g 2)), (0, .ref h0), (1, .int x1), (2, .int x2), (3, .int x3)]) hx hb dX9_coefficient_9 hl (by decide) rfl (fun ls hl => ?_)
  refine lv_sipush (v := -1002) hx hb dX9_coefficient_11 (by decide) ?_
  refine lv_istore (lv' := [(6, .int (-1002:Int32)), (5, .int (0:Int32)), (4, .int (s0_g 2)), (0, .ref h0), (1, .int x1), (2, .int x2), (3, .int x3)]) hx hb dX9_coefficient_14 hl (by decide) rfl (fun ls hl => ?_)
  refine lv_bipush (v := 99) hx hb dX9_coefficient_16 (by decide) ?_
  refine lv_istore (lv' := [(7, .int (99:Int32)), (6, .int (-1002:Int32)), (5, .int (0:Int32)), (4, .int (s0_g 2)), (0, .ref h0), (1, .int x1), (2, .int x2), (3, .int x3)]) hx hb dX9_coefficient_18 hl (by decide) rfl (fun ls hl => ?_)
  obtain ⟨o12, o13, o14, o15, o16, o17, o18, o19, o20, o21, o22, o23, o24, hq, hok⟩ := g_bnd13 hok
  refine L_20 FUEL (s0_g 2) (0:Int32) (-1002:Int32) (99:Int32) s0__all s0__v s0__loss s0__isOver s0__outMany s0__overMany s0__isHalted s0_g s0_p s0_outs s0_losses o12 o13 o14 o15 o16 o17 o18 o19 o20 o21 o22 o23 o24 _ _ _ hP hD hS (lv_sub hl [4, 5, 6, 7, 3, 2, 1, 0] rfl) hq (fun H locs ls hP hD hS hl => ?_)
  refine lv_aload_n hx hb dX9_coefficient_57 rfl (lv_at hl 0 rfl) ?_
  refine va_get (ci := 9) (v := .ref h0_g) (C := RX9) (T := TX9) (N := 49) hx hb hts hinX9 hown hK hP 0 rfl rfl 0 (by decide) (hts _ (List.mem_of_getElem? (i := 1) rfl)) (fun _ h9 => h9) rfl dX9_coefficient_58 ?_
  refine lv_iconst (v := 2) hx hb dX9_coefficient_61 (by decide) ?_
  refine lv_iload hx hb dX9_coefficient_62 (lv_at hl 2 rfl) ?_
  refine x_iast (k := 2) hx hb hK hP hD hS 1 0 rfl rfl (show ¬ ((2:Int32) < 0 ∨ 13 ≤ (2:Int32).toNatClampNeg) by decide) (by decide) dX9_coefficient_64 (fun H locs hP hD hS => ?_)
  have hP : va_P G vwCl (wm_X9_runs cA h0 h0_g h0_p h0_rows h0_rows_e h0_sizes h0_outs h0_losses h0_kept h0_changed h0_causes h0_sorts h0_moved h0_levelOf h0_levelOften h0_to h0_round h0_tail h0_path h0_leastOn h0_period h0_amplitude h0_basin h0_numbered h0_isReached h0_tape h0_told h0_traced s0__isKept s0__done s0__undoable s0__redoable o14 o15 o16 o17 s0__hasCauses o18 o19 o20 s0__levelMany s0__rounds s0__stuck s0__onRounds s0__longest s0__loudest s0__reached s0__isAnyOver s0__taped s0__at s0__ran (upd o21 2 (s0_g 2)) o22 s0_rows_e s0_sizes o23 o24) H := hP
  have hD : va_D A (wm_X9_runs cA h0 h0_g h0_p h0_rows h0_rows_e h0_sizes h0_outs h0_losses h0_kept h0_changed h0_causes h0_sorts h0_moved h0_levelOf h0_levelOften h0_to h0_round h0_tail h0_path h0_leastOn h0_period h0_amplitude h0_basin h0_numbered h0_isReached h0_tape h0_told h0_traced s0__isKept s0__done s0__undoable s0__redoable o14 o15 o16 o17 s0__hasCauses o18 o19 o20 s0__levelMany s0__rounds s0__stuck s0__onRounds s0__longest s0__loudest s0__reached s0__isAnyOver s0__taped s0__at s0__ran (upd o21 2 (s0_g 2)) o22 s0_rows_e s0_sizes o23 o24) := hD
  refine lv_iload_n hx hb dX9_coefficient_65 rfl (lv_at hl 1 rfl) ?_
  refine lv_if_eq (tgt := 74) hx hb dX9_coefficient_66 (by decide) (fun c => ?_) (fun c => ?_)
  · replace hok := g_pos hok c
    refine lv_iload hx hb dX9_coefficient_74 (lv_at hl 3 rfl) ?_
    obtain ⟨e, hok⟩ := g_pr hok
    try subst e
    obtain ⟨e, hok⟩ := g_pr hok
    try subst e
    obtain ⟨e, hok⟩ := g_pr hok
    try subst e
    obtain ⟨e, hok⟩ := g_pr hok
    try subst e
    obtain ⟨e, hok⟩ := g_pr hok
    try subst e
    obtain ⟨e, hok⟩ := g_pr hok
    try subst e
    obtain ⟨e, hok⟩ := g_pr hok
    try subst e
    obtain ⟨e, hok⟩ := g_pr hok
    try subst e
    obtain ⟨e, hok⟩ := g_pr hok
    try subst e
    obtain ⟨e, hok⟩ := g_pr hok
    try subst e
    obtain ⟨e, hok⟩ := g_pr hok
    try subst e
    cases hok
    exact cr_i hx hb hr hlocks hQ dX9_coefficient_76 hP hS
  replace hok := g_neg hok c
  refine lv_iload hx hb dX9_coefficient_69 (lv_at hl 4 rfl) ?_
  refine lv_goto (tgt := 76) hx hb dX9_coefficient_71 (by decide) ?_
  obtain ⟨e, hok⟩ := g_pr hok
  try subst e
  obtain ⟨e, hok⟩ := g_pr hok
  try subst e
  obtain ⟨e, hok⟩ := g_pr hok
  try subst e
  obtain ⟨e, hok⟩ := g_pr hok
  try subst e
  obtain ⟨e, hok⟩ := g_pr hok
  try subst e
  obtain ⟨e, hok⟩ := g_pr hok
  try subst e
  obtain ⟨e, hok⟩ := g_pr hok
  try subst e
  obtain ⟨e, hok⟩ := g_pr hok
  try subst e
  obtain ⟨e, hok⟩ := g_pr hok
  try subst e
  obtain ⟨e, hok⟩ := g_pr hok
  try subst e
  obtain ⟨e, hok⟩ := g_pr hok
  try subst e
  cases hok
  exact cr_i hx hb hr hlocks hQ dX9_coefficient_76 hP hS
