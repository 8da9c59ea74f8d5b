set_option maxHeartbeats 40000000 in
set_option maxRecDepth 100000 in
theorem c_X9_put (l : Launch) (G : va_G) (cA : Nat → ClassId) (ts : Nat → Nat) (h0 : Nat) (h0_rows : Nat) (h0_rows_e : Nat → Nat) (h0_sorts : Nat) (h0_sizes : Nat) (h0_g : Nat) (h0_kept : Nat) (h0_changed : Nat) (h0_p : Nat) (h0_causes : Nat) (h0_moved : Nat) (h0_outs : Nat) (h0_losses : Nat) (h0_levelOf : Nat) (h0_levelOften : Nat) (h0_to : Nat) (h0_round : Nat) (h0_tail : Nat) (h0_path : Nat) (h0_leastOn : Nat) (h0_period : Nat) (h0_amplitude : Nat) (h0_basin : Nat) (h0_numbered : Nat) (h0_isReached : Nat) (h0_tape : Nat) (h0_told : Nat) (h0_traced : Nat) (x1 : Int32) (x2 : Int32) (x3 : Int64) (s0__isKept : Int32) (s0__done : Int32) (s0__undoable : Int32) (s0__redoable : Int32) (s0__all : Int32) (s0__v : Int32) (s0__loss : Int32) (s0__isOver : Int32) (s0__hasCauses : Int32) (s0__outMany : Int32) (s0__overMany : Int32) (s0__isHalted : Int32) (s0__levelMany : Int32) (s0__rounds : Int32) (s0__stuck : Int32) (s0__onRounds : Int32) (s0__longest : Int32) (s0__loudest : Int32) (s0__reached : Int32) (s0__isAnyOver : Int32) (s0__taped : Int32) (s0__at : Int32) (s0__ran : Int32) (s0_rows_e : Nat → Nat → Int64) (s0_sorts : Nat → Int32) (s0_sizes : Nat → Int32) (r : Int32) (o0_rows_e : Nat → Nat → Int64) (hok : fX9_put x1 x2 x3 s0_rows_e s0_sorts s0_sizes = some (r, o0_rows_e)) : Ct l G cA ts yX9_put wsX9_put 3 85 [.ref h0, .int x1, .int x2, .long x3] (wm_X9_row cA h0 h0_rows h0_rows_e h0_sorts h0_sizes h0_g h0_kept h0_changed h0_p h0_causes h0_moved h0_outs h0_losses h0_levelOf h0_levelOften h0_to h0_round h0_tail h0_path h0_leastOn h0_period h0_amplitude h0_basin h0_numbered h0_isReached h0_tape h0_told h0_traced s0__isKept s0__done s0__undoable s0__redoable s0__all s0__v s0__loss s0__isOver s0__hasCauses s0__outMany s0__overMany s0__isHalted s0__levelMany s0__rounds s0__stuck s0__onRounds s0__longest s0__loudest s0__reached s0__isAnyOver s0__taped s0__at s0__ran s0_rows_e s0_sorts s0_sizes) (wm_X9_row cA h0 h0_rows h0_rows_e h0_sorts h0_sizes h0_g h0_kept h0_changed h0_p h0_causes h0_moved h0_outs h0_losses h0_levelOf h0_levelOften h0_to h0_round h0_tail h0_path h0_leastOn h0_period h0_amplitude h0_basin h0_numbered h0_isReached h0_tape h0_told h0_traced s0__isKept s0__done s0__undoable s0__redoable s0__all s0__v s0__loss s0__isOver s0__hasCauses s0__outMany s0__overMany s0__isHalted s0__levelMany s0__rounds s0__stuck s0__onRounds s0__longest s0__loudest s0__reached s0__isAnyOver s0__taped s0__at s0__ran o0_rows_e s0_sorts s0_sizes) (some (.int r)) := by
  refine Ct.intro (cc := cX9_put) (maxL := 5) (ret := some .int) (by decide +kernel) rfl (Nat.le_of_ble_eq_true rfl) ?_
  intro p e s m ar below meth c A Q hx hb hr hml hown hlocks hts hK hZ hA hQ hP hD hS ls hl
  have hown : s.vm.findClass RX9 = some m.cls := hown
  have hinX9 : ∀ w ∈ wsX90, w ∈ wsX9_put := fun _ h => List.mem_cons_of_mem _ (List.mem_append_right _ (h))
  have hl : lv_has ls 5 [(0, .ref h0), (1, .int x1), (2, .int x2), (3, .long x3)] := hl
  have hP : va_P G vwCl (wm_X9_row cA h0 h0_rows h0_rows_e h0_sorts h0_sizes h0_g h0_kept h0_changed h0_p h0_causes h0_moved h0_outs h0_losses h0_levelOf h0_levelOften h0_to h0_round h0_tail h0_path h0_leastOn h0_period h0_amplitude h0_basin h0_numbered h0_isReached h0_tape h0_told h0_traced s0__isKept s0__done s0__undoable s0__redoable s0__all s0__v s0__loss s0__isOver s0__hasCauses s0__outMany s0__overMany s0__isHalted s0__levelMany s0__rounds s0__stuck s0__onRounds s0__longest s0__loudest s0__reached s0__isAnyOver s0__taped s0__at s0__ran s0_rows_e s0_sorts s0_sizes) s.heap := hP
  have hD : va_D A (wm_X9_row cA h0 h0_rows h0_rows_e h0_sorts h0_sizes h0_g h0_kept h0_changed h0_p h0_causes h0_moved h0_outs h0_losses h0_levelOf h0_levelOften h0_to h0_round h0_tail h0_path h0_leastOn h0_period h0_amplitude h0_basin h0_numbered h0_isReached h0_tape h0_told h0_traced s0__isKept s0__done s0__undoable s0__redoable s0__all s0__v s0__loss s0__isOver s0__hasCauses s0__outMany s0__overMany s0__isHalted s0__levelMany s0__rounds s0__stuck s0__onRounds s0__longest s0__loudest s0__reached s0__isAnyOver s0__taped s0__at s0__ran s0_rows_e s0_sorts s0_sizes) := hD
  unfold fX9_put at hok
  refine lv_iload_n hx hb dX9_put_0 rfl (lv_at hl 1 rfl) ?_
  obtain ⟨r1, hq, hok⟩ := g_bnd1 hok
  refine cG (is := []) (wc := (wm_X0_find cA)) (w1 := (wm_X0_find cA)) (rv := (some (.int r1))) (st1 := [.int r1]) (va_runS (Ts := wsX9_put) (As := [.int x1]) (rest := []) ⟨hx, hb, hml, hown, hts⟩ (c_X9_isRow l G cA ts x1 r1 hq s.heap.size) (va_cwS 1 hts gX9_put_X9_isRow rfl rfl rfl (by decide +kernel) ⟨Nat.le_of_ble_eq_true rfl, Nat.le_of_ble_eq_true rfl⟩) (pre_S (is := []) hP hD hS hA hK hZ (by decide +kernel) (by rfl)) rfl rfl hl.1 rfl (by exact lv_room (Nat.le_of_ble_eq_true rfl)) dX9_put_1 ⟨Nat.le_refl _, Nat.le_refl _⟩) hP hD hS hA (by decide +kernel) (by rfl) (by rfl) rfl (fun H locs hP hD hS => ?_)
  have hP : va_P G vwCl (wm_X9_row cA h0 h0_rows h0_rows_e h0_sorts h0_sizes h0_g h0_kept h0_changed h0_p h0_causes h0_moved h0_outs h0_losses h0_levelOf h0_levelOften h0_to h0_round h0_tail h0_path h0_leastOn h0_period h0_amplitude h0_basin h0_numbered h0_isReached h0_tape h0_told h0_traced s0__isKept s0__done s0__undoable s0__redoable s0__all s0__v s0__loss s0__isOver s0__hasCauses s0__outMany s0__overMany s0__isHalted s0__levelMany s0__rounds s0__stuck s0__onRounds s0__longest s0__loudest s0__reached s0__isAnyOver s0__taped s0__at s0__ran s0_rows_e s0_sorts s0_sizes) H := hP
  have hD : va_D A (wm_X9_row cA h0 h0_rows h0_rows_e h0_sorts h0_sizes h0_g h0_kept h0_changed h0_p h0_causes h0_moved h0_outs h0_losses h0_levelOf h0_levelOften h0_to h0_round h0_tail h0_path h0_leastOn h0_period h0_amplitude h0_basin h0_numbered h0_isReached h0_tape h0_told h0_traced s0__isKept s0__done s0__undoable s0__redoable s0__all s0__v s0__loss s0__isOver s0__hasCauses s0__outMany s0__overMany s0__isHalted s0__levelMany s0__rounds s0__stuck s0__onRounds s0__longest s0__loudest s0__reached s0__isAnyOver s0__taped s0__at s0__ran s0_rows_e s0_sorts s0_sizes) := hD
  refine lv_if_ne (tgt := 9) hx hb dX9_put_4 (by decide) (fun c => ?_) (fun c => ?_)
  · replace hok := g_neg hok c
    refine lv_aload_n hx hb dX9_put_9 rfl (lv_at hl 0 rfl) ?_
    refine va_get (ci := 9) (v := .ref h0_sorts) (C := RX9) (T := TX9) (N := 49) hx hb hts hinX9 hown hK hP 0 rfl rfl 15 (by decide) (hts _ (List.mem_of_getElem? (i := 1) rfl)) (fun _ h9 => h9) rfl dX9_put_10 ?_
    refine lv_iload_n hx hb dX9_put_13 rfl (lv_at hl 1 rfl) ?_
    obtain ⟨hin, hok⟩ := g_no hok
    refine x_iald (k := x1.toNatClampNeg) hx hb hK hP 6 0 rfl rfl hin rfl dX9_put_14 ?_
    refine lv_if_ge (tgt := 21) hx hb dX9_put_15 (by decide) (fun c => ?_) (fun c => ?_)
    · replace hok := g_pos hok c
      refine lv_iload_n hx hb dX9_put_21 rfl (lv_at hl 2 rfl) ?_
      refine lv_i2l (v := (x2.toInt64)) hx hb dX9_put_22 rfl ?_
      refine lv_lconst (v := 0) hx hb dX9_put_23 (by decide) ?_
      refine lv_aload_n hx hb dX9_put_24 rfl (lv_at hl 0 rfl) ?_
      refine va_get (ci := 9) (v := .ref h0_sizes) (C := RX9) (T := TX9) (N := 49) hx hb hts hinX9 hown hK hP 0 rfl rfl 16 (by decide) (hts _ (List.mem_of_getElem? (i := 2) rfl)) (fun _ h9 => h9) rfl dX9_put_25 ?_
      refine lv_iload_n hx hb dX9_put_28 rfl (lv_at hl 1 rfl) ?_
      obtain ⟨hin, hok⟩ := g_no hok
      refine x_iald (k := x1.toNatClampNeg) hx hb hK hP 7 0 rfl rfl hin rfl dX9_put_29 ?_
      refine lv_iconst (v := 1) hx hb dX9_put_30 (by decide) ?_
      refine lv_isub hx hb dX9_put_31 ?_
      refine lv_i2l (v := (((s0_sizes x1.toNatClampNeg) - (1:Int32)).toInt64)) hx hb dX9_put_32 rfl ?_
      obtain ⟨r2, hq, hok⟩ := g_bnd1 hok
      refine cG (is := []) (wc := (wm_X0_find cA)) (w1 := (wm_X0_find cA)) (rv := (some (.int r2))) (st1 := [.int r2]) (va_runS (Ts := wsX9_put) (As := [.long (x2.toInt64), .long (0:Int64), .long (((s0_sizes x1.toNatClampNeg) - (1:Int32)).toInt64)]) (rest := []) ⟨hx, hb, hml, hown, hts⟩ (c_X9_in l G cA ts (x2.toInt64) (0:Int64) (((s0_sizes x1.toNatClampNeg) - (1:Int32)).toInt64) r2 hq H.size) (va_cwS 3 hts gX9_put_X9_in rfl rfl rfl (by decide +kernel) ⟨Nat.le_of_ble_eq_true rfl, Nat.le_of_ble_eq_true rfl⟩) (pre_S (is := []) hP hD hS hA hK hZ (by decide +kernel) (by rfl)) rfl rfl hl.1 rfl (by exact lv_room (Nat.le_of_ble_eq_true rfl)) dX9_put_33 ⟨Nat.le_refl _, Nat.le_refl _⟩) hP hD hS hA (by decide +kernel) (by rfl) (by rfl) rfl (fun H locs hP hD hS => ?_)
      have hP : va_P G vwCl (wm_X9_row cA h0 h0_rows h0_rows_e h0_sorts h0_sizes h0_g h0_kept h0_changed h0_p h0_causes h0_moved h0_outs h0_losses h0_levelOf h0_levelOften h0_to h0_round h0_tail h0_path h0_leastOn h0_period h0_amplitude h0_basin h0_numbered h0_isReached h0_tape h0_told h0_traced s0__isKept s0__done s0__undoable s0__redoable s0__all s0__v s0__loss s0__isOver s0__hasCauses s0__outMany s0__overMany s0__isHalted s0__levelMany s0__rounds s0__stuck s0__onRounds s0__longest s0__loudest s0__reached s0__isAnyOver s0__taped s0__at s0__ran s0_rows_e s0_sorts s0_sizes) H := hP
      have hD : va_D A (wm_X9_row cA h0 h0_rows h0_rows_e h0_sorts h0_sizes h0_g h0_kept h0_changed h0_p h0_causes h0_moved h0_outs h0_losses h0_levelOf h0_levelOften h0_to h0_round h0_tail h0_path h0_leastOn h0_period h0_amplitude h0_basin h0_numbered h0_isReached h0_tape h0_told h0_traced s0__isKept s0__done s0__undoable s0__redoable s0__all s0__v s0__loss s0__isOver s0__hasCauses s0__outMany s0__overMany s0__isHalted s0__levelMany s0__rounds s0__stuck s0__onRounds s0__longest s0__loudest s0__reached s0__isAnyOver s0__taped s0__at s0__ran s0_rows_e s0_sorts s0_sizes) := hD
      refine lv_if_ne (tgt := 42) hx hb dX9_put_36 (by decide) (fun c => ?_) (fun c => ?_)
      · replace hok := g_neg hok c
        refine lv_aload_n hx hb dX9_put_42 rfl (lv_at hl 0 rfl) ?_
        refine va_get (ci := 9) (v := .ref h0_rows) (C := RX9) (T := TX9) (N := 49) hx hb hts hinX9 hown hK hP 0 rfl rfl 14 (by decide) (hts _ (List.mem_of_getElem? (i := 3) rfl)) (fun _ h9 => h9) rfl dX9_put_43 ?_
        refine lv_iload_n hx hb dX9_put_46 rfl (lv_at hl 1 rfl) ?_
        obtain ⟨hin3, hok⟩ := g_no hok
        refine x_aalda hx hb hK hP 1 6 rfl rfl hin3 dX9_put_47 ?_
        refine W.eq (congrArg (fun z => F0 m 48 ls (z :: [])) (rf_at (Nat.not_le.mp fun q => hin3 (Or.inr q)))) ?_
        refine lv_iload_n hx hb dX9_put_48 rfl (lv_at hl 2 rfl) ?_
        refine lv_aload_n hx hb dX9_put_49 rfl (lv_at hl 0 rfl) ?_
        refine va_get (ci := 9) (v := .ref h0_sorts) (C := RX9) (T := TX9) (N := 49) hx hb hts hinX9 hown hK hP 0 rfl rfl 15 (by decide) (hts _ (List.mem_of_getElem? (i := 1) rfl)) (fun _ h9 => h9) rfl dX9_put_50 ?_
        refine lv_iload_n hx hb dX9_put_53 rfl (lv_at hl 1 rfl) ?_
        obtain ⟨hin, hok⟩ := g_no hok
        refine x_iald (k := x1.toNatClampNeg) hx hb hK hP 6 0 rfl rfl hin rfl dX9_put_54 ?_
        refine lv_lload_n hx hb dX9_put_55 rfl (lv_at hl 3 rfl) ?_
        obtain ⟨r4, hq, hok⟩ := g_bnd1 hok
        refine cG (is := []) (wc := (wm_X0_find cA)) (w1 := (wm_X0_find cA)) (rv := (some (.long r4))) (st1 := [.long r4, .int x2, .ref (h0_rows_e x1.toNatClampNeg)]) (va_runS (Ts := wsX9_put) (As := [.int (s0_sorts x1.toNatClampNeg), .long x3]) (rest := [.int x2, .ref (h0_rows_e x1.toNatClampNeg)]) ⟨hx, hb, hml, hown, hts⟩ (c_X9_cutTo l G cA ts (s0_sorts x1.toNatClampNeg) x3 r4 hq H.size) (va_cwS 2 hts gX9_put_X9_cutTo rfl rfl rfl (by decide +kernel) ⟨Nat.le_of_ble_eq_true rfl, Nat.le_of_ble_eq_true rfl⟩) (pre_S (is := []) hP hD hS hA hK hZ (by decide +kernel) (by rfl)) rfl rfl hl.1 rfl (by exact lv_room (Nat.le_of_ble_eq_true rfl)) dX9_put_56 ⟨Nat.le_refl _, Nat.le_refl _⟩) hP hD hS hA (by decide +kernel) (by rfl) (by rfl) rfl (fun H locs hP hD hS => ?_)
        have hP : va_P G vwCl (wm_X9_row cA h0 h0_rows h0_rows_e h0_sorts h0_sizes h0_g h0_kept h0_changed h0_p h0_causes h0_moved h0_outs h0_losses h0_levelOf h0_levelOften h0_to h0_round h0_tail h0_path h0_leastOn h0_period h0_amplitude h0_basin h0_numbered h0_isReached h0_tape h0_told h0_traced s0__isKept s0__done s0__undoable s0__redoable s0__all s0__v s0__loss s0__isOver s0__hasCauses s0__outMany s0__overMany s0__isHalted s0__levelMany s0__rounds s0__stuck s0__onRounds s0__longest s0__loudest s0__reached s0__isAnyOver s0__taped s0__at s0__ran s0_rows_e s0_sorts s0_sizes) H := hP
        have hD : va_D A (wm_X9_row cA h0 h0_rows h0_rows_e h0_sorts h0_sizes h0_g h0_kept h0_changed h0_p h0_causes h0_moved h0_outs h0_losses h0_levelOf h0_levelOften h0_to h0_round h0_tail h0_path h0_leastOn h0_period h0_amplitude h0_basin h0_numbered h0_isReached h0_tape h0_told h0_traced s0__isKept s0__done s0__undoable s0__redoable s0__all s0__v s0__loss s0__isOver s0__hasCauses s0__outMany s0__overMany s0__isHalted s0__levelMany s0__rounds s0__stuck s0__onRounds s0__longest s0__loudest s0__reached s0__isAnyOver s0__taped s0__at s0__ran s0_rows_e s0_sorts s0_sizes) := hD
        obtain ⟨hin, hok⟩ := g_no hok
        refine x_last (cA := cA 1) (n := 40) (f := (s0_rows_e x1.toNatClampNeg)) (k := x2.toNatClampNeg) hx hb hK hP hD hS (2 + 1 * x1.toNatClampNeg) 1 (by rcases lt4 (Nat.not_le.mp fun q => hin3 (Or.inr q)) with e | e | e | e <;> rw [e] <;> rfl) rfl hin rfl dX9_put_59 (fun H locs hP hD hS => ?_)
        obtain ⟨hP, hD⟩ : va_P G vwCl (wm_X9_row cA h0 h0_rows h0_rows_e h0_sorts h0_sizes h0_g h0_kept h0_changed h0_p h0_causes h0_moved h0_outs h0_losses h0_levelOf h0_levelOften h0_to h0_round h0_tail h0_path h0_leastOn h0_period h0_amplitude h0_basin h0_numbered h0_isReached h0_tape h0_told h0_traced s0__isKept s0__done s0__undoable s0__redoable s0__all s0__v s0__loss s0__isOver s0__hasCauses s0__outMany s0__overMany s0__isHalted s0__levelMany s0__rounds s0__stuck s0__onRounds s0__longest s0__loudest s0__reached s0__isAnyOver s0__taped s0__at s0__ran (va_up s0_rows_e x1.toNatClampNeg (vp_updL (s0_rows_e x1.toNatClampNeg) x2.toNatClampNeg r4)) s0_sorts s0_sizes) H ∧ va_D A (wm_X9_row cA h0 h0_rows h0_rows_e h0_sorts h0_sizes h0_g h0_kept h0_changed h0_p h0_causes h0_moved h0_outs h0_losses h0_levelOf h0_levelOften h0_to h0_round h0_tail h0_path h0_leastOn h0_period h0_amplitude h0_basin h0_numbered h0_isReached h0_tape h0_told h0_traced s0__isKept s0__done s0__undoable s0__redoable s0__all s0__v s0__loss s0__isOver s0__hasCauses s0__outMany s0__overMany s0__isHalted s0__levelMany s0__rounds s0__stuck s0__onRounds s0__longest s0__loudest s0__reached s0__isAnyOver s0__taped s0__at s0__ran (va_up s0_rows_e x1.toNatClampNeg (vp_updL (s0_rows_e x1.toNatClampNeg) x2.toNatClampNeg r4)) s0_sorts s0_sizes) := PD_eq hP hD (by rcases lt4 (Nat.not_le.mp fun q => hin3 (Or.inr q)) with e | e | e | e <;> rw [e] <;> rfl)
        refine lv_iconst (v := 1) hx hb dX9_put_60 (by decide) ?_
        cases hok
        exact cr_i hx hb hr hlocks hQ dX9_put_61 hP hS
      replace hok := g_pos hok c
      refine lv_bipush (v := -13) hx hb dX9_put_39 (by decide) ?_
      cases hok
      exact cr_i hx hb hr hlocks hQ dX9_put_41 hP hS
    replace hok := g_neg hok c
    refine lv_bipush (v := -11) hx hb dX9_put_18 (by decide) ?_
    cases hok
    exact cr_i hx hb hr hlocks hQ dX9_put_20 hP hS
  replace hok := g_pos hok c
  refine lv_iconst (v := -1) hx hb dX9_put_7 (by decide) ?_
  cases hok
  exact cr_i hx hb hr hlocks hQ dX9_put_8 hP hS
set_option maxHeartbeats 40000000 in
set_option maxRecDepth 100000 in
theorem c_X9_get (l : Launch) (G : va_G) (cA : Nat → ClassId) (ts : Nat → Nat) (h0 : Nat) (h0_rows : Nat) (h0_rows_e : Nat → Nat) (h0_sizes : Nat) (h0_g : Nat) (h0_kept : Nat) (h0_changed : Nat) (h0_p : Nat) (h0_causes : Nat) (h0_sorts : Nat) (h0_moved : Nat) (h0_outs : Nat) (h0_losses : Nat) (h0_levelOf : Nat) (h0_levelOften : Nat) (h0_to : Nat) (h0_round : Nat) (h0_tail : Nat) (h0_path : Nat) (h0_leastOn : Nat) (h0_period : Nat) (h0_amplitude : Nat) (h0_basin : Nat) (h0_numbered : Nat) (h0_isReached : Nat) (h0_tape : Nat) (h0_told : Nat) (h0_traced : Nat) (x1 : Int32) (x2 : Int32) (s0__isKept : Int32) (s0__done : Int32) (s0__undoable : Int32) (s0__redoable : Int32) (s0__all : Int32) (s0__v : Int32) (s0__loss : Int32) (s0__isOver : Int32) (s0__hasCauses : Int32) (s0__outMany : Int32) (s0__overMany : Int32) (s0__isHalted : Int32) (s0__levelMany : Int32) (s0__rounds : Int32) (s0__stuck : Int32) (s0__onRounds : Int32) (s0__longest : Int32) (s0__loudest : Int32) (s0__reached : Int32) (s0__isAnyOver : Int32) (s0__taped : Int32) (s0__at : Int32) (s0__ran : Int32) (s0_rows_e : Nat → Nat → Int64) (s0_sizes : Nat → Int32) (r : Int64) (hok : fX9_get x1 x2 s0_rows_e s0_sizes = some r) : Ct l G cA ts yX9_get wsX9_get 3 85 [.ref h0, .int x1, .int x2] (wm_X9_get cA h0 h0_rows h0_rows_e h0_sizes h0_g h0_kept h0_changed h0_p h0_causes h0_sorts h0_moved h0_outs h0_losses h0_levelOf h0_levelOften h0_to h0_round h0_tail h0_path h0_leastOn h0_period h0_amplitude h0_basin h0_numbered h0_isReached h0_tape h0_told h0_traced s0__isKept s0__done s0__undoable s0__redoable s0__all s0__v s0__loss s0__isOver s0__hasCauses s0__outMany s0__overMany s0__isHalted s0__levelMany s0__rounds s0__stuck s0__onRounds s0__longest s0__loudest s0__reached s0__isAnyOver s0__taped s0__at s0__ran s0_rows_e s0_sizes) (wm_X9_get cA h0 h0_rows h0_rows_e h0_sizes h0_g h0_kept h0_changed h0_p h0_causes h0_sorts h0_moved h0_outs h0_losses h0_levelOf h0_levelOften h0_to h0_round h0_tail h0_path h0_leastOn h0_period h0_amplitude h0_basin h0_numbered h0_isReached h0_tape h0_told h0_traced s0__isKept s0__done s0__undoable s0__redoable s0__all s0__v s0__loss s0__isOver s0__hasCauses s0__outMany s0__overMany s0__isHalted s0__levelMany s0__rounds s0__stuck s0__onRounds s0__longest s0__loudest s0__reached s0__isAnyOver s0__taped s0__at s0__ran s0_rows_e s0_sizes) (some (.long r)) := by
  refine Ct.intro (cc := cX9_get) (maxL := 3) (ret := some .long) (by decide +kernel) rfl (Nat.le_of_ble_eq_true rfl) ?_
  intro p e s m ar below meth c A Q hx hb hr hml hown hlocks hts hK hZ hA hQ hP hD hS ls hl
  have hown : s.vm.findClass RX9 = some m.cls := hown
  have hinX9 : ∀ w ∈ wsX90, w ∈ wsX9_get := fun _ h => List.mem_cons_of_mem _ (List.mem_append_right _ (h))
  have hl : lv_has ls 3 [(0, .ref h0), (1, .int x1), (2, .int x2)] := hl
  have hP : va_P G vwCl (wm_X9_get cA h0 h0_rows h0_rows_e h0_sizes h0_g h0_kept h0_changed h0_p h0_causes h0_sorts h0_moved h0_outs h0_losses h0_levelOf h0_levelOften h0_to h0_round h0_tail h0_path h0_leastOn h0_period h0_amplitude h0_basin h0_numbered h0_isReached h0_tape h0_told h0_traced s0__isKept s0__done s0__undoable s0__redoable s0__all s0__v s0__loss s0__isOver s0__hasCauses s0__outMany s0__overMany s0__isHalted s0__levelMany s0__rounds s0__stuck s0__onRounds s0__longest s0__loudest s0__reached s0__isAnyOver s0__taped s0__at s0__ran s0_rows_e s0_sizes) s.heap := hP
  have hD : va_D A (wm_X9_get cA h0 h0_rows h0_rows_e h0_sizes h0_g h0_kept h0_changed h0_p h0_causes h0_sorts h0_moved h0_outs h0_losses h0_levelOf h0_levelOften h0_to h0_round h0_tail h0_path h0_leastOn h0_period h0_amplitude h0_basin h0_numbered h0_isReached h0_tape h0_told h0_traced s0__isKept s0__done s0__undoable s0__redoable s0__all s0__v s0__loss s0__isOver s0__hasCauses s0__outMany s0__overMany s0__isHalted s0__levelMany s0__rounds s0__stuck s0__onRounds s0__longest s0__loudest s0__reached s0__isAnyOver s0__taped s0__at s0__ran s0_rows_e s0_sizes) := hD
  unfold fX9_get at hok
  refine lv_iload_n hx hb dX9_get_0 rfl (lv_at hl 1 rfl) ?_
  obtain ⟨r1, hq, hok⟩ := g_bnd1 hok
  refine cG (is := []) (wc := (wm_X0_find cA)) (w1 := (wm_X0_find cA)) (rv := (some (.int r1))) (st1 := [.int r1]) (va_runS (Ts := wsX9_get) (As := [.int x1]) (rest := []) ⟨hx, hb, hml, hown, hts⟩ (c_X9_isRow l G cA ts x1 r1 hq s.heap.size) (va_cwS 1 hts gX9_get_X9_isRow rfl rfl rfl (by decide +kernel) ⟨Nat.le_of_ble_eq_true rfl, Nat.le_of_ble_eq_true rfl⟩) (pre_S (is := []) hP hD hS hA hK hZ (by decide +kernel) (by rfl)) rfl rfl hl.1 rfl (by exact lv_room (Nat.le_of_ble_eq_true rfl)) dX9_get_1 ⟨Nat.le_refl _, Nat.le_refl _⟩) hP hD hS hA (by decide +kernel) (by rfl) (by rfl) rfl (fun H locs hP hD hS => ?_)
  have hP : va_P G vwCl (wm_X9_get cA h0 h0_rows h0_rows_e h0_sizes h0_g h0_kept h0_changed h0_p h0_causes h0_sorts h0_moved h0_outs h0_losses h0_levelOf h0_levelOften h0_to h0_round h0_tail h0_path h0_leastOn h0_period h0_amplitude h0_basin h0_numbered h0_isReached h0_tape h0_told h0_traced s0__isKept s0__done s0__undoable s0__redoable s0__all s0__v s0__loss s0__isOver s0__hasCauses s0__outMany s0__overMany s0__isHalted s0__levelMany s0__rounds s0__stuck s0__onRounds s0__longest s0__loudest s0__reached s0__isAnyOver s0__taped s0__at s0__ran s0_rows_e s0_sizes) H := hP
  have hD : va_D A (wm_X9_get cA h0 h0_rows h0_rows_e h0_sizes h0_g h0_kept h0_changed h0_p h0_causes h0_sorts h0_moved h0_outs h0_losses h0_levelOf h0_levelOften h0_to h0_round h0_tail h0_path h0_leastOn h0_period h0_amplitude h0_basin h0_numbered h0_isReached h0_tape h0_told h0_traced s0__isKept s0__done s0__undoable s0__redoable s0__all s0__v s0__loss s0__isOver s0__hasCauses s0__outMany s0__overMany s0__isHalted s0__levelMany s0__rounds s0__stuck s0__onRounds s0__longest s0__loudest s0__reached s0__isAnyOver s0__taped s0__at s0__ran s0_rows_e s0_sizes) := hD
  refine lv_if_eq (tgt := 36) hx hb dX9_get_4 (by decide) (fun c => ?_) (fun c => ?_)
  · replace hok := g_pos hok c
    refine lv_ldc2 (v := -9223372036854775808) hx hb hown (hts _ (List.mem_of_getElem? (i := 3) rfl)) dX9_get_36 ?_
    cases hok
    exact cr_l hx hb hr hlocks hQ dX9_get_39 hP hS
  replace hok := g_neg hok c
  refine lv_iload_n hx hb dX9_get_7 rfl (lv_at hl 2 rfl) ?_
  refine lv_i2l (v := (x2.toInt64)) hx hb dX9_get_8 rfl ?_
  refine lv_lconst (v := 0) hx hb dX9_get_9 (by decide) ?_
  refine lv_aload_n hx hb dX9_get_10 rfl (lv_at hl 0 rfl) ?_
  refine va_get (ci := 9) (v := .ref h0_sizes) (C := RX9) (T := TX9) (N := 49) hx hb hts hinX9 hown hK hP 0 rfl rfl 16 (by decide) (hts _ (List.mem_of_getElem? (i := 1) rfl)) (fun _ h9 => h9) rfl dX9_get_11 ?_
  refine lv_iload_n hx hb dX9_get_14 rfl (lv_at hl 1 rfl) ?_
  obtain ⟨hin, hok⟩ := g_no hok
  refine x_iald (k := x1.toNatClampNeg) hx hb hK hP 6 0 rfl rfl hin rfl dX9_get_15 ?_
  refine lv_iconst (v := 1) hx hb dX9_get_16 (by decide) ?_
  refine lv_isub hx hb dX9_get_17 ?_
  refine lv_i2l (v := (((s0_sizes x1.toNatClampNeg) - (1:Int32)).toInt64)) hx hb dX9_get_18 rfl ?_
  obtain ⟨r2, hq, hok⟩ := g_bnd1 hok
  refine cG (is := []) (wc := (wm_X0_find cA)) (w1 := (wm_X0_find cA)) (rv := (some (.int r2))) (st1 := [.int r2]) (va_runS (Ts := wsX9_get) (As := [.long (x2.toInt64), .long (0:Int64), .long (((s0_sizes x1.toNatClampNeg) - (1:Int32)).toInt64)]) (rest := []) ⟨hx, hb, hml, hown, hts⟩ (c_X9_in l G cA ts (x2.toInt64) (0:Int64) (((s0_sizes x1.toNatClampNeg) - (1:Int32)).toInt64) r2 hq H.size) (va_cwS 3 hts gX9_get_X9_in rfl rfl rfl (by decide +kernel) ⟨Nat.le_of_ble_eq_true rfl, Nat.le_of_ble_eq_true rfl⟩) (pre_S (is := []) hP hD hS hA hK hZ (by decide +kernel) (by rfl)) rfl rfl hl.1 rfl (by exact lv_room (Nat.le_of_ble_eq_true rfl)) dX9_get_19 ⟨Nat.le_refl _, Nat.le_refl _⟩) hP hD hS hA (by decide +kernel) (by rfl) (by rfl) rfl (fun H locs hP hD hS => ?_)
  have hP : va_P G vwCl (wm_X9_get cA h0 h0_rows h0_rows_e h0_sizes h0_g h0_kept h0_changed h0_p h0_causes h0_sorts h0_moved h0_outs h0_losses h0_levelOf h0_levelOften h0_to h0_round h0_tail h0_path h0_leastOn h0_period h0_amplitude h0_basin h0_numbered h0_isReached h0_tape h0_told h0_traced s0__isKept s0__done s0__undoable s0__redoable s0__all s0__v s0__loss s0__isOver s0__hasCauses s0__outMany s0__overMany s0__isHalted s0__levelMany s0__rounds s0__stuck s0__onRounds s0__longest s0__loudest s0__reached s0__isAnyOver s0__taped s0__at s0__ran s0_rows_e s0_sizes) H := hP
  have hD : va_D A (wm_X9_get cA h0 h0_rows h0_rows_e h0_sizes h0_g h0_kept h0_changed h0_p h0_causes h0_sorts h0_moved h0_outs h0_losses h0_levelOf h0_levelOften h0_to h0_round h0_tail h0_path h0_leastOn h0_period h0_amplitude h0_basin h0_numbered h0_isReached h0_tape h0_told h0_traced s0__isKept s0__done s0__undoable s0__redoable s0__all s0__v s0__loss s0__isOver s0__hasCauses s0__outMany s0__overMany s0__isHalted s0__levelMany s0__rounds s0__stuck s0__onRounds s0__longest s0__loudest s0__reached s0__isAnyOver s0__taped s0__at s0__ran s0_rows_e s0_sizes) := hD
  refine lv_if_eq (tgt := 36) hx hb dX9_get_22 (by decide) (fun c => ?_) (fun c => ?_)
  · replace hok := g_pos hok c
    refine lv_ldc2 (v := -9223372036854775808) hx hb hown (hts _ (List.mem_of_getElem? (i := 3) rfl)) dX9_get_36 ?_
    cases hok
    exact cr_l hx hb hr hlocks hQ dX9_get_39 hP hS
  replace hok := g_neg hok c
  refine lv_aload_n hx hb dX9_get_25 rfl (lv_at hl 0 rfl) ?_
  refine va_get (ci := 9) (v := .ref h0_rows) (C := RX9) (T := TX9) (N := 49) hx hb hts hinX9 hown hK hP 0 rfl rfl 14 (by decide) (hts _ (List.mem_of_getElem? (i := 2) rfl)) (fun _ h9 => h9) rfl dX9_get_26 ?_
  refine lv_iload_n hx hb dX9_get_29 rfl (lv_at hl 1 rfl) ?_
  obtain ⟨hin3, hok⟩ := g_no hok
  refine x_aalda hx hb hK hP 1 6 rfl rfl hin3 dX9_get_30 ?_
  refine W.eq (congrArg (fun z => F0 m 31 ls (z :: [])) (rf_at (Nat.not_le.mp fun q => hin3 (Or.inr q)))) ?_
  refine lv_iload_n hx hb dX9_get_31 rfl (lv_at hl 2 rfl) ?_
  obtain ⟨hin, hok⟩ := g_no hok
  refine x_lald (cA := cA 1) (n := 40) (f := (s0_rows_e x1.toNatClampNeg)) (k := x2.toNatClampNeg) hx hb hK hP (2 + 1 * x1.toNatClampNeg) 1 (by rcases lt4 (Nat.not_le.mp fun q => hin3 (Or.inr q)) with e | e | e | e <;> rw [e] <;> rfl) rfl hin rfl dX9_get_32 ?_
  refine lv_goto (tgt := 39) hx hb dX9_get_33 (by decide) ?_
  cases hok
  exact cr_l hx hb hr hlocks hQ dX9_get_39 hP hS
set_option maxHeartbeats 40000000 in
set_option maxRecDepth 100000 in
theorem c_X9_copy (l : Launch) (G : va_G) (cA : Nat → ClassId) (ts : Nat → Nat) (h0 : Nat) (h0_rows : Nat) (h0_rows_e : Nat → Nat) (h0_sorts : Nat) (h0_sizes : Nat) (h0_moved : Nat) (h0_g : Nat) (h0_kept : Nat) (h0_changed : Nat) (h0_p : Nat) (h0_causes : Nat) (h0_outs : Nat) (h0_losses : Nat) (h0_levelOf : Nat) (h0_levelOften : Nat) (h0_to : Nat) (h0_round : Nat) (h0_tail : Nat) (h0_path : Nat) (h0_leastOn : Nat) (h0_period : Nat) (h0_amplitude : Nat) (h0_basin : Nat) (h0_numbered : Nat) (h0_isReached : Nat) (h0_tape : Nat) (h0_told : Nat) (h0_traced : Nat) (x1 : Int32) (x2 : Int32) (x3 : Int32) (x4 : Int32) (x5 : Int32) (s0__isKept : Int32) (s0__done : Int32) (s0__undoable : Int32) (s0__redoable : Int32) (s0__all : Int32) (s0__v : Int32) (s0__loss : Int32) (s0__isOver : Int32) (s0__hasCauses : Int32) (s0__outMany : Int32) (s0__overMany : Int32) (s0__isHalted : Int32) (s0__levelMany : Int32) (s0__rounds : Int32) (s0__stuck : Int32) (s0__onRounds : Int32) (s0__longest : Int32) (s0__loudest : Int32) (s0__reached : Int32) (s0__isAnyOver : Int32) (s0__taped : Int32) (s0__at : Int32) (s0__ran : Int32) (s0_rows_e : Nat → Nat → Int64) (s0_sorts : Nat → Int32) (s0_sizes : Nat → Int32) (s0_moved : Nat → Int64) (r : Int32) (o0_rows_e : Nat → Nat → Int64) (o0_moved : Nat → Int64) (hok : fX9_copy x1 x2 x3 x4 x5 s0_rows_e s0_sorts s0_sizes s0_moved = some (r, o0_rows_e, o0_moved)) : Ct l G cA ts yX9_copy wsX9_copy 3 85 [.ref h0, .int x1, .int x2, .int x3, .int x4, .int x5] (wm_X9_copy cA h0 h0_rows h0_rows_e h0_sorts h0_sizes h0_moved h0_g h0_kept h0_changed h0_p h0_causes h0_outs h0_losses h0_levelOf h0_levelOften h0_to h0_round h0_tail h0_path h0_leastOn h0_period h0_amplitude h0_basin h0_numbered h0_isReached h0_tape h0_told h0_traced s0__isKept s0__done s0__undoable s0__redoable s0__all s0__v s0__loss s0__isOver s0__hasCauses s0__outMany s0__overMany s0__isHalted s0__levelMany s0__rounds s0__stuck s0__onRounds s0__longest s0__loudest s0__reached s0__isAnyOver s0__taped s0__at s0__ran s0_rows_e s0_sorts s0_sizes s0_moved) (wm_X9_copy cA h0 h0_rows h0_rows_e h0_sorts h0_sizes h0_moved h0_g h0_kept h0_changed h0_p h0_causes h0_outs h0_losses h0_levelOf h0_levelOften h0_to h0_round h0_tail h0_path h0_leastOn h0_period h0_amplitude h0_basin h0_numbered h0_isReached h0_tape h0_told h0_traced s0__isKept s0__done s0__undoable s0__redoable s0__all s0__v s0__loss s0__isOver s0__hasCauses s0__outMany s0__overMany s0__isHalted s0__levelMany s0__rounds s0__stuck s0__onRounds s0__longest s0__loudest s0__reached s0__isAnyOver s0__taped s0__at s0__ran o0_rows_e s0_sorts s0_sizes o0_moved) (some (.int r)) := by
  refine Ct.intro (cc := cX9_copy) (maxL := 7) (ret := some .int) (by decide +kernel) rfl (Nat.le_of_ble_eq_true rfl) ?_
  intro p e s m ar below meth c A Q hx hb hr hml hown hlocks hts hK hZ hA hQ hP hD hS ls hl
  have hown : s.vm.findClass RX9 = some m.cls := hown
  have hinX9 : ∀ w ∈ wsX90, w ∈ wsX9_copy := fun _ h => List.mem_cons_of_mem _ (List.mem_append_right _ (h))
  have hl : lv_has ls 7 [(0, .ref h0), (1, .int x1), (2, .int x2), (3, .int x3), (4, .int x4), (5, .int x5)] := hl
  have hP : va_P G vwCl (wm_X9_copy cA h0 h0_rows h0_rows_e h0_sorts h0_sizes h0_moved h0_g h0_kept h0_changed h0_p h0_causes h0_outs h0_losses h0_levelOf h0_levelOften h0_to h0_round h0_tail h0_path h0_leastOn h0_period h0_amplitude h0_basin h0_numbered h0_isReached h0_tape h0_told h0_traced s0__isKept s0__done s0__undoable s0__redoable s0__all s0__v s0__loss s0__isOver s0__hasCauses s0__outMany s0__overMany s0__isHalted s0__levelMany s0__rounds s0__stuck s0__onRounds s0__longest s0__loudest s0__reached s0__isAnyOver s0__taped s0__at s0__ran s0_rows_e s0_sorts s0_sizes s0_moved) s.heap := hP
  have hD : va_D A (wm_X9_copy cA h0 h0_rows h0_rows_e h0_sorts h0_sizes h0_moved h0_g h0_kept h0_changed h0_p h0_causes h0_outs h0_losses h0_levelOf h0_levelOften h0_to h0_round h0_tail h0_path h0_leastOn h0_period h0_amplitude h0_basin h0_numbered h0_isReached h0_tape h0_told h0_traced s0__isKept s0__done s0__undoable s0__redoable s0__all s0__v s0__loss s0__isOver s0__hasCauses s0__outMany s0__overMany s0__isHalted s0__levelMany s0__rounds s0__stuck s0__onRounds s0__longest s0__loudest s0__reached s0__isAnyOver s0__taped s0__at s0__ran s0_rows_e s0_sorts s0_sizes s0_moved) := hD
  have L_102 : ∀ (n : Nat) (y6 : Int32) (c0_rows_e : Nat → Nat → Int64) (c0_moved : Nat → Int64) (p0_0 : Nat → Int64) (H : Heap) (locs : List Loc) (ls : Array Slot), va_P G vwCl (wm_X9_copy cA h0 h0_rows h0_rows_e h0_sorts h0_sizes h0_moved h0_g h0_kept h0_changed h0_p h0_causes h0_outs h0_losses h0_levelOf h0_levelOften h0_to h0_round h0_tail h0_path h0_leastOn h0_period h0_amplitude h0_basin h0_numbered h0_isReached h0_tape h0_told h0_traced s0__isKept s0__done s0__undoable s0__redoable s0__all s0__v s0__loss s0__isOver s0__hasCauses s0__outMany s0__overMany s0__isHalted s0__levelMany s0__rounds s0__stuck s0__onRounds s0__longest s0__loudest s0__reached s0__isAnyOver s0__taped s0__at s0__ran c0_rows_e s0_sorts s0_sizes c0_moved) H → va_D A (wm_X9_copy cA h0 h0_rows h0_rows_e h0_sorts h0_sizes h0_moved h0_g h0_kept h0_changed h0_p h0_causes h0_outs h0_losses h0_levelOf h0_levelOften h0_to h0_round h0_tail h0_path h0_leastOn h0_period h0_amplitude h0_basin h0_numbered h0_isReached h0_tape h0_told h0_traced s0__isKept s0__done s0__undoable s0__redoable s0__all s0__v s0__loss s0__isOver s0__hasCauses s0__outMany s0__overMany s0__isHalted s0__levelMany s0__rounds s0__stuck s0__onRounds s0__longest s0__loudest s0__reached s0__isAnyOver s0__taped s0__at s0__ran c0_rows_e s0_sorts s0_sizes c0_moved) → va_S A s.heap H locs → lv_has ls 7 [(0, .ref h0), (1, .int x1), (2, .int x2), (3, .int x3), (4, .int x4), (5, .int x5), (6, .int y6)] → fX9_copy_L102 x1 x2 x3 x4 x5 s0_sorts s0_sizes n y6 c0_rows_e c0_moved = some p0_0 → (∀ (H : Heap) (locs : List Loc) (ls : Array Slot), va_P G vwCl (wm_X9_copy cA h0 h0_rows h0_rows_e h0_sorts h0_sizes h0_moved h0_g h0_kept h0_changed h0_p h0_causes h0_outs h0_losses h0_levelOf h0_levelOften h0_to h0_round h0_tail h0_path h0_leastOn h0_period h0_amplitude h0_basin h0_numbered h0_isReached h0_tape h0_told h0_traced s0__isKept s0__done s0__undoable s0__redoable s0__all s0__v s0__loss s0__isOver s0__hasCauses s0__outMany s0__overMany s0__isHalted s0__levelMany s0__rounds s0__stuck s0__onRounds s0__longest s0__loudest s0__reached s0__isAnyOver s0__taped s0__at s0__ran c0_rows_e s0_sorts s0_sizes p0_0) H → va_D A (wm_X9_copy cA h0 h0_rows h0_rows_e h0_sorts h0_sizes h0_moved h0_g h0_kept h0_changed h0_p h0_causes h0_outs h0_losses h0_levelOf h0_levelOften h0_to h0_round h0_tail h0_path h0_leastOn h0_period h0_amplitude h0_basin h0_numbered h0_isReached h0_tape h0_told h0_traced s0__isKept s0__done s0__undoable s0__redoable s0__all s0__v s0__loss s0__isOver s0__hasCauses s0__outMany s0__overMany s0__isHalted s0__levelMany s0__rounds s0__stuck s0__onRounds s0__longest s0__loudest s0__reached s0__isAnyOver s0__taped s0__at s0__ran c0_rows_e s0_sorts s0_sizes p0_0) → va_S A s.heap H locs → lv_has ls 7 [(0, .ref h0), (3, .int x3), (4, .int x4), (5, .int x5)] → W p l e (rmX 3 85) s m ar below meth c H locs 0 0 Q (F0 m 133 ls [])) → W p l e (rmX 3 85) s m ar below meth c H locs 0 0 Q (F0 m 102 ls []) := by
    intro n
    induction n with
    | zero =>
      intro y6 c0_rows_e c0_moved p0_0 H locs ls hP hD hS hl hok
      rw [fX9_copy_L102] at hok
      cases hok
    | succ n ih =>
      intro y6 c0_rows_e c0_moved p0_0 H locs ls hP hD hS hl hok K
      rw [fX9_copy_L102] at hok
      refine lv_iload hx hb dX9_copy_102 (lv_at hl 6 rfl) ?_
      refine lv_iload hx hb dX9_copy_104 (lv_at hl 5 rfl) ?_
      refine lv_icmp_ge (tgt := 133) hx hb dX9_copy_106 (by decide) (fun c => ?_) (fun c => ?_)
      · replace hok := g_pos hok c
        cases hok
        exact K _ _ _ hP hD hS (lv_sub hl [0, 3, 4, 5] rfl)
      replace hok := g_neg hok c
      refine lv_aload_n hx hb dX9_copy_109 rfl (lv_at hl 0 rfl) ?_
      refine va_get (ci := 9) (v := .ref h0_moved) (C := RX9) (T := TX9) (N := 49) hx hb hts hinX9 hown hK hP 0 rfl rfl 17 (by decide) (hts _ (List.mem_of_getElem? (i := 3) rfl)) (fun _ h9 => h9) rfl dX9_copy_110 ?_
      refine lv_iload hx hb dX9_copy_113 (lv_at hl 6 rfl) ?_
      refine lv_aload_n hx hb dX9_copy_115 rfl (lv_at hl 0 rfl) ?_
      refine va_get (ci := 9) (v := .ref h0_rows) (C := RX9) (T := TX9) (N := 49) hx hb hts hinX9 hown hK hP 0 rfl rfl 14 (by decide) (hts _ (List.mem_of_getElem? (i := 4) rfl)) (fun _ h9 => h9) rfl dX9_copy_116 ?_
      refine lv_iload_n hx hb dX9_copy_119 rfl (lv_at hl 1 rfl) ?_
      obtain ⟨hin3, hok⟩ := g_no hok
      refine x_aalda hx hb hK hP 1 6 rfl rfl hin3 dX9_copy_120 ?_
      refine W.eq (congrArg (fun z => F0 m 121 ls (z :: [.int y6, .ref h0_moved])) (rf_at (Nat.not_le.mp fun q => hin3 (Or.inr q)))) ?_
      refine lv_iload_n hx hb dX9_copy_121 rfl (lv_at hl 2 rfl) ?_
      refine lv_iload hx hb dX9_copy_122 (lv_at hl 6 rfl) ?_
      refine lv_iadd hx hb dX9_copy_124 ?_
      obtain ⟨hin, hok⟩ := g_no hok
      refine x_lald (cA := cA 1) (n := 40) (f := (c0_rows_e x1.toNatClampNeg)) (k := (x2 + y6).toNatClampNeg) hx hb hK hP (2 + 1 * x1.toNatClampNeg) 1 (by rcases lt4 (Nat.not_le.mp fun q => hin3 (Or.inr q)) with e | e | e | e <;> rw [e] <;> rfl) rfl hin rfl dX9_copy_125 ?_
      obtain ⟨hin, hok⟩ := g_no hok
      refine x_last (k := y6.toNatClampNeg) hx hb hK hP hD hS 8 1 rfl rfl hin rfl dX9_copy_126 (fun H locs hP hD hS => ?_)
      have hP : va_P G vwCl (wm_X9_copy cA h0 h0_rows h0_rows_e h0_sorts h0_sizes h0_moved h0_g h0_kept h0_changed h0_p h0_causes h0_outs h0_losses h0_levelOf h0_levelOften h0_to h0_round h0_tail h0_path h0_leastOn h0_period h0_amplitude h0_basin h0_numbered h0_isReached h0_tape h0_told h0_traced s0__isKept s0__done s0__undoable s0__redoable s0__all s0__v s0__loss s0__isOver s0__hasCauses s0__outMany s0__overMany s0__isHalted s0__levelMany s0__rounds s0__stuck s0__onRounds s0__longest s0__loudest s0__reached s0__isAnyOver s0__taped s0__at s0__ran c0_rows_e s0_sorts s0_sizes (vp_updL c0_moved y6.toNatClampNeg ((c0_rows_e x1.toNatClampNeg) (x2 + y6).toNatClampNeg))) H := hP
      have hD : va_D A (wm_X9_copy cA h0 h0_rows h0_rows_e h0_sorts h0_sizes h0_moved h0_g h0_kept h0_changed h0_p h0_causes h0_outs h0_losses h0_levelOf h0_levelOften h0_to h0_round h0_tail h0_path h0_leastOn h0_period h0_amplitude h0_basin h0_numbered h0_isReached h0_tape h0_told h0_traced s0__isKept s0__done s0__undoable s0__redoable s0__all s0__v s0__loss s0__isOver s0__hasCauses s0__outMany s0__overMany s0__isHalted s0__levelMany s0__rounds s0__stuck s0__onRounds s0__longest s0__loudest s0__reached s0__isAnyOver s0__taped s0__at s0__ran c0_rows_e s0_sorts s0_sizes (vp_updL c0_moved y6.toNatClampNeg ((c0_rows_e x1.toNatClampNeg) (x2 + y6).toNatClampNeg))) := hD
      refine lv_iinc (v := (y6 + 1)) (lv' := [(6, .int (y6 + 1)), (0, .ref h0), (1, .int x1), (2, .int x2), (3, .int x3), (4, .int x4), (5, .int x5)]) hx hb dX9_copy_127 hl (k := 6) rfl rfl (by decide) rfl (fun ls hl => ?_)
      refine lv_goto (tgt := 102) hx hb dX9_copy_130 (by decide) ?_
      exact ih (y6 + 1) c0_rows_e (vp_updL c0_moved y6.toNatClampNeg ((c0_rows_e x1.toNatClampNeg) (x2 + y6).toNatClampNeg)) p0_0 _ _ _ hP hD hS (lv_sub hl [1, 2, 3, 4, 5, 6, 0] rfl) hok K
  have L_136 : ∀ (n : Nat) (y6 : Int32) (c0_rows_e : Nat → Nat → Int64) (c0_moved : Nat → Int64) (p0_0 : Nat → Nat → Int64) (H : Heap) (locs : List Loc) (ls : Array Slot), va_P G vwCl (wm_X9_copy cA h0 h0_rows h0_rows_e h0_sorts h0_sizes h0_moved h0_g h0_kept h0_changed h0_p h0_causes h0_outs h0_losses h0_levelOf h0_levelOften h0_to h0_round h0_tail h0_path h0_leastOn h0_period h0_amplitude h0_basin h0_numbered h0_isReached h0_tape h0_told h0_traced s0__isKept s0__done s0__undoable s0__redoable s0__all s0__v s0__loss s0__isOver s0__hasCauses s0__outMany s0__overMany s0__isHalted s0__levelMany s0__rounds s0__stuck s0__onRounds s0__longest s0__loudest s0__reached s0__isAnyOver s0__taped s0__at s0__ran c0_rows_e s0_sorts s0_sizes c0_moved) H → va_D A (wm_X9_copy cA h0 h0_rows h0_rows_e h0_sorts h0_sizes h0_moved h0_g h0_kept h0_changed h0_p h0_causes h0_outs h0_losses h0_levelOf h0_levelOften h0_to h0_round h0_tail h0_path h0_leastOn h0_period h0_amplitude h0_basin h0_numbered h0_isReached h0_tape h0_told h0_traced s0__isKept s0__done s0__undoable s0__redoable s0__all s0__v s0__loss s0__isOver s0__hasCauses s0__outMany s0__overMany s0__isHalted s0__levelMany s0__rounds s0__stuck s0__onRounds s0__longest s0__loudest s0__reached s0__isAnyOver s0__taped s0__at s0__ran c0_rows_e s0_sorts s0_sizes c0_moved) → va_S A s.heap H locs → lv_has ls 7 [(0, .ref h0), (3, .int x3), (4, .int x4), (5, .int x5), (6, .int y6)] → fX9_copy_L136 x1 x2 x3 x4 x5 s0_sorts s0_sizes n y6 c0_rows_e c0_moved = some p0_0 → (∀ (H : Heap) (locs : List Loc) (ls : Array Slot), va_P G vwCl (wm_X9_copy cA h0 h0_rows h0_rows_e h0_sorts h0_sizes h0_moved h0_g h0_kept h0_changed h0_p h0_causes h0_outs h0_losses h0_levelOf h0_levelOften h0_to h0_round h0_tail h0_path h0_leastOn h0_period h0_amplitude h0_basin h0_numbered h0_isReached h0_tape h0_told h0_traced s0__isKept s0__done s0__undoable s0__redoable s0__all s0__v s0__loss s0__isOver s0__hasCauses s0__outMany s0__overMany s0__isHalted s0__levelMany s0__rounds s0__stuck s0__onRounds s0__longest s0__loudest s0__reached s0__isAnyOver s0__taped s0__at s0__ran p0_0 s0_sorts s0_sizes c0_moved) H → va_D A (wm_X9_copy cA h0 h0_rows h0_rows_e h0_sorts h0_sizes h0_moved h0_g h0_kept h0_changed h0_p h0_causes h0_outs h0_losses h0_levelOf h0_levelOften h0_to h0_round h0_tail h0_path h0_leastOn h0_period h0_amplitude h0_basin h0_numbered h0_isReached h0_tape h0_told h0_traced s0__isKept s0__done s0__undoable s0__redoable s0__all s0__v s0__loss s0__isOver s0__hasCauses s0__outMany s0__overMany s0__isHalted s0__levelMany s0__rounds s0__stuck s0__onRounds s0__longest s0__loudest s0__reached s0__isAnyOver s0__taped s0__at s0__ran p0_0 s0_sorts s0_sizes c0_moved) → va_S A s.heap H locs → lv_has ls 7 [(5, .int x5)] → W p l e (rmX 3 85) s m ar below meth c H locs 0 0 Q (F0 m 168 ls [])) → W p l e (rmX 3 85) s m ar below meth c H locs 0 0 Q (F0 m 136 ls []) := by
    intro n
    induction n with
    | zero =>
      intro y6 c0_rows_e c0_moved p0_0 H locs ls hP hD hS hl hok
      rw [fX9_copy_L136] at hok
      cases hok
    | succ n ih =>
      intro y6 c0_rows_e c0_moved p0_0 H locs ls hP hD hS hl hok K
      rw [fX9_copy_L136] at hok
      refine lv_iload hx hb dX9_copy_136 (lv_at hl 4 rfl) ?_
      refine lv_iload hx hb dX9_copy_138 (lv_at hl 3 rfl) ?_
      refine lv_icmp_ge (tgt := 168) hx hb dX9_copy_140 (by decide) (fun c => ?_) (fun c => ?_)
      · replace hok := g_pos hok c
        cases hok
        exact K _ _ _ hP hD hS (lv_sub hl [3] rfl)
      replace hok := g_neg hok c
      refine lv_aload_n hx hb dX9_copy_143 rfl (lv_at hl 0 rfl) ?_
      refine va_get (ci := 9) (v := .ref h0_rows) (C := RX9) (T := TX9) (N := 49) hx hb hts hinX9 hown hK hP 0 rfl rfl 14 (by decide) (hts _ (List.mem_of_getElem? (i := 4) rfl)) (fun _ h9 => h9) rfl dX9_copy_144 ?_
      refine lv_iload_n hx hb dX9_copy_147 rfl (lv_at hl 1 rfl) ?_
      obtain ⟨hin5, hok⟩ := g_no hok
      refine x_aalda hx hb hK hP 1 6 rfl rfl hin5 dX9_copy_148 ?_
      refine W.eq (congrArg (fun z => F0 m 149 ls (z :: [])) (rf_at (Nat.not_le.mp fun q => hin5 (Or.inr q)))) ?_
      refine lv_iload hx hb dX9_copy_149 (lv_at hl 2 rfl) ?_
      refine lv_iload hx hb dX9_copy_151 (lv_at hl 4 rfl) ?_
      refine lv_iadd hx hb dX9_copy_153 ?_
      refine lv_aload_n hx hb dX9_copy_154 rfl (lv_at hl 0 rfl) ?_
      refine va_get (ci := 9) (v := .ref h0_moved) (C := RX9) (T := TX9) (N := 49) hx hb hts hinX9 hown hK hP 0 rfl rfl 17 (by decide) (hts _ (List.mem_of_getElem? (i := 3) rfl)) (fun _ h9 => h9) rfl dX9_copy_155 ?_
      refine lv_iload hx hb dX9_copy_158 (lv_at hl 4 rfl) ?_
      obtain ⟨hin, hok⟩ := g_no hok
      refine x_lald (k := y6.toNatClampNeg) hx hb hK hP 8 1 rfl rfl hin rfl dX9_copy_160 ?_
      obtain ⟨hin, hok⟩ := g_no hok
      refine x_last (cA := cA 1) (n := 40) (f := (c0_rows_e x3.toNatClampNeg)) (k := (x4 + y6).toNatClampNeg) hx hb hK hP hD hS (2 + 1 * x3.toNatClampNeg) 1 (by rcases lt4 (Nat.not_le.mp fun q => hin5 (Or.inr q)) with e | e | e | e <;> rw [e] <;> rfl) rfl hin rfl dX9_copy_161 (fun H locs hP hD hS => ?_)
      obtain ⟨hP, hD⟩ : va_P G vwCl (wm_X9_copy cA h0 h0_rows h0_rows_e h0_sorts h0_sizes h0_moved h0_g h0_kept h0_changed h0_p h0_causes h0_outs h0_losses h0_levelOf h0_levelOften h0_to h0_round h0_tail h0_path h0_leastOn h0_period h0_amplitude h0_basin h0_numbered h0_isReached h0_tape h0_told h0_traced s0__isKept s0__done s0__undoable s0__redoable s0__all s0__v s0__loss s0__isOver s0__hasCauses s0__outMany s0__overMany s0__isHalted s0__levelMany s0__rounds s0__stuck s0__onRounds s0__longest s0__loudest s0__reached s0__isAnyOver s0__taped s0__at s0__ran (va_up c0_rows_e x3.toNatClampNeg (vp_updL (c0_rows_e x3.toNatClampNeg) (x4 + y6).toNatClampNeg (c0_moved y6.toNatClampNeg))) s0_sorts s0_sizes c0_moved) H ∧ va_D A (wm_X9_copy cA h0 h0_rows h0_rows_e h0_sorts h0_sizes h0_moved h0_g h0_kept h0_changed h0_p h0_causes h0_outs h0_losses h0_levelOf h0_levelOften h0_to h0_round h0_tail h0_path h0_leastOn h0_period h0_amplitude h0_basin h0_numbered h0_isReached h0_tape h0_told h0_traced s0__isKept s0__done s0__undoable s0__redoable s0__all s0__v s0__loss s0__isOver s0__hasCauses s0__outMany s0__overMany s0__isHalted s0__levelMany s0__rounds s0__stuck s0__onRounds s0__longest s0__loudest s0__reached s0__isAnyOver s0__taped s0__at s0__ran (va_up c0_rows_e x3.toNatClampNeg (vp_updL (c0_rows_e x3.toNatClampNeg) (x4 + y6).toNatClampNeg (c0_moved y6.toNatClampNeg))) s0_sorts s0_sizes c0_moved) := PD_eq hP hD (by rcases lt4 (Nat.not_le.mp fun q => hin5 (Or.inr q)) with e | e | e | e <;> rw [e] <;> rfl)
      refine lv_iinc (v := (y6 + 1)) (lv' := [(6, .int (y6 + 1)), (0, .ref h0), (3, .int x3), (4, .int x4), (5, .int x5)]) hx hb dX9_copy_162 hl (k := 4) rfl rfl (by decide) rfl (fun ls hl => ?_)
      refine lv_goto (tgt := 136) hx hb dX9_copy_165 (by decide) ?_
      exact ih (y6 + 1) (va_up c0_rows_e x3.toNatClampNeg (vp_updL (c0_rows_e x3.toNatClampNeg) (x4 + y6).toNatClampNeg (c0_moved y6.toNatClampNeg))) c0_moved p0_0 _ _ _ hP hD hS (lv_sub hl [1, 2, 3, 4, 0] rfl) hok K
  unfold fX9_copy at hok
  refine lv_iload_n hx hb dX9_copy_0 rfl (lv_at hl 1 rfl) ?_
  obtain ⟨r1, hq, hok⟩ := g_bnd1 hok
  refine cG (is := []) (wc := (wm_X0_find cA)) (w1 := (wm_X0_find cA)) (rv := (some (.int r1))) (st1 := [.int r1]) (va_runS (Ts := wsX9_copy) (As := [.int x1]) (rest := []) ⟨hx, hb, hml, hown, hts⟩ (c_X9_isRow l G cA ts x1 r1 hq s.heap.size) (va_cwS 1 hts gX9_copy_X9_isRow rfl rfl rfl (by decide +kernel) ⟨Nat.le_of_ble_eq_true rfl, Nat.le_of_ble_eq_true rfl⟩) (pre_S (is := []) hP hD hS hA hK hZ (by decide +kernel) (by rfl)) rfl rfl hl.1 rfl (by exact lv_room (Nat.le_of_ble_eq_true rfl)) dX9_copy_1 ⟨Nat.le_refl _, Nat.le_refl _⟩) hP hD hS hA (by decide +kernel) (by rfl) (by rfl) rfl (fun H locs hP hD hS => ?_)
  have hP : va_P G vwCl (wm_X9_copy cA h0 h0_rows h0_rows_e h0_sorts h0_sizes h0_moved h0_g h0_kept h0_changed h0_p h0_causes h0_outs h0_losses h0_levelOf h0_levelOften h0_to h0_round h0_tail h0_path h0_leastOn h0_period h0_amplitude h0_basin h0_numbered h0_isReached h0_tape h0_told h0_traced s0__isKept s0__done s0__undoable s0__redoable s0__all s0__v s0__loss s0__isOver s0__hasCauses s0__outMany s0__overMany s0__isHalted s0__levelMany s0__rounds s0__stuck s0__onRounds s0__longest s0__loudest s0__reached s0__isAnyOver s0__taped s0__at s0__ran s0_rows_e s0_sorts s0_sizes s0_moved) H := hP
  have hD : va_D A (wm_X9_copy cA h0 h0_rows h0_rows_e h0_sorts h0_sizes h0_moved h0_g h0_kept h0_changed h0_p h0_causes h0_outs h0_losses h0_levelOf h0_levelOften h0_to h0_round h0_tail h0_path h0_leastOn h0_period h0_amplitude h0_basin h0_numbered h0_isReached h0_tape h0_told h0_traced s0__isKept s0__done s0__undoable s0__redoable s0__all s0__v s0__loss s0__isOver s0__hasCauses s0__outMany s0__overMany s0__isHalted s0__levelMany s0__rounds s0__stuck s0__onRounds s0__longest s0__loudest s0__reached s0__isAnyOver s0__taped s0__at s0__ran s0_rows_e s0_sorts s0_sizes s0_moved) := hD
  refine lv_if_eq (tgt := 14) hx hb dX9_copy_4 (by decide) (fun c => ?_) (fun c => ?_)
  · replace hok := g_pos hok c
    refine lv_iconst (v := -1) hx hb dX9_copy_14 (by decide) ?_
    cases hok
    exact cr_i hx hb hr hlocks hQ dX9_copy_15 hP hS
  replace hok := g_neg hok c
  refine lv_iload_n hx hb dX9_copy_7 rfl (lv_at hl 3 rfl) ?_
  obtain ⟨r2, hq, hok⟩ := g_bnd1 hok
  refine cG (is := []) (wc := (wm_X0_find cA)) (w1 := (wm_X0_find cA)) (rv := (some (.int r2))) (st1 := [.int r2]) (va_runS (Ts := wsX9_copy) (As := [.int x3]) (rest := []) ⟨hx, hb, hml, hown, hts⟩ (c_X9_isRow l G cA ts x3 r2 hq H.size) (va_cwS 1 hts gX9_copy_X9_isRow rfl rfl rfl (by decide +kernel) ⟨Nat.le_of_ble_eq_true rfl, Nat.le_of_ble_eq_true rfl⟩) (pre_S (is := []) hP hD hS hA hK hZ (by decide +kernel) (by rfl)) rfl rfl hl.1 rfl (by exact lv_room (Nat.le_of_ble_eq_true rfl)) dX9_copy_8 ⟨Nat.le_refl _, Nat.le_refl _⟩) hP hD hS hA (by decide +kernel) (by rfl) (by rfl) rfl (fun H locs hP hD hS => ?_)
  have hP : va_P G vwCl (wm_X9_copy cA h0 h0_rows h0_rows_e h0_sorts h0_sizes h0_moved h0_g h0_kept h0_changed h0_p h0_causes h0_outs h0_losses h0_levelOf h0_levelOften h0_to h0_round h0_tail h0_path h0_leastOn h0_period h0_amplitude h0_basin h0_numbered h0_isReached h0_tape h0_told h0_traced s0__isKept s0__done s0__undoable s0__redoable s0__all s0__v s0__loss s0__isOver s0__hasCauses s0__outMany s0__overMany s0__isHalted s0__levelMany s0__rounds s0__stuck s0__onRounds s0__longest s0__loudest s0__reached s0__isAnyOver s0__taped s0__at s0__ran s0_rows_e s0_sorts s0_sizes s0_moved) H := hP
  have hD : va_D A (wm_X9_copy cA h0 h0_rows h0_rows_e h0_sorts h0_sizes h0_moved h0_g h0_kept h0_changed h0_p h0_causes h0_outs h0_losses h0_levelOf h0_levelOften h0_to h0_round h0_tail h0_path h0_leastOn h0_period h0_amplitude h0_basin h0_numbered h0_isReached h0_tape h0_told h0_traced s0__isKept s0__done s0__undoable s0__redoable s0__all s0__v s0__loss s0__isOver s0__hasCauses s0__outMany s0__overMany s0__isHalted s0__levelMany s0__rounds s0__stuck s0__onRounds s0__longest s0__loudest s0__reached s0__isAnyOver s0__taped s0__at s0__ran s0_rows_e s0_sorts s0_sizes s0_moved) := hD
  refine lv_if_ne (tgt := 16) hx hb dX9_copy_11 (by decide) (fun c => ?_) (fun c => ?_)
  · replace hok := g_neg hok c
    refine lv_aload_n hx hb dX9_copy_16 rfl (lv_at hl 0 rfl) ?_
    refine va_get (ci := 9) (v := .ref h0_sorts) (C := RX9) (T := TX9) (N := 49) hx hb hts hinX9 hown hK hP 0 rfl rfl 15 (by decide) (hts _ (List.mem_of_getElem? (i := 1) rfl)) (fun _ h9 => h9) rfl dX9_copy_17 ?_
    refine lv_iload_n hx hb dX9_copy_20 rfl (lv_at hl 1 rfl) ?_
    obtain ⟨hin, hok⟩ := g_no hok
    refine x_iald (k := x1.toNatClampNeg) hx hb hK hP 6 0 rfl rfl hin rfl dX9_copy_21 ?_
    refine lv_if_lt (tgt := 34) hx hb dX9_copy_22 (by decide) (fun c => ?_) (fun c => ?_)
    · replace hok := g_pos hok c
      refine lv_bipush (v := -11) hx hb dX9_copy_34 (by decide) ?_
      cases hok
      exact cr_i hx hb hr hlocks hQ dX9_copy_36 hP hS
    replace hok := g_neg hok c
    refine lv_aload_n hx hb dX9_copy_25 rfl (lv_at hl 0 rfl) ?_
    refine va_get (ci := 9) (v := .ref h0_sorts) (C := RX9) (T := TX9) (N := 49) hx hb hts hinX9 hown hK hP 0 rfl rfl 15 (by decide) (hts _ (List.mem_of_getElem? (i := 1) rfl)) (fun _ h9 => h9) rfl dX9_copy_26 ?_
    refine lv_iload_n hx hb dX9_copy_29 rfl (lv_at hl 3 rfl) ?_
    obtain ⟨hin, hok⟩ := g_no hok
    refine x_iald (k := x3.toNatClampNeg) hx hb hK hP 6 0 rfl rfl hin rfl dX9_copy_30 ?_
    refine lv_if_ge (tgt := 37) hx hb dX9_copy_31 (by decide) (fun c => ?_) (fun c => ?_)
    · replace hok := g_pos hok c
      refine lv_aload_n hx hb dX9_copy_37 rfl (lv_at hl 0 rfl) ?_
      refine va_get (ci := 9) (v := .ref h0_sorts) (C := RX9) (T := TX9) (N := 49) hx hb hts hinX9 hown hK hP 0 rfl rfl 15 (by decide) (hts _ (List.mem_of_getElem? (i := 1) rfl)) (fun _ h9 => h9) rfl dX9_copy_38 ?_
      refine lv_iload_n hx hb dX9_copy_41 rfl (lv_at hl 1 rfl) ?_
      obtain ⟨hin, hok⟩ := g_no hok
      refine x_iald (k := x1.toNatClampNeg) hx hb hK hP 6 0 rfl rfl hin rfl dX9_copy_42 ?_
      refine lv_aload_n hx hb dX9_copy_43 rfl (lv_at hl 0 rfl) ?_
      refine va_get (ci := 9) (v := .ref h0_sorts) (C := RX9) (T := TX9) (N := 49) hx hb hts hinX9 hown hK hP 0 rfl rfl 15 (by decide) (hts _ (List.mem_of_getElem? (i := 1) rfl)) (fun _ h9 => h9) rfl dX9_copy_44 ?_
      refine lv_iload_n hx hb dX9_copy_47 rfl (lv_at hl 3 rfl) ?_
      obtain ⟨hin, hok⟩ := g_no hok
      refine x_iald (k := x3.toNatClampNeg) hx hb hK hP 6 0 rfl rfl hin rfl dX9_copy_48 ?_
      refine lv_icmp_eq (tgt := 55) hx hb dX9_copy_49 (by decide) (fun c => ?_) (fun c => ?_)
      · replace hok := g_pos hok c
        refine lv_iload hx hb dX9_copy_55 (lv_at hl 5 rfl) ?_
        refine lv_if_lt (tgt := 96) hx hb dX9_copy_57 (by decide) (fun c => ?_) (fun c => ?_)
        · replace hok := g_pos hok c
          refine lv_bipush (v := -13) hx hb dX9_copy_96 (by decide) ?_
          cases hok
          exact cr_i hx hb hr hlocks hQ dX9_copy_98 hP hS
        replace hok := g_neg hok c
        refine lv_iload_n hx hb dX9_copy_60 rfl (lv_at hl 2 rfl) ?_
        refine lv_if_lt (tgt := 96) hx hb dX9_copy_61 (by decide) (fun c => ?_) (fun c => ?_)
        · replace hok := g_pos hok c
          refine lv_bipush (v := -13) hx hb dX9_copy_96 (by decide) ?_
          cases hok
          exact cr_i hx hb hr hlocks hQ dX9_copy_98 hP hS
        replace hok := g_neg hok c
        refine lv_iload hx hb dX9_copy_64 (lv_at hl 4 rfl) ?_
        refine lv_if_lt (tgt := 96) hx hb dX9_copy_66 (by decide) (fun c => ?_) (fun c => ?_)
        · replace hok := g_pos hok c
          refine lv_bipush (v := -13) hx hb dX9_copy_96 (by decide) ?_
          cases hok
          exact cr_i hx hb hr hlocks hQ dX9_copy_98 hP hS
        replace hok := g_neg hok c
        refine lv_iload hx hb dX9_copy_69 (lv_at hl 5 rfl) ?_
        refine lv_aload_n hx hb dX9_copy_71 rfl (lv_at hl 0 rfl) ?_
        refine va_get (ci := 9) (v := .ref h0_sizes) (C := RX9) (T := TX9) (N := 49) hx hb hts hinX9 hown hK hP 0 rfl rfl 16 (by decide) (hts _ (List.mem_of_getElem? (i := 2) rfl)) (fun _ h9 => h9) rfl dX9_copy_72 ?_
        refine lv_iload_n hx hb dX9_copy_75 rfl (lv_at hl 1 rfl) ?_
        obtain ⟨hin, hok⟩ := g_no hok
        refine x_iald (k := x1.toNatClampNeg) hx hb hK hP 7 0 rfl rfl hin rfl dX9_copy_76 ?_
        refine lv_iload_n hx hb dX9_copy_77 rfl (lv_at hl 2 rfl) ?_
        refine lv_isub hx hb dX9_copy_78 ?_
        refine lv_icmp_gt (tgt := 96) hx hb dX9_copy_79 (by decide) (fun c => ?_) (fun c => ?_)
        · replace hok := g_pos hok c
          refine lv_bipush (v := -13) hx hb dX9_copy_96 (by decide) ?_
          cases hok
          exact cr_i hx hb hr hlocks hQ dX9_copy_98 hP hS
        replace hok := g_neg hok c
        refine lv_iload hx hb dX9_copy_82 (lv_at hl 5 rfl) ?_
        refine lv_aload_n hx hb dX9_copy_84 rfl (lv_at hl 0 rfl) ?_
        refine va_get (ci := 9) (v := .ref h0_sizes) (C := RX9) (T := TX9) (N := 49) hx hb hts hinX9 hown hK hP 0 rfl rfl 16 (by decide) (hts _ (List.mem_of_getElem? (i := 2) rfl)) (fun _ h9 => h9) rfl dX9_copy_85 ?_
        refine lv_iload_n hx hb dX9_copy_88 rfl (lv_at hl 3 rfl) ?_
        obtain ⟨hin, hok⟩ := g_no hok
        refine x_iald (k := x3.toNatClampNeg) hx hb hK hP 7 0 rfl rfl hin rfl dX9_copy_89 ?_
        refine lv_iload hx hb dX9_copy_90 (lv_at hl 4 rfl) ?_
        refine lv_isub hx hb dX9_copy_92 ?_
        refine lv_icmp_le (tgt := 99) hx hb dX9_copy_93 (by decide) (fun c => ?_) (fun c => ?_)
        · replace hok := g_pos hok c
          refine lv_iconst (v := 0) hx hb dX9_copy_99 (by decide) ?_
          refine lv_istore (lv' := [(6, .int (0:Int32)), (0, .ref h0), (1, .int x1), (2, .int x2), (3, .int x3), (4, .int x4), (5, .int x5)]) hx hb dX9_copy_100 hl (by decide) rfl (fun ls hl => ?_)
          obtain ⟨o4, hq, hok⟩ := g_bnd1 hok
          refine L_102 FUEL (0:Int32) s0_rows_e s0_moved o4 _ _ _ hP hD hS (lv_sub hl [1, 2, 3, 4, 5, 6, 0] rfl) hq (fun H locs ls hP hD hS hl => ?_)
          refine lv_iconst (v := 0) hx hb dX9_copy_133 (by decide) ?_
          refine lv_istore (lv' := [(6, .int (0:Int32)), (0, .ref h0), (3, .int x3), (4, .int x4), (5, .int x5)]) hx hb dX9_copy_134 hl (by decide) rfl (fun ls hl => ?_)
          obtain ⟨o6, hq, hok⟩ := g_bnd1 hok
          refine L_136 FUEL (0:Int32) s0_rows_e o4 o6 _ _ _ hP hD hS (lv_sub hl [1, 2, 3, 4, 0] rfl) hq (fun H locs ls hP hD hS hl => ?_)
          refine lv_iload hx hb dX9_copy_168 (lv_at hl 0 rfl) ?_
          cases hok
          exact cr_i hx hb hr hlocks hQ dX9_copy_170 hP hS
        replace hok := g_neg hok c
        refine lv_bipush (v := -13) hx hb dX9_copy_96 (by decide) ?_
        cases hok
        exact cr_i hx hb hr hlocks hQ dX9_copy_98 hP hS
      replace hok := g_neg hok c
      refine lv_bipush (v := -12) hx hb dX9_copy_52 (by decide) ?_
      cases hok
      exact cr_i hx hb hr hlocks hQ dX9_copy_54 hP hS
    replace hok := g_neg hok c
    refine lv_bipush (v := -11) hx hb dX9_copy_34 (by decide) ?_
    cases hok
    exact cr_i hx hb hr hlocks hQ dX9_copy_36 hP hS
  replace hok := g_pos hok c
  refine lv_iconst (v := -1) hx hb dX9_copy_14 (by decide) ?_
  cases hok
  exact cr_i hx hb hr hlocks hQ dX9_copy_15 hP hS
set_option maxHeartbeats 40000000 in
set_option maxRecDepth 100000 in
theorem c_X9_runs (l : Launch) (G : va_G) (cA : Nat → ClassId) (ts : Nat → Nat) (h0 : Nat) (h0_g : Nat) (h0_p : Nat) (h0_rows : Nat) (h0_rows_e : Nat → Nat) (h0_sizes : Nat) (h0_outs : Nat) (h0_losses : Nat) (h0_kept : Nat) (h0_changed : Nat) (h0_causes : Nat) (h0_sorts : Nat) (h0_moved : Nat) (h0_levelOf : Nat) (h0_levelOften : Nat) (h0_to : Nat) (h0_round : Nat) (h0_tail : Nat) (h0_path : Nat) (h0_leastOn : Nat) (h0_period : Nat) (h0_amplitude : Nat) (h0_basin : Nat) (h0_numbered : Nat) (h0_isReached : Nat) (h0_tape : Nat) (h0_told : Nat) (h0_traced : Nat) (x1 : Int32) (s0__isKept : Int32) (s0__done : Int32) (s0__undoable : Int32) (s0__redoable : Int32) (s0__all : Int32) (s0__v : Int32) (s0__loss : Int32) (s0__isOver : Int32) (s0__hasCauses : Int32) (s0__outMany : Int32) (s0__overMany : Int32) (s0__isHalted : Int32) (s0__levelMany : Int32) (s0__rounds : Int32) (s0__stuck : Int32) (s0__onRounds : Int32) (s0__longest : Int32) (s0__loudest : Int32) (s0__reached : Int32) (s0__isAnyOver : Int32) (s0__taped : Int32) (s0__at : Int32) (s0__ran : Int32) (s0_g : Nat → Int32) (s0_p : Nat → Int32) (s0_rows_e : Nat → Nat → Int64) (s0_sizes : Nat → Int32) (s0_outs : Nat → Int32) (s0_losses : Nat → Int32) (o0__all : Int32) (o0__v : Int32) (o0__loss : Int32) (o0__isOver : Int32) (o0__outMany : Int32) (o0__overMany : Int32) (o0__isHalted : Int32) (o0_p : Nat → Int32) (o0_outs : Nat → Int32) (o0_losses : Nat → Int32) (hok : fX9_runs x1 s0__all s0__v s0__loss s0__isOver s0__outMany s0__overMany s0__isHalted s0_g s0_p s0_rows_e s0_sizes s0_outs s0_losses = some (o0__all, o0__v, o0__loss, o0__isOver, o0__outMany, o0__overMany, o0__isHalted, o0_p, o0_outs, o0_losses)) : Ct l G cA ts yX9_runs wsX9_runs 4 111 [.ref h0, .int x1] (wm_X9_runs cA h0 h0_g h0_p h0_rows h0_rows_e h0_sizes h0_outs h0_losses h0_kept h0_changed h0_causes h0_sorts h0_moved h0_levelOf h0_levelOften h0_to h0_round h0_tail h0_path h0_leastOn h0_period h0_amplitude h0_basin h0_numbered h0_isReached h0_tape h0_told h0_traced s0__isKept s0__done s0__undoable s0__redoable s0__all s0__v s0__loss s0__isOver s0__hasCauses s0__outMany s0__overMany s0__isHalted s0__levelMany s0__rounds s0__stuck s0__onRounds s0__longest s0__loudest s0__reached s0__isAnyOver s0__taped s0__at s0__ran s0_g s0_p s0_rows_e s0_sizes s0_outs s0_losses) (wm_X9_runs cA h0 h0_g h0_p h0_rows h0_rows_e h0_sizes h0_outs h0_losses h0_kept h0_changed h0_causes h0_sorts h0_moved h0_levelOf h0_levelOften h0_to h0_round h0_tail h0_path h0_leastOn h0_period h0_amplitude h0_basin h0_numbered h0_isReached h0_tape h0_told h0_traced s0__isKept s0__done s0__undoable s0__redoable o0__all o0__v o0__loss o0__isOver s0__hasCauses o0__outMany o0__overMany o0__isHalted s0__levelMany s0__rounds s0__stuck s0__onRounds s0__longest s0__loudest s0__reached s0__isAnyOver s0__taped s0__at s0__ran s0_g o0_p s0_rows_e s0_sizes o0_outs o0_losses) none := by
  refine Ct.intro (cc := cX9_runs) (maxL := 4) (ret := none) (by decide +kernel) rfl (Nat.le_of_ble_eq_true rfl) ?_
  intro p e s m ar below meth c A Q hx hb hr hml hown hlocks hts hK hZ hA hQ hP hD hS ls hl
  have hown : s.vm.findClass RX9 = some m.cls := hown
  have hinX9 : ∀ w ∈ wsX90, w ∈ wsX9_runs := fun _ h => List.mem_cons_of_mem _ (List.mem_append_right _ (h))
  have hl : lv_has ls 4 [(0, .ref h0), (1, .int x1)] := hl
  have hP : va_P G vwCl (wm_X9_runs cA h0 h0_g h0_p h0_rows h0_rows_e h0_sizes h0_outs h0_losses h0_kept h0_changed h0_causes h0_sorts h0_moved h0_levelOf h0_levelOften h0_to h0_round h0_tail h0_path h0_leastOn h0_period h0_amplitude h0_basin h0_numbered h0_isReached h0_tape h0_told h0_traced s0__isKept s0__done s0__undoable s0__redoable s0__all s0__v s0__loss s0__isOver s0__hasCauses s0__outMany s0__overMany s0__isHalted s0__levelMany s0__rounds s0__stuck s0__onRounds s0__longest s0__loudest s0__reached s0__isAnyOver s0__taped s0__at s0__ran s0_g s0_p s0_rows_e s0_sizes s0_outs s0_losses) s.heap := hP
  have hD : va_D A (wm_X9_runs cA h0 h0_g h0_p h0_rows h0_rows_e h0_sizes h0_outs h0_losses h0_kept h0_changed h0_causes h0_sorts h0_moved h0_levelOf h0_levelOften h0_to h0_round h0_tail h0_path h0_leastOn h0_period h0_amplitude h0_basin h0_numbered h0_isReached h0_tape h0_told h0_traced s0__isKept s0__done s0__undoable s0__redoable s0__all s0__v s0__loss s0__isOver s0__hasCauses s0__outMany s0__overMany s0__isHalted s0__levelMany s0__rounds s0__stuck s0__onRounds s0__longest s0__loudest s0__reached s0__isAnyOver s0__taped s0__at s0__ran s0_g s0_p s0_rows_e s0_sizes s0_outs s0_losses) := hD
  have L_21 : ∀ (n : Nat) (y2 : Int32) (c0__all : Int32) (c0__v : Int32) (c0__loss : Int32) (c0__isOver : Int32) (c0__outMany : Int32) (c0__overMany : Int32) (c0__isHalted : Int32) (c0_p : Nat → Int32) (c0_outs : Nat → Int32) (c0_losses : Nat → Int32) (p0_0 : Int32) (p0_1 : Int32) (p0_2 : Int32) (p0_3 : Int32) (p0_4 : Int32) (p0_5 : Int32) (p0_6 : Int32) (p0_7 : Nat → Int32) (p0_8 : Nat → Int32) (p0_9 : Nat → Int32) (H : Heap) (locs : List Loc) (ls : Array Slot), va_P G vwCl (wm_X9_runs cA h0 h0_g h0_p h0_rows h0_rows_e h0_sizes h0_outs h0_losses h0_kept h0_changed h0_causes h0_sorts h0_moved h0_levelOf h0_levelOften h0_to h0_round h0_tail h0_path h0_leastOn h0_period h0_amplitude h0_basin h0_numbered h0_isReached h0_tape h0_told h0_traced s0__isKept s0__done s0__undoable s0__redoable c0__all c0__v c0__loss c0__isOver s0__hasCauses c0__outMany c0__overMany c0__isHalted s0__levelMany s0__rounds s0__stuck s0__onRounds s0__longest s0__loudest s0__reached s0__isAnyOver s0__taped s0__at s0__ran s0_g c0_p s0_rows_e s0_sizes c0_outs c0_losses) H → va_D A (wm_X9_runs cA h0 h0_g h0_p h0_rows h0_rows_e h0_sizes h0_outs h0_losses h0_kept h0_changed h0_causes h0_sorts h0_moved h0_levelOf h0_levelOften h0_to h0_round h0_tail h0_path h0_leastOn h0_period h0_amplitude h0_basin h0_numbered h0_isReached h0_tape h0_told h0_traced s0__isKept s0__done s0__undoable s0__redoable c0__all c0__v c0__loss c0__isOver s0__hasCauses c0__outMany c0__overMany c0__isHalted s0__levelMany s0__rounds s0__stuck s0__onRounds s0__longest s0__loudest s0__reached s0__isAnyOver s0__taped s0__at s0__ran s0_g c0_p s0_rows_e s0_sizes c0_outs c0_losses) → va_S A s.heap H locs → lv_has ls 4 [(0, .ref h0), (1, .int x1), (2, .int y2)] → fX9_runs_L21 x1 s0_g s0_rows_e s0_sizes n y2 c0__all c0__v c0__loss c0__isOver c0__outMany c0__overMany c0__isHalted c0_p c0_outs c0_losses = some (p0_0, p0_1, p0_2, p0_3, p0_4, p0_5, p0_6, p0_7, p0_8, p0_9) → (∀ (H : Heap) (locs : List Loc) (ls : Array Slot), va_P G vwCl (wm_X9_runs cA h0 h0_g h0_p h0_rows h0_rows_e h0_sizes h0_outs h0_losses h0_kept h0_changed h0_causes h0_sorts h0_moved h0_levelOf h0_levelOften h0_to h0_round h0_tail h0_path h0_leastOn h0_period h0_amplitude h0_basin h0_numbered h0_isReached h0_tape h0_told h0_traced s0__isKept s0__done s0__undoable s0__redoable p0_0 p0_1 p0_2 p0_3 s0__hasCauses p0_4 p0_5 p0_6 s0__levelMany s0__rounds s0__stuck s0__onRounds s0__longest s0__loudest s0__reached s0__isAnyOver s0__taped s0__at s0__ran s0_g p0_7 s0_rows_e s0_sizes p0_8 p0_9) H → va_D A (wm_X9_runs cA h0 h0_g h0_p h0_rows h0_rows_e h0_sizes h0_outs h0_losses h0_kept h0_changed h0_causes h0_sorts h0_moved h0_levelOf h0_levelOften h0_to h0_round h0_tail h0_path h0_leastOn h0_period h0_amplitude h0_basin h0_numbered h0_isReached h0_tape h0_told h0_traced s0__isKept s0__done s0__undoable s0__redoable p0_0 p0_1 p0_2 p0_3 s0__hasCauses p0_4 p0_5 p0_6 s0__levelMany s0__rounds s0__stuck s0__onRounds s0__longest s0__loudest s0__reached s0__isAnyOver s0__taped s0__at s0__ran s0_g p0_7 s0_rows_e s0_sizes p0_8 p0_9) → va_S A s.heap H locs → lv_has ls 4 [] → W p l e (rmX 4 111) s m ar below meth c H locs 0 0 Q (F0 m 147 ls [])) → W p l e (rmX 4 111) s m ar below meth c H locs 0 0 Q (F0 m 21 ls []) := by
    intro n
    induction n with
    | zero =>
      intro y2 c0__all c0__v c0__loss c0__isOver c0__outMany c0__overMany c0__isHalted c0_p c0_outs c0_losses p0_0 p0_1 p0_2 p0_3 p0_4 p0_5 p0_6 p0_7 p0_8 p0_9 H locs ls hP hD hS hl hok
      rw [fX9_runs_L21] at hok
      cases hok
    | succ n ih =>
      intro y2 c0__all c0__v c0__loss c0__isOver c0__outMany c0__overMany c0__isHalted c0_p c0_outs c0_losses p0_0 p0_1 p0_2 p0_3 p0_4 p0_5 p0_6 p0_7 p0_8 p0_9 H locs ls hP hD hS hl hok K
      rw [fX9_runs_L21] at hok
      have J_98 : ∀ (y2 : Int32) (y3 : Int32) (z1 : Int32) (c0__all : Int32) (c0__v : Int32) (c0__loss : Int32) (c0__isOver : Int32) (c0__outMany : Int32) (c0__overMany : Int32) (c0__isHalted : Int32) (c0_p : Nat → Int32) (c0_outs : Nat → Int32) (c0_losses : Nat → Int32) (H : Heap) (locs : List Loc) (ls : Array Slot), va_P G vwCl (wm_X9_runs cA h0 h0_g h0_p h0_rows h0_rows_e h0_sizes h0_outs h0_losses h0_kept h0_changed h0_causes h0_sorts h0_moved h0_levelOf h0_levelOften h0_to h0_round h0_tail h0_path h0_leastOn h0_period h0_amplitude h0_basin h0_numbered h0_isReached h0_tape h0_told h0_traced s0__isKept s0__done s0__undoable s0__redoable c0__all c0__v c0__loss c0__isOver s0__hasCauses c0__outMany c0__overMany c0__isHalted s0__levelMany s0__rounds s0__stuck s0__onRounds s0__longest s0__loudest s0__reached s0__isAnyOver s0__taped s0__at s0__ran s0_g c0_p s0_rows_e s0_sizes c0_outs c0_losses) H → va_D A (wm_X9_runs cA h0 h0_g h0_p h0_rows h0_rows_e h0_sizes h0_outs h0_losses h0_kept h0_changed h0_causes h0_sorts h0_moved h0_levelOf h0_levelOften h0_to h0_round h0_tail h0_path h0_leastOn h0_period h0_amplitude h0_basin h0_numbered h0_isReached h0_tape h0_told h0_traced s0__isKept s0__done s0__undoable s0__redoable c0__all c0__v c0__loss c0__isOver s0__hasCauses c0__outMany c0__overMany c0__isHalted s0__levelMany s0__rounds s0__stuck s0__onRounds s0__longest s0__loudest s0__reached s0__isAnyOver s0__taped s0__at s0__ran s0_g c0_p s0_rows_e s0_sizes c0_outs c0_losses) → va_S A s.heap H locs → lv_has ls 4 [(0, .ref h0), (1, .int x1), (2, .int y2), (3, .int y3)] → fX9_runs_j98 x1 s0_g s0_rows_e s0_sizes (fX9_runs_L21 x1 s0_g s0_rows_e s0_sizes n) y2 y3 z1 c0__all c0__v c0__loss c0__isOver c0__outMany c0__overMany c0__isHalted c0_p c0_outs c0_losses = some (p0_0, p0_1, p0_2, p0_3, p0_4, p0_5, p0_6, p0_7, p0_8, p0_9) → W p l e (rmX 4 111) s m ar below meth c H locs 0 0 Q (F0 m 98 ls [.int z1, .ref h0]) := by
        intro y2 y3 z1 c0__all c0__v c0__loss c0__isOver c0__outMany c0__overMany c0__isHalted c0_p c0_outs c0_losses H locs ls hP hD hS hl hok
        unfold fX9_runs_j98 at hok
        obtain ⟨hin, hok⟩ := g_no hok
        refine va_put (D := G) (ci := 9) (v := .int z1) (ty := .boolean) (C := RX9) (T := TX9) (N := 49) hx hb hts hinX9 tyX9 tyX9_ok nmX9 hown hK hP hD hS 0 rfl rfl 22 (by decide) (hts _ (List.mem_of_getElem? (i := 3) rfl)) (fun _ h9 => h9) rfl (by decide +kernel) (nar_z hin) (fit_z hin) (Nat.le_of_ble_eq_true rfl) dX9_runs_98 (fun H locs hP hD hS => ?_)
        have hP : va_P G vwCl (wm_X9_runs cA h0 h0_g h0_p h0_rows h0_rows_e h0_sizes h0_outs h0_losses h0_kept h0_changed h0_causes h0_sorts h0_moved h0_levelOf h0_levelOften h0_to h0_round h0_tail h0_path h0_leastOn h0_period h0_amplitude h0_basin h0_numbered h0_isReached h0_tape h0_told h0_traced s0__isKept s0__done s0__undoable s0__redoable c0__all c0__v c0__loss c0__isOver s0__hasCauses c0__outMany c0__overMany z1 s0__levelMany s0__rounds s0__stuck s0__onRounds s0__longest s0__loudest s0__reached s0__isAnyOver s0__taped s0__at s0__ran s0_g c0_p s0_rows_e s0_sizes c0_outs c0_losses) H := hP
        have hD : va_D A (wm_X9_runs cA h0 h0_g h0_p h0_rows h0_rows_e h0_sizes h0_outs h0_losses h0_kept h0_changed h0_causes h0_sorts h0_moved h0_levelOf h0_levelOften h0_to h0_round h0_tail h0_path h0_leastOn h0_period h0_amplitude h0_basin h0_numbered h0_isReached h0_tape h0_told h0_traced s0__isKept s0__done s0__undoable s0__redoable c0__all c0__v c0__loss c0__isOver s0__hasCauses c0__outMany c0__overMany z1 s0__levelMany s0__rounds s0__stuck s0__onRounds s0__longest s0__loudest s0__reached s0__isAnyOver s0__taped s0__at s0__ran s0_g c0_p s0_rows_e s0_sizes c0_outs c0_losses) := hD
        refine lv_aload_n hx hb dX9_runs_101 rfl (lv_at hl 0 rfl) ?_
        refine va_get (ci := 9) (v := .int z1) (C := RX9) (T := TX9) (N := 49) hx hb hts hinX9 hown hK hP 0 rfl rfl 22 (by decide) (hts _ (List.mem_of_getElem? (i := 3) rfl)) (fun _ h9 => h9) rfl dX9_runs_102 ?_
        refine lv_if_ne (tgt := 141) hx hb dX9_runs_105 (by decide) (fun c => ?_) (fun c => ?_)
        · replace hok := g_neg hok c
          refine lv_iinc (v := (y2 + 1)) (lv' := [(2, .int (y2 + 1)), (0, .ref h0), (1, .int x1), (3, .int y3)]) hx hb dX9_runs_141 hl (k := 2) rfl rfl (by decide) rfl (fun ls hl => ?_)
          refine lv_goto (tgt := 21) hx hb dX9_runs_144 (by decide) ?_
          exact ih (y2 + 1) c0__all c0__v c0__loss c0__isOver c0__outMany c0__overMany z1 c0_p c0_outs c0_losses p0_0 p0_1 p0_2 p0_3 p0_4 p0_5 p0_6 p0_7 p0_8 p0_9 _ _ _ hP hD hS (lv_sub hl [1, 2, 0] rfl) hok K
        replace hok := g_pos hok c
        refine lv_aload_n hx hb dX9_runs_108 rfl (lv_at hl 0 rfl) ?_
        refine va_get (ci := 9) (v := .ref h0_outs) (C := RX9) (T := TX9) (N := 49) hx hb hts hinX9 hown hK hP 0 rfl rfl 18 (by decide) (hts _ (List.mem_of_getElem? (i := 16) rfl)) (fun _ h9 => h9) rfl dX9_runs_109 ?_
        refine lv_aload_n hx hb dX9_runs_112 rfl (lv_at hl 0 rfl) ?_
        refine va_get (ci := 9) (v := .int c0__outMany) (C := RX9) (T := TX9) (N := 49) hx hb hts hinX9 hown hK hP 0 rfl rfl 20 (by decide) (hts _ (List.mem_of_getElem? (i := 1) rfl)) (fun _ h9 => h9) rfl dX9_runs_113 ?_
        refine lv_iload_n hx hb dX9_runs_116 rfl (lv_at hl 3 rfl) ?_
        obtain ⟨hin, hok⟩ := g_no hok
        refine x_iast (k := c0__outMany.toNatClampNeg) hx hb hK hP hD hS 9 0 rfl rfl hin rfl dX9_runs_117 (fun H locs hP hD hS => ?_)
        have hP : va_P G vwCl (wm_X9_runs cA h0 h0_g h0_p h0_rows h0_rows_e h0_sizes h0_outs h0_losses h0_kept h0_changed h0_causes h0_sorts h0_moved h0_levelOf h0_levelOften h0_to h0_round h0_tail h0_path h0_leastOn h0_period h0_amplitude h0_basin h0_numbered h0_isReached h0_tape h0_told h0_traced s0__isKept s0__done s0__undoable s0__redoable c0__all c0__v c0__loss c0__isOver s0__hasCauses c0__outMany c0__overMany z1 s0__levelMany s0__rounds s0__stuck s0__onRounds s0__longest s0__loudest s0__reached s0__isAnyOver s0__taped s0__at s0__ran s0_g c0_p s0_rows_e s0_sizes (upd c0_outs c0__outMany.toNatClampNeg y3) c0_losses) H := hP
        have hD : va_D A (wm_X9_runs cA h0 h0_g h0_p h0_rows h0_rows_e h0_sizes h0_outs h0_losses h0_kept h0_changed h0_causes h0_sorts h0_moved h0_levelOf h0_levelOften h0_to h0_round h0_tail h0_path h0_leastOn h0_period h0_amplitude h0_basin h0_numbered h0_isReached h0_tape h0_told h0_traced s0__isKept s0__done s0__undoable s0__redoable c0__all c0__v c0__loss c0__isOver s0__hasCauses c0__outMany c0__overMany z1 s0__levelMany s0__rounds s0__stuck s0__onRounds s0__longest s0__loudest s0__reached s0__isAnyOver s0__taped s0__at s0__ran s0_g c0_p s0_rows_e s0_sizes (upd c0_outs c0__outMany.toNatClampNeg y3) c0_losses) := hD
        refine lv_aload_n hx hb dX9_runs_118 rfl (lv_at hl 0 rfl) ?_
        refine va_get (ci := 9) (v := .ref h0_losses) (C := RX9) (T := TX9) (N := 49) hx hb hts hinX9 hown hK hP 0 rfl rfl 19 (by decide) (hts _ (List.mem_of_getElem? (i := 17) rfl)) (fun _ h9 => h9) rfl dX9_runs_119 ?_
        refine lv_aload_n hx hb dX9_runs_122 rfl (lv_at hl 0 rfl) ?_
        refine va_get (ci := 9) (v := .int c0__outMany) (C := RX9) (T := TX9) (N := 49) hx hb hts hinX9 hown hK hP 0 rfl rfl 20 (by decide) (hts _ (List.mem_of_getElem? (i := 1) rfl)) (fun _ h9 => h9) rfl dX9_runs_123 ?_
        refine lv_aload_n hx hb dX9_runs_126 rfl (lv_at hl 0 rfl) ?_
        refine va_get (ci := 9) (v := .int c0__loss) (C := RX9) (T := TX9) (N := 49) hx hb hts hinX9 hown hK hP 0 rfl rfl 10 (by decide) (hts _ (List.mem_of_getElem? (i := 18) rfl)) (fun _ h9 => h9) rfl dX9_runs_127 ?_
        obtain ⟨hin, hok⟩ := g_no hok
        refine x_iast (k := c0__outMany.toNatClampNeg) hx hb hK hP hD hS 10 0 rfl rfl hin rfl dX9_runs_130 (fun H locs hP hD hS => ?_)
        have hP : va_P G vwCl (wm_X9_runs cA h0 h0_g h0_p h0_rows h0_rows_e h0_sizes h0_outs h0_losses h0_kept h0_changed h0_causes h0_sorts h0_moved h0_levelOf h0_levelOften h0_to h0_round h0_tail h0_path h0_leastOn h0_period h0_amplitude h0_basin h0_numbered h0_isReached h0_tape h0_told h0_traced s0__isKept s0__done s0__undoable s0__redoable c0__all c0__v c0__loss c0__isOver s0__hasCauses c0__outMany c0__overMany z1 s0__levelMany s0__rounds s0__stuck s0__onRounds s0__longest s0__loudest s0__reached s0__isAnyOver s0__taped s0__at s0__ran s0_g c0_p s0_rows_e s0_sizes (upd c0_outs c0__outMany.toNatClampNeg y3) (upd c0_losses c0__outMany.toNatClampNeg c0__loss)) H := hP
        have hD : va_D A (wm_X9_runs cA h0 h0_g h0_p h0_rows h0_rows_e h0_sizes h0_outs h0_losses h0_kept h0_changed h0_causes h0_sorts h0_moved h0_levelOf h0_levelOften h0_to h0_round h0_tail h0_path h0_leastOn h0_period h0_amplitude h0_basin h0_numbered h0_isReached h0_tape h0_told h0_traced s0__isKept s0__done s0__undoable s0__redoable c0__all c0__v c0__loss c0__isOver s0__hasCauses c0__outMany c0__overMany z1 s0__levelMany s0__rounds s0__stuck s0__onRounds s0__longest s0__loudest s0__reached s0__isAnyOver s0__taped s0__at s0__ran s0_g c0_p s0_rows_e s0_sizes (upd c0_outs c0__outMany.toNatClampNeg y3) (upd c0_losses c0__outMany.toNatClampNeg c0__loss)) := hD
        refine lv_aload_n hx hb dX9_runs_131 rfl (lv_at hl 0 rfl) ?_
        refine lv_dup hx hb dX9_runs_132 rfl ?_
        refine va_get (ci := 9) (v := .int c0__outMany) (C := RX9) (T := TX9) (N := 49) hx hb hts hinX9 hown hK hP 0 rfl rfl 20 (by decide) (hts _ (List.mem_of_getElem? (i := 1) rfl)) (fun _ h9 => h9) rfl dX9_runs_133 ?_
        refine lv_iconst (v := 1) hx hb dX9_runs_136 (by decide) ?_
        refine lv_iadd hx hb dX9_runs_137 ?_
        refine va_put (D := G) (ci := 9) (v := .int (c0__outMany + (1:Int32))) (ty := .int) (C := RX9) (T := TX9) (N := 49) hx hb hts hinX9 tyX9 tyX9_ok nmX9 hown hK hP hD hS 0 rfl rfl 20 (by decide) (hts _ (List.mem_of_getElem? (i := 1) rfl)) (fun _ h9 => h9) rfl (by decide +kernel) rfl rfl (Nat.le_of_ble_eq_true rfl) dX9_runs_138 (fun H locs hP hD hS => ?_)
        have hP : va_P G vwCl (wm_X9_runs cA h0 h0_g h0_p h0_rows h0_rows_e h0_sizes h0_outs h0_losses h0_kept h0_changed h0_causes h0_sorts h0_moved h0_levelOf h0_levelOften h0_to h0_round h0_tail h0_path h0_leastOn h0_period h0_amplitude h0_basin h0_numbered h0_isReached h0_tape h0_told h0_traced s0__isKept s0__done s0__undoable s0__redoable c0__all c0__v c0__loss c0__isOver s0__hasCauses (c0__outMany + (1:Int32)) c0__overMany z1 s0__levelMany s0__rounds s0__stuck s0__onRounds s0__longest s0__loudest s0__reached s0__isAnyOver s0__taped s0__at s0__ran s0_g c0_p s0_rows_e s0_sizes (upd c0_outs c0__outMany.toNatClampNeg y3) (upd c0_losses c0__outMany.toNatClampNeg c0__loss)) H := hP
        have hD : va_D A (wm_X9_runs cA h0 h0_g h0_p h0_rows h0_rows_e h0_sizes h0_outs h0_losses h0_kept h0_changed h0_causes h0_sorts h0_moved h0_levelOf h0_levelOften h0_to h0_round h0_tail h0_path h0_leastOn h0_period h0_amplitude h0_basin h0_numbered h0_isReached h0_tape h0_told h0_traced s0__isKept s0__done s0__undoable s0__redoable c0__all c0__v c0__loss c0__isOver s0__hasCauses (c0__outMany + (1:Int32)) c0__overMany z1 s0__levelMany s0__rounds s0__stuck s0__onRounds s0__longest s0__loudest s0__reached s0__isAnyOver s0__taped s0__at s0__ran s0_g c0_p s0_rows_e s0_sizes (upd c0_outs c0__outMany.toNatClampNeg y3) (upd c0_losses c0__outMany.toNatClampNeg c0__loss)) := hD
        refine lv_iinc (v := (y2 + 1)) (lv' := [(2, .int (y2 + 1)), (0, .ref h0), (1, .int x1), (3, .int y3)]) hx hb dX9_runs_141 hl (k := 2) rfl rfl (by decide) rfl (fun ls hl => ?_)
        refine lv_goto (tgt := 21) hx hb dX9_runs_144 (by decide) ?_
        exact ih (y2 + 1) c0__all c0__v c0__loss c0__isOver (c0__outMany + (1:Int32)) c0__overMany z1 c0_p (upd c0_outs c0__outMany.toNatClampNeg y3) (upd c0_losses c0__outMany.toNatClampNeg c0__loss) p0_0 p0_1 p0_2 p0_3 p0_4 p0_5 p0_6 p0_7 p0_8 p0_9 _ _ _ hP hD hS (lv_sub hl [1, 2, 0] rfl) hok K
      have J_81 : ∀ (y2 : Int32) (y3 : Int32) (z1 : Int32) (z2 : Int32) (c0__all : Int32) (c0__v : Int32) (c0__loss : Int32) (c0__isOver : Int32) (c0__outMany : Int32) (c0__overMany : Int32) (c0__isHalted : Int32) (c0_p : Nat → Int32) (c0_outs : Nat → Int32) (c0_losses : Nat → Int32) (H : Heap) (locs : List Loc) (ls : Array Slot), va_P G vwCl (wm_X9_runs cA h0 h0_g h0_p h0_rows h0_rows_e h0_sizes h0_outs h0_losses h0_kept h0_changed h0_causes h0_sorts h0_moved h0_levelOf h0_levelOften h0_to h0_round h0_tail h0_path h0_leastOn h0_period h0_amplitude h0_basin h0_numbered h0_isReached h0_tape h0_told h0_traced s0__isKept s0__done s0__undoable s0__redoable c0__all c0__v c0__loss c0__isOver s0__hasCauses c0__outMany c0__overMany c0__isHalted s0__levelMany s0__rounds s0__stuck s0__onRounds s0__longest s0__loudest s0__reached s0__isAnyOver s0__taped s0__at s0__ran s0_g c0_p s0_rows_e s0_sizes c0_outs c0_losses) H → va_D A (wm_X9_runs cA h0 h0_g h0_p h0_rows h0_rows_e h0_sizes h0_outs h0_losses h0_kept h0_changed h0_causes h0_sorts h0_moved h0_levelOf h0_levelOften h0_to h0_round h0_tail h0_path h0_leastOn h0_period h0_amplitude h0_basin h0_numbered h0_isReached h0_tape h0_told h0_traced s0__isKept s0__done s0__undoable s0__redoable c0__all c0__v c0__loss c0__isOver s0__hasCauses c0__outMany c0__overMany c0__isHalted s0__levelMany s0__rounds s0__stuck s0__onRounds s0__longest s0__loudest s0__reached s0__isAnyOver s0__taped s0__at s0__ran s0_g c0_p s0_rows_e s0_sizes c0_outs c0_losses) → va_S A s.heap H locs → lv_has ls 4 [(0, .ref h0), (1, .int x1), (2, .int y2), (3, .int y3)] → fX9_runs_j81 x1 s0_g s0_rows_e s0_sizes (fX9_runs_L21 x1 s0_g s0_rows_e s0_sizes n) y2 y3 z1 z2 c0__all c0__v c0__loss c0__isOver c0__outMany c0__overMany c0__isHalted c0_p c0_outs c0_losses = some (p0_0, p0_1, p0_2, p0_3, p0_4, p0_5, p0_6, p0_7, p0_8, p0_9) → W p l e (rmX 4 111) s m ar below meth c H locs 0 0 Q (F0 m 81 ls [.int z2, .int z1, .ref h0]) := by
        intro y2 y3 z1 z2 c0__all c0__v c0__loss c0__isOver c0__outMany c0__overMany c0__isHalted c0_p c0_outs c0_losses H locs ls hP hD hS hl hok
        unfold fX9_runs_j81 at hok
        refine lv_iadd hx hb dX9_runs_81 ?_
        refine va_put (D := G) (ci := 9) (v := .int (z1 + z2)) (ty := .int) (C := RX9) (T := TX9) (N := 49) hx hb hts hinX9 tyX9 tyX9_ok nmX9 hown hK hP hD hS 0 rfl rfl 21 (by decide) (hts _ (List.mem_of_getElem? (i := 2) rfl)) (fun _ h9 => h9) rfl (by decide +kernel) rfl rfl (Nat.le_of_ble_eq_true rfl) dX9_runs_82 (fun H locs hP hD hS => ?_)
        have hP : va_P G vwCl (wm_X9_runs cA h0 h0_g h0_p h0_rows h0_rows_e h0_sizes h0_outs h0_losses h0_kept h0_changed h0_causes h0_sorts h0_moved h0_levelOf h0_levelOften h0_to h0_round h0_tail h0_path h0_leastOn h0_period h0_amplitude h0_basin h0_numbered h0_isReached h0_tape h0_told h0_traced s0__isKept s0__done s0__undoable s0__redoable c0__all c0__v c0__loss c0__isOver s0__hasCauses c0__outMany (z1 + z2) c0__isHalted s0__levelMany s0__rounds s0__stuck s0__onRounds s0__longest s0__loudest s0__reached s0__isAnyOver s0__taped s0__at s0__ran s0_g c0_p s0_rows_e s0_sizes c0_outs c0_losses) H := hP
        have hD : va_D A (wm_X9_runs cA h0 h0_g h0_p h0_rows h0_rows_e h0_sizes h0_outs h0_losses h0_kept h0_changed h0_causes h0_sorts h0_moved h0_levelOf h0_levelOften h0_to h0_round h0_tail h0_path h0_leastOn h0_period h0_amplitude h0_basin h0_numbered h0_isReached h0_tape h0_told h0_traced s0__isKept s0__done s0__undoable s0__redoable c0__all c0__v c0__loss c0__isOver s0__hasCauses c0__outMany (z1 + z2) c0__isHalted s0__levelMany s0__rounds s0__stuck s0__onRounds s0__longest s0__loudest s0__reached s0__isAnyOver s0__taped s0__at s0__ran s0_g c0_p s0_rows_e s0_sizes c0_outs c0_losses) := hD
        refine lv_aload_n hx hb dX9_runs_85 rfl (lv_at hl 0 rfl) ?_
        refine lv_iload_n hx hb dX9_runs_86 rfl (lv_at hl 3 rfl) ?_
        refine lv_sipush (v := -1005) hx hb dX9_runs_87 (by decide) ?_
        refine lv_icmp_ne (tgt := 97) hx hb dX9_runs_90 (by decide) (fun c => ?_) (fun c => ?_)
        · replace hok := g_neg hok c
          refine lv_iconst (v := 0) hx hb dX9_runs_97 (by decide) ?_
          exact J_98 y2 y3 (0:Int32) c0__all c0__v c0__loss c0__isOver c0__outMany (z1 + z2) c0__isHalted c0_p c0_outs c0_losses _ _ _ hP hD hS (lv_sub hl [0, 1, 2, 3] rfl) hok
        replace hok := g_pos hok c
        refine lv_iconst (v := 1) hx hb dX9_runs_93 (by decide) ?_
        refine lv_goto (tgt := 98) hx hb dX9_runs_94 (by decide) ?_
        exact J_98 y2 y3 (1:Int32) c0__all c0__v c0__loss c0__isOver c0__outMany (z1 + z2) c0__isHalted c0_p c0_outs c0_losses _ _ _ hP hD hS (lv_sub hl [0, 1, 2, 3] rfl) hok
      refine lv_iload_n hx hb dX9_runs_21 rfl (lv_at hl 2 rfl) ?_
      refine lv_aload_n hx hb dX9_runs_22 rfl (lv_at hl 0 rfl) ?_
      refine va_get (ci := 9) (v := .ref h0_sizes) (C := RX9) (T := TX9) (N := 49) hx hb hts hinX9 hown hK hP 0 rfl rfl 16 (by decide) (hts _ (List.mem_of_getElem? (i := 4) rfl)) (fun _ h9 => h9) rfl dX9_runs_23 ?_
      refine lv_iload_n hx hb dX9_runs_26 rfl (lv_at hl 1 rfl) ?_
      obtain ⟨hin, hok⟩ := g_no hok
      refine x_iald (k := x1.toNatClampNeg) hx hb hK hP 8 0 rfl rfl hin rfl dX9_runs_27 ?_
      refine lv_icmp_ge (tgt := 147) hx hb dX9_runs_28 (by decide) (fun c => ?_) (fun c => ?_)
      · replace hok := g_pos hok c
        cases hok
        exact K _ _ _ hP hD hS (lv_sub hl [] rfl)
      replace hok := g_neg hok c
      refine lv_aload_n hx hb dX9_runs_31 rfl (lv_at hl 0 rfl) ?_
      refine va_get (ci := 9) (v := .int c0__isHalted) (C := RX9) (T := TX9) (N := 49) hx hb hts hinX9 hown hK hP 0 rfl rfl 22 (by decide) (hts _ (List.mem_of_getElem? (i := 3) rfl)) (fun _ h9 => h9) rfl dX9_runs_32 ?_
      refine lv_if_ne (tgt := 147) hx hb dX9_runs_35 (by decide) (fun c => ?_) (fun c => ?_)
      · replace hok := g_neg hok c
        cases hok
        exact K _ _ _ hP hD hS (lv_sub hl [] rfl)
      replace hok := g_pos hok c
      refine lv_aload_n hx hb dX9_runs_38 rfl (lv_at hl 0 rfl) ?_
      refine lv_ldc2 (v := -99) hx hb hown (hts _ (List.mem_of_getElem? (i := 5) rfl)) dX9_runs_39 ?_
      refine lv_ldc2 (v := 99) hx hb hown (hts _ (List.mem_of_getElem? (i := 6) rfl)) dX9_runs_42 ?_
      refine lv_aload_n hx hb dX9_runs_45 rfl (lv_at hl 0 rfl) ?_
      refine va_get (ci := 9) (v := .ref h0_rows) (C := RX9) (T := TX9) (N := 49) hx hb hts hinX9 hown hK hP 0 rfl rfl 14 (by decide) (hts _ (List.mem_of_getElem? (i := 7) rfl)) (fun _ h9 => h9) rfl dX9_runs_46 ?_
      refine lv_iload_n hx hb dX9_runs_49 rfl (lv_at hl 1 rfl) ?_
      obtain ⟨hin2, hok⟩ := g_no hok
      refine x_aalda hx hb hK hP 3 6 rfl rfl hin2 dX9_runs_50 ?_
      refine W.eq (congrArg (fun z => F0 m 51 ls (z :: [.long (99:Int64), .long (-99:Int64), .ref h0])) (rf_at (Nat.not_le.mp fun q => hin2 (Or.inr q)))) ?_
      refine lv_iload_n hx hb dX9_runs_51 rfl (lv_at hl 2 rfl) ?_
      obtain ⟨hin, hok⟩ := g_no hok
      refine x_lald (cA := cA 1) (n := 40) (f := (s0_rows_e x1.toNatClampNeg)) (k := y2.toNatClampNeg) hx hb hK hP (4 + 1 * x1.toNatClampNeg) 1 (by rcases lt4 (Nat.not_le.mp fun q => hin2 (Or.inr q)) with e | e | e | e <;> rw [e] <;> rfl) rfl hin rfl dX9_runs_52 ?_
      refine va_mmin_long hx hb (hml.trans hl.1.symm) hown (hts _ (List.mem_of_getElem? (i := 8) rfl)) (hts _ (List.mem_of_getElem? (i := 9) rfl)) (hts _ (List.mem_of_getElem? (i := 10) rfl)) (hts _ (List.mem_of_getElem? (i := 11) rfl)) (Nat.le_of_ble_eq_true rfl) (Nat.le_of_ble_eq_true rfl) (Nat.zero_le _) (Nat.zero_le _) dX9_runs_53 ?_
      refine va_mmax_long hx hb (hml.trans hl.1.symm) hown (hts _ (List.mem_of_getElem? (i := 12) rfl)) (hts _ (List.mem_of_getElem? (i := 13) rfl)) (hts _ (List.mem_of_getElem? (i := 10) rfl)) (hts _ (List.mem_of_getElem? (i := 14) rfl)) (Nat.le_of_ble_eq_true rfl) (Nat.le_of_ble_eq_true rfl) (Nat.zero_le _) (Nat.zero_le _) dX9_runs_56 ?_
      refine lv_l2i (v := ((if (if ((s0_rows_e x1.toNatClampNeg) y2.toNatClampNeg) < (99:Int64) then ((s0_rows_e x1.toNatClampNeg) y2.toNatClampNeg) else (99:Int64)) < (-99:Int64) then (-99:Int64) else (if ((s0_rows_e x1.toNatClampNeg) y2.toNatClampNeg) < (99:Int64) then ((s0_rows_e x1.toNatClampNeg) y2.toNatClampNeg) else (99:Int64))).toInt32)) hx hb dX9_runs_59 rfl ?_
      obtain ⟨r3, o4, o5, o6, o7, o8, hq, hok⟩ := g_bnd6 hok
      refine cG (is := [0, 1, 2]) (wc := (wm_X9_begins cA h0 h0_g h0_p h0_kept h0_changed h0_causes h0_rows h0_sorts h0_sizes h0_moved h0_outs h0_losses h0_levelOf h0_levelOften h0_to h0_round h0_tail h0_path h0_leastOn h0_period h0_amplitude h0_basin h0_numbered h0_isReached h0_tape h0_told h0_traced s0__isKept s0__done s0__undoable s0__redoable c0__all c0__v c0__loss c0__isOver s0__hasCauses c0__outMany c0__overMany c0__isHalted s0__levelMany s0__rounds s0__stuck s0__onRounds s0__longest s0__loudest s0__reached s0__isAnyOver s0__taped s0__at s0__ran s0_g c0_p)) (w1 := (wm_X9_begins cA h0 h0_g h0_p h0_kept h0_changed h0_causes h0_rows h0_sorts h0_sizes h0_moved h0_outs h0_losses h0_levelOf h0_levelOften h0_to h0_round h0_tail h0_path h0_leastOn h0_period h0_amplitude h0_basin h0_numbered h0_isReached h0_tape h0_told h0_traced s0__isKept s0__done s0__undoable s0__redoable o4 o5 o6 o7 s0__hasCauses c0__outMany c0__overMany c0__isHalted s0__levelMany s0__rounds s0__stuck s0__onRounds s0__longest s0__loudest s0__reached s0__isAnyOver s0__taped s0__at s0__ran s0_g o8)) (rv := (some (.int r3))) (st1 := [.int r3]) (va_runV (Ts := wsX9_runs) (As := [.int ((if (if ((s0_rows_e x1.toNatClampNeg) y2.toNatClampNeg) < (99:Int64) then ((s0_rows_e x1.toNatClampNeg) y2.toNatClampNeg) else (99:Int64)) < (-99:Int64) then (-99:Int64) else (if ((s0_rows_e x1.toNatClampNeg) y2.toNatClampNeg) < (99:Int64) then ((s0_rows_e x1.toNatClampNeg) y2.toNatClampNeg) else (99:Int64))).toInt32)]) (rest := []) ⟨hx, hb, hml, hown, hts⟩ (c_X9_steps l G cA ts h0 h0_g h0_p h0_kept h0_changed h0_causes h0_rows h0_sorts h0_sizes h0_moved h0_outs h0_losses h0_levelOf h0_levelOften h0_to h0_round h0_tail h0_path h0_leastOn h0_period h0_amplitude h0_basin h0_numbered h0_isReached h0_tape h0_told h0_traced ((if (if ((s0_rows_e x1.toNatClampNeg) y2.toNatClampNeg) < (99:Int64) then ((s0_rows_e x1.toNatClampNeg) y2.toNatClampNeg) else (99:Int64)) < (-99:Int64) then (-99:Int64) else (if ((s0_rows_e x1.toNatClampNeg) y2.toNatClampNeg) < (99:Int64) then ((s0_rows_e x1.toNatClampNeg) y2.toNatClampNeg) else (99:Int64))).toInt32) s0__isKept s0__done s0__undoable s0__redoable c0__all c0__v c0__loss c0__isOver s0__hasCauses c0__outMany c0__overMany c0__isHalted s0__levelMany s0__rounds s0__stuck s0__onRounds s0__longest s0__loudest s0__reached s0__isAnyOver s0__taped s0__at s0__ran s0_g c0_p r3 o4 o5 o6 o7 o8 hq H.size) (cwV 1 hts gX9_runs_X9_steps rfl rfl rfl (by decide +kernel) ⟨Nat.le_of_ble_eq_true rfl, Nat.le_of_ble_eq_true rfl⟩) (pre_V (ci := 9) (q0 := 0) (is := [0, 1, 2]) rfl rfl hP hD hS hA hK hZ (by decide +kernel) (by rfl)) rfl rfl hl.1 rfl (by exact lv_room (Nat.le_of_ble_eq_true rfl)) dX9_runs_60 ⟨Nat.le_refl _, Nat.le_refl _⟩) hP hD hS hA (by decide +kernel) (by rfl) (by rfl) rfl (fun H locs hP hD hS => ?_)
      have hP : va_P G vwCl (wm_X9_runs cA h0 h0_g h0_p h0_rows h0_rows_e h0_sizes h0_outs h0_losses h0_kept h0_changed h0_causes h0_sorts h0_moved h0_levelOf h0_levelOften h0_to h0_round h0_tail h0_path h0_leastOn h0_period h0_amplitude h0_basin h0_numbered h0_isReached h0_tape h0_told h0_traced s0__isKept s0__done s0__undoable s0__redoable o4 o5 o6 o7 s0__hasCauses c0__outMany c0__overMany c0__isHalted s0__levelMany s0__rounds s0__stuck s0__onRounds s0__longest s0__loudest s0__reached s0__isAnyOver s0__taped s0__at s0__ran s0_g o8 s0_rows_e s0_sizes c0_outs c0_losses) H := hP
      have hD : va_D A (wm_X9_runs cA h0 h0_g h0_p h0_rows h0_rows_e h0_sizes h0_outs h0_losses h0_kept h0_changed h0_causes h0_sorts h0_moved h0_levelOf h0_levelOften h0_to h0_round h0_tail h0_path h0_leastOn h0_period h0_amplitude h0_basin h0_numbered h0_isReached h0_tape h0_told h0_traced s0__isKept s0__done s0__undoable s0__redoable o4 o5 o6 o7 s0__hasCauses c0__outMany c0__overMany c0__isHalted s0__levelMany s0__rounds s0__stuck s0__onRounds s0__longest s0__loudest s0__reached s0__isAnyOver s0__taped s0__at s0__ran s0_g o8 s0_rows_e s0_sizes c0_outs c0_losses) := hD
      refine lv_istore_n (lv' := [(3, .int r3), (0, .ref h0), (1, .int x1), (2, .int y2)]) hx hb dX9_runs_63 rfl hl (by decide) rfl (fun ls hl => ?_)
      refine lv_aload_n hx hb dX9_runs_64 rfl (lv_at hl 1 rfl) ?_
      refine lv_dup hx hb dX9_runs_65 rfl ?_
      refine va_get (ci := 9) (v := .int c0__overMany) (C := RX9) (T := TX9) (N := 49) hx hb hts hinX9 hown hK hP 0 rfl rfl 21 (by decide) (hts _ (List.mem_of_getElem? (i := 2) rfl)) (fun _ h9 => h9) rfl dX9_runs_66 ?_
      refine lv_aload_n hx hb dX9_runs_69 rfl (lv_at hl 1 rfl) ?_
      refine va_get (ci := 9) (v := .int o7) (C := RX9) (T := TX9) (N := 49) hx hb hts hinX9 hown hK hP 0 rfl rfl 11 (by decide) (hts _ (List.mem_of_getElem? (i := 15) rfl)) (fun _ h9 => h9) rfl dX9_runs_70 ?_
      refine lv_if_eq (tgt := 80) hx hb dX9_runs_73 (by decide) (fun c => ?_) (fun c => ?_)
      · replace hok := g_pos hok c
        refine lv_iconst (v := 0) hx hb dX9_runs_80 (by decide) ?_
        exact J_81 y2 r3 c0__overMany (0:Int32) o4 o5 o6 o7 c0__outMany c0__overMany c0__isHalted o8 c0_outs c0_losses _ _ _ hP hD hS (lv_sub hl [1, 2, 3, 0] rfl) hok
      replace hok := g_neg hok c
      refine lv_iconst (v := 1) hx hb dX9_runs_76 (by decide) ?_
      refine lv_goto (tgt := 81) hx hb dX9_runs_77 (by decide) ?_
      exact J_81 y2 r3 c0__overMany (1:Int32) o4 o5 o6 o7 c0__outMany c0__overMany c0__isHalted o8 c0_outs c0_losses _ _ _ hP hD hS (lv_sub hl [1, 2, 3, 0] rfl) hok
  unfold fX9_runs at hok
  refine lv_aload_n hx hb dX9_runs_0 rfl (lv_at hl 0 rfl) ?_
  obtain ⟨o1, hq, hok⟩ := g_bnd1 hok
  refine cG (is := [0, 1, 2]) (wc := (wm_X9_begins cA h0 h0_g h0_p h0_kept h0_changed h0_causes h0_rows h0_sorts h0_sizes h0_moved h0_outs h0_losses h0_levelOf h0_levelOften h0_to h0_round h0_tail h0_path h0_leastOn h0_period h0_amplitude h0_basin h0_numbered h0_isReached h0_tape h0_told h0_traced s0__isKept s0__done s0__undoable s0__redoable s0__all s0__v s0__loss s0__isOver s0__hasCauses s0__outMany s0__overMany s0__isHalted s0__levelMany s0__rounds s0__stuck s0__onRounds s0__longest s0__loudest s0__reached s0__isAnyOver s0__taped s0__at s0__ran s0_g s0_p)) (w1 := (wm_X9_begins cA h0 h0_g h0_p h0_kept h0_changed h0_causes h0_rows h0_sorts h0_sizes h0_moved h0_outs h0_losses h0_levelOf h0_levelOften h0_to h0_round h0_tail h0_path h0_leastOn h0_period h0_amplitude h0_basin h0_numbered h0_isReached h0_tape h0_told h0_traced s0__isKept s0__done s0__undoable s0__redoable s0__all s0__v s0__loss s0__isOver s0__hasCauses s0__outMany s0__overMany s0__isHalted s0__levelMany s0__rounds s0__stuck s0__onRounds s0__longest s0__loudest s0__reached s0__isAnyOver s0__taped s0__at s0__ran s0_g o1)) (rv := none) (st1 := []) (va_runV (Ts := wsX9_runs) (As := []) (rest := []) ⟨hx, hb, hml, hown, hts⟩ (c_X9_begins l G cA ts h0 h0_g h0_p h0_kept h0_changed h0_causes h0_rows h0_sorts h0_sizes h0_moved h0_outs h0_losses h0_levelOf h0_levelOften h0_to h0_round h0_tail h0_path h0_leastOn h0_period h0_amplitude h0_basin h0_numbered h0_isReached h0_tape h0_told h0_traced s0__isKept s0__done s0__undoable s0__redoable s0__all s0__v s0__loss s0__isOver s0__hasCauses s0__outMany s0__overMany s0__isHalted s0__levelMany s0__rounds s0__stuck s0__onRounds s0__longest s0__loudest s0__reached s0__isAnyOver s0__taped s0__at s0__ran s0_g s0_p o1 hq s.heap.size) (cwV 0 hts gX9_runs_X9_begins rfl rfl rfl (by decide +kernel) ⟨Nat.le_of_ble_eq_true rfl, Nat.le_of_ble_eq_true rfl⟩) (pre_V (ci := 9) (q0 := 0) (is := [0, 1, 2]) rfl rfl hP hD hS hA hK hZ (by decide +kernel) (by rfl)) rfl rfl hl.1 rfl (by exact lv_room (Nat.le_of_ble_eq_true rfl)) dX9_runs_1 ⟨Nat.le_refl _, Nat.le_refl _⟩) hP hD hS hA (by decide +kernel) (by rfl) (by rfl) rfl (fun H locs hP hD hS => ?_)
  have hP : va_P G vwCl (wm_X9_runs cA h0 h0_g h0_p h0_rows h0_rows_e h0_sizes h0_outs h0_losses h0_kept h0_changed h0_causes h0_sorts h0_moved h0_levelOf h0_levelOften h0_to h0_round h0_tail h0_path h0_leastOn h0_period h0_amplitude h0_basin h0_numbered h0_isReached h0_tape h0_told h0_traced s0__isKept s0__done s0__undoable s0__redoable s0__all s0__v s0__loss s0__isOver s0__hasCauses s0__outMany s0__overMany s0__isHalted s0__levelMany s0__rounds s0__stuck s0__onRounds s0__longest s0__loudest s0__reached s0__isAnyOver s0__taped s0__at s0__ran s0_g o1 s0_rows_e s0_sizes s0_outs s0_losses) H := hP
  have hD : va_D A (wm_X9_runs cA h0 h0_g h0_p h0_rows h0_rows_e h0_sizes h0_outs h0_losses h0_kept h0_changed h0_causes h0_sorts h0_moved h0_levelOf h0_levelOften h0_to h0_round h0_tail h0_path h0_leastOn h0_period h0_amplitude h0_basin h0_numbered h0_isReached h0_tape h0_told h0_traced s0__isKept s0__done s0__undoable s0__redoable s0__all s0__v s0__loss s0__isOver s0__hasCauses s0__outMany s0__overMany s0__isHalted s0__levelMany s0__rounds s0__stuck s0__onRounds s0__longest s0__loudest s0__reached s0__isAnyOver s0__taped s0__at s0__ran s0_g o1 s0_rows_e s0_sizes s0_outs s0_losses) := hD
  refine lv_aload_n hx hb dX9_runs_4 rfl (lv_at hl 0 rfl) ?_
  refine lv_iconst (v := 0) hx hb dX9_runs_5 (by decide) ?_
  refine va_put (D := G) (ci := 9) (v := .int (0:Int32)) (ty := .int) (C := RX9) (T := TX9) (N := 49) hx hb hts hinX9 tyX9 tyX9_ok nmX9 hown hK hP hD hS 0 rfl rfl 20 (by decide) (hts _ (List.mem_of_getElem? (i := 1) rfl)) (fun _ h9 => h9) rfl (by decide +kernel) rfl rfl (Nat.le_of_ble_eq_true rfl) dX9_runs_6 (fun H locs hP hD hS => ?_)
  have hP : va_P G vwCl (wm_X9_runs cA h0 h0_g h0_p h0_rows h0_rows_e h0_sizes h0_outs h0_losses h0_kept h0_changed h0_causes h0_sorts h0_moved h0_levelOf h0_levelOften h0_to h0_round h0_tail h0_path h0_leastOn h0_period h0_amplitude h0_basin h0_numbered h0_isReached h0_tape h0_told h0_traced s0__isKept s0__done s0__undoable s0__redoable s0__all s0__v s0__loss s0__isOver s0__hasCauses (0:Int32) s0__overMany s0__isHalted s0__levelMany s0__rounds s0__stuck s0__onRounds s0__longest s0__loudest s0__reached s0__isAnyOver s0__taped s0__at s0__ran s0_g o1 s0_rows_e s0_sizes s0_outs s0_losses) H := hP
  have hD : va_D A (wm_X9_runs cA h0 h0_g h0_p h0_rows h0_rows_e h0_sizes h0_outs h0_losses h0_kept h0_changed h0_causes h0_sorts h0_moved h0_levelOf h0_levelOften h0_to h0_round h0_tail h0_path h0_leastOn h0_period h0_amplitude h0_basin h0_numbered h0_isReached h0_tape h0_told h0_traced s0__isKept s0__done s0__undoable s0__redoable s0__all s0__v s0__loss s0__isOver s0__hasCauses (0:Int32) s0__overMany s0__isHalted s0__levelMany s0__rounds s0__stuck s0__onRounds s0__longest s0__loudest s0__reached s0__isAnyOver s0__taped s0__at s0__ran s0_g o1 s0_rows_e s0_sizes s0_outs s0_losses) := hD
  refine lv_aload_n hx hb dX9_runs_9 rfl (lv_at hl 0 rfl) ?_
  refine lv_iconst (v := 0) hx hb dX9_runs_10 (by decide) ?_
  refine va_put (D := G) (ci := 9) (v := .int (0:Int32)) (ty := .int) (C := RX9) (T := TX9) (N := 49) hx hb hts hinX9 tyX9 tyX9_ok nmX9 hown hK hP hD hS 0 rfl rfl 21 (by decide) (hts _ (List.mem_of_getElem? (i := 2) rfl)) (fun _ h9 => h9) rfl (by decide +kernel) rfl rfl (Nat.le_of_ble_eq_true rfl) dX9_runs_11 (fun H locs hP hD hS => ?_)
  have hP : va_P G vwCl (wm_X9_runs cA h0 h0_g h0_p h0_rows h0_rows_e h0_sizes h0_outs h0_losses h0_kept h0_changed h0_causes h0_sorts h0_moved h0_levelOf h0_levelOften h0_to h0_round h0_tail h0_path h0_leastOn h0_period h0_amplitude h0_basin h0_numbered h0_isReached h0_tape h0_told h0_traced s0__isKept s0__done s0__undoable s0__redoable s0__all s0__v s0__loss s0__isOver s0__hasCauses (0:Int32) (0:Int32) s0__isHalted s0__levelMany s0__rounds s0__stuck s0__onRounds s0__longest s0__loudest s0__reached s0__isAnyOver s0__taped s0__at s0__ran s0_g o1 s0_rows_e s0_sizes s0_outs s0_losses) H := hP
  have hD : va_D A (wm_X9_runs cA h0 h0_g h0_p h0_rows h0_rows_e h0_sizes h0_outs h0_losses h0_kept h0_changed h0_causes h0_sorts h0_moved h0_levelOf h0_levelOften h0_to h0_round h0_tail h0_path h0_leastOn h0_period h0_amplitude h0_basin h0_numbered h0_isReached h0_tape h0_told h0_traced s0__isKept s0__done s0__undoable s0__redoable s0__all s0__v s0__loss s0__isOver s0__hasCauses (0:Int32) (0:Int32) s0__isHalted s0__levelMany s0__rounds s0__stuck s0__onRounds s0__longest s0__loudest s0__reached s0__isAnyOver s0__taped s0__at s0__ran s0_g o1 s0_rows_e s0_sizes s0_outs s0_losses) := hD
  refine lv_aload_n hx hb dX9_runs_14 rfl (lv_at hl 0 rfl) ?_
  refine lv_iconst (v := 0) hx hb dX9_runs_15 (by decide) ?_
  refine va_put (D := G) (ci := 9) (v := .int (0:Int32)) (ty := .boolean) (C := RX9) (T := TX9) (N := 49) hx hb hts hinX9 tyX9 tyX9_ok nmX9 hown hK hP hD hS 0 rfl rfl 22 (by decide) (hts _ (List.mem_of_getElem? (i := 3) rfl)) (fun _ h9 => h9) rfl (by decide +kernel) (by decide +kernel) (by decide +kernel) (Nat.le_of_ble_eq_true rfl) dX9_runs_16 (fun H locs hP hD hS => ?_)
  have hP : va_P G vwCl (wm_X9_runs cA h0 h0_g h0_p h0_rows h0_rows_e h0_sizes h0_outs h0_losses h0_kept h0_changed h0_causes h0_sorts h0_moved h0_levelOf h0_levelOften h0_to h0_round h0_tail h0_path h0_leastOn h0_period h0_amplitude h0_basin h0_numbered h0_isReached h0_tape h0_told h0_traced s0__isKept s0__done s0__undoable s0__redoable s0__all s0__v s0__loss s0__isOver s0__hasCauses (0:Int32) (0:Int32) (0:Int32) s0__levelMany s0__rounds s0__stuck s0__onRounds s0__longest s0__loudest s0__reached s0__isAnyOver s0__taped s0__at s0__ran s0_g o1 s0_rows_e s0_sizes s0_outs s0_losses) H := hP
  have hD : va_D A (wm_X9_runs cA h0 h0_g h0_p h0_rows h0_rows_e h0_sizes h0_outs h0_losses h0_kept h0_changed h0_causes h0_sorts h0_moved h0_levelOf h0_levelOften h0_to h0_round h0_tail h0_path h0_leastOn h0_period h0_amplitude h0_basin h0_numbered h0_isReached h0_tape h0_told h0_traced s0__isKept s0__done s0__undoable s0__redoable s0__all s0__v s0__loss s0__isOver s0__hasCauses (0:Int32) (0:Int32) (0:Int32) s0__levelMany s0__rounds s0__stuck s0__onRounds s0__longest s0__loudest s0__reached s0__isAnyOver s0__taped s0__at s0__ran s0_g o1 s0_rows_e s0_sizes s0_outs s0_losses) := hD
  refine lv_iconst (v := 0) hx hb dX9_runs_19 (by decide) ?_
  refine lv_istore_n (lv' := [(2, .int (0:Int32)), (0, .ref h0), (1, .int x1)]) hx hb dX9_runs_20 rfl hl (by decide) rfl (fun ls hl => ?_)
  obtain ⟨o9, o10, o11, o12, o13, o14, o15, o16, o17, o18, hq, hok⟩ := g_bnd10 hok
  refine L_21 FUEL (0:Int32) s0__all s0__v s0__loss s0__isOver (0:Int32) (0:Int32) (0:Int32) o1 s0_outs s0_losses o9 o10 o11 o12 o13 o14 o15 o16 o17 o18 _ _ _ hP hD hS (lv_sub hl [1, 2, 0] rfl) hq (fun H locs ls hP hD hS hl => ?_)
  cases hok
  exact cr_v hx hb hr hlocks hQ dX9_runs_147 hP hS
