set_option maxHeartbeats 40000000 in
set_option maxRecDepth 100000 in
theorem c_X9_roundedBy (l : Launch) (G : va_G) (cA : Nat → ClassId) (ts : Nat → Nat) (x0 : Int32) (x1 : Int32) (x2 : Int32) (r : Int32) (hok : fX9_roundedBy x0 x1 x2 = some r) : Ct l G cA ts yX9_roundedBy wsX9_roundedBy 2 62 [.int x0, .int x1, .int x2] (wm_X0_find cA) (wm_X0_find cA) (some (.int r)) := by
  refine Ct.intro (cc := cX9_roundedBy) (maxL := 6) (ret := some .int) (by decide +kernel) rfl (Nat.le_of_ble_eq_true rfl) ?_
  intro p e s m ar below meth c A Q hx hb hr hml hown hlocks hts hK hZ hA hQ hP hD hS ls hl
  have hown : s.vm.findClass RX9 = some m.cls := hown
  have hl : lv_has ls 6 [(0, .int x0), (1, .int x1), (2, .int x2)] := hl
  have hP : va_P G vwCl (wm_X0_find cA) s.heap := hP
  have hD : va_D A (wm_X0_find cA) := hD
  unfold fX9_roundedBy at hok
  refine lv_iconst (v := 1) hx hb dX9_roundedBy_0 (by decide) ?_
  refine lv_iload_n hx hb dX9_roundedBy_1 rfl (lv_at hl 1 rfl) ?_
  refine lv_ishl hx hb dX9_roundedBy_2 ?_
  refine lv_istore_n (lv' := [(3, .int ((1:Int32) <<< (x1 &&& 31))), (0, .int x0), (1, .int x1), (2, .int x2)]) hx hb dX9_roundedBy_3 rfl hl (by decide) rfl (fun ls hl => ?_)
  refine lv_iload_n hx hb dX9_roundedBy_4 rfl (lv_at hl 3 rfl) ?_
  refine lv_iload_n hx hb dX9_roundedBy_5 rfl (lv_at hl 0 rfl) ?_
  obtain ⟨r1, hq, hok⟩ := g_bnd1 hok
  refine cG (is := []) (wc := (wm_X0_find cA)) (w1 := (wm_X0_find cA)) (rv := (some (.int r1))) (st1 := [.int r1]) (va_runS (Ts := wsX9_roundedBy) (As := [.int x2, .int ((1:Int32) <<< (x1 &&& 31))]) (rest := []) ⟨hx, hb, hml, hown, hts⟩ (c_J9_floorDiv_7cf53 l G cA ts x2 ((1:Int32) <<< (x1 &&& 31)) r1 hq s.heap.size) (va_cwS 2 hts gX9_roundedBy_J9_floorDiv_7cf53 rfl rfl rfl (by decide +kernel) ⟨Nat.le_of_ble_eq_true rfl, Nat.le_of_ble_eq_true rfl⟩) (pre_S (is := []) hP hD hS hA hK hZ (by decide +kernel) (by rfl)) rfl rfl hl.1 rfl (by exact lv_room (Nat.le_of_ble_eq_true rfl)) dX9_roundedBy_6 ⟨Nat.le_refl _, Nat.le_refl _⟩) hP hD hS hA (by decide +kernel) (by rfl) (by rfl) rfl (fun H locs hP hD hS => ?_)
  have hP : va_P G vwCl (wm_X0_find cA) H := hP
  have hD : va_D A (wm_X0_find cA) := hD
  refine lv_istore (lv' := [(4, .int r1), (3, .int ((1:Int32) <<< (x1 &&& 31))), (0, .int x0), (1, .int x1), (2, .int x2)]) hx hb dX9_roundedBy_9 hl (by decide) rfl (fun ls hl => ?_)
  refine lv_iload_n hx hb dX9_roundedBy_11 rfl (lv_at hl 4 rfl) ?_
  refine lv_iload hx hb dX9_roundedBy_12 (lv_at hl 0 rfl) ?_
  refine lv_iload_n hx hb dX9_roundedBy_14 rfl (lv_at hl 1 rfl) ?_
  refine lv_imul hx hb dX9_roundedBy_15 ?_
  refine lv_isub hx hb dX9_roundedBy_16 ?_
  refine lv_istore (lv' := [(5, .int (x2 - (r1 * ((1:Int32) <<< (x1 &&& 31))))), (4, .int r1), (3, .int ((1:Int32) <<< (x1 &&& 31))), (0, .int x0), (1, .int x1), (2, .int x2)]) hx hb dX9_roundedBy_17 hl (by decide) rfl (fun ls hl => ?_)
  refine lv_iload_n hx hb dX9_roundedBy_19 rfl (lv_at hl 3 rfl) ?_
  by_cases c0 : x0 = 0
  · replace hok := g_pos hok c0
    have e9 : (x0).toInt = 0 := by rw [c0]; rfl
    refine lv_tableIn (tgt := 52) (off := 32) hx hb dX9_roundedBy_20 (by rw [e9]; decide) (by rw [e9]; decide) (by rw [e9]; rfl) (by decide) ?_
    refine lv_iload hx hb dX9_roundedBy_52 (lv_at hl 1 rfl) ?_
    cases hok
    exact cr_i hx hb hr hlocks hQ dX9_roundedBy_54 hP hS
  replace hok := g_neg hok c0
  by_cases c1 : x0 = 1
  · replace hok := g_pos hok c1
    have e9 : (x0).toInt = 1 := by rw [c1]; rfl
    refine lv_tableIn (tgt := 55) (off := 35) hx hb dX9_roundedBy_20 (by rw [e9]; decide) (by rw [e9]; decide) (by rw [e9]; rfl) (by decide) ?_
    refine lv_iload_n hx hb dX9_roundedBy_55 rfl (lv_at hl 5 rfl) ?_
    refine lv_iload_n hx hb dX9_roundedBy_56 rfl (lv_at hl 2 rfl) ?_
    obtain ⟨hin, hok⟩ := g_no hok
    refine lv_idiv hx hb dX9_roundedBy_57 hin ?_
    cases hok
    exact cr_i hx hb hr hlocks hQ dX9_roundedBy_58 hP hS
  replace hok := g_neg hok c1
  by_cases c2 : x0 = 2
  · replace hok := g_pos hok c2
    have e9 : (x0).toInt = 2 := by rw [c2]; rfl
    refine lv_tableIn (tgt := 59) (off := 39) hx hb dX9_roundedBy_20 (by rw [e9]; decide) (by rw [e9]; decide) (by rw [e9]; rfl) (by decide) ?_
    refine lv_iconst (v := 2) hx hb dX9_roundedBy_59 (by decide) ?_
    refine lv_iload hx hb dX9_roundedBy_60 (lv_at hl 0 rfl) ?_
    refine lv_imul hx hb dX9_roundedBy_62 ?_
    refine lv_iload_n hx hb dX9_roundedBy_63 rfl (lv_at hl 2 rfl) ?_
    refine lv_icmp_lt (tgt := 74) hx hb dX9_roundedBy_64 (by decide) (fun c => ?_) (fun c => ?_)
    · replace hok := g_pos hok c
      refine lv_iload hx hb dX9_roundedBy_74 (lv_at hl 1 rfl) ?_
      cases hok
      exact cr_i hx hb hr hlocks hQ dX9_roundedBy_76 hP hS
    replace hok := g_neg hok c
    refine lv_iload hx hb dX9_roundedBy_67 (lv_at hl 1 rfl) ?_
    refine lv_iconst (v := 1) hx hb dX9_roundedBy_69 (by decide) ?_
    refine lv_iadd hx hb dX9_roundedBy_70 ?_
    refine lv_goto (tgt := 76) hx hb dX9_roundedBy_71 (by decide) ?_
    cases hok
    exact cr_i hx hb hr hlocks hQ dX9_roundedBy_76 hP hS
  replace hok := g_neg hok c2
  by_cases c3 : x0 = 3
  · replace hok := g_pos hok c3
    have e9 : (x0).toInt = 3 := by rw [c3]; rfl
    refine lv_tableIn (tgt := 77) (off := 57) hx hb dX9_roundedBy_20 (by rw [e9]; decide) (by rw [e9]; decide) (by rw [e9]; rfl) (by decide) ?_
    refine lv_iconst (v := 2) hx hb dX9_roundedBy_77 (by decide) ?_
    refine lv_iload hx hb dX9_roundedBy_78 (lv_at hl 0 rfl) ?_
    refine lv_imul hx hb dX9_roundedBy_80 ?_
    refine lv_iload_n hx hb dX9_roundedBy_81 rfl (lv_at hl 2 rfl) ?_
    refine lv_icmp_ne (tgt := 102) hx hb dX9_roundedBy_82 (by decide) (fun c => ?_) (fun c => ?_)
    · replace hok := g_neg hok c
      refine lv_iconst (v := 2) hx hb dX9_roundedBy_102 (by decide) ?_
      refine lv_iload hx hb dX9_roundedBy_103 (lv_at hl 0 rfl) ?_
      refine lv_imul hx hb dX9_roundedBy_105 ?_
      refine lv_iload_n hx hb dX9_roundedBy_106 rfl (lv_at hl 2 rfl) ?_
      refine lv_icmp_le (tgt := 117) hx hb dX9_roundedBy_107 (by decide) (fun c => ?_) (fun c => ?_)
      · replace hok := g_pos hok c
        refine lv_iload hx hb dX9_roundedBy_117 (lv_at hl 1 rfl) ?_
        cases hok
        exact cr_i hx hb hr hlocks hQ dX9_roundedBy_119 hP hS
      replace hok := g_neg hok c
      refine lv_iload hx hb dX9_roundedBy_110 (lv_at hl 1 rfl) ?_
      refine lv_iconst (v := 1) hx hb dX9_roundedBy_112 (by decide) ?_
      refine lv_iadd hx hb dX9_roundedBy_113 ?_
      refine lv_goto (tgt := 119) hx hb dX9_roundedBy_114 (by decide) ?_
      cases hok
      exact cr_i hx hb hr hlocks hQ dX9_roundedBy_119 hP hS
    replace hok := g_pos hok c
    refine lv_iload hx hb dX9_roundedBy_85 (lv_at hl 1 rfl) ?_
    refine lv_iconst (v := 2) hx hb dX9_roundedBy_87 (by decide) ?_
    obtain ⟨hin, hok⟩ := g_no hok
    refine lv_irem hx hb dX9_roundedBy_88 hin ?_
    refine lv_if_ne (tgt := 97) hx hb dX9_roundedBy_89 (by decide) (fun c => ?_) (fun c => ?_)
    · replace hok := g_neg hok c
      refine lv_iload hx hb dX9_roundedBy_97 (lv_at hl 1 rfl) ?_
      refine lv_iconst (v := 1) hx hb dX9_roundedBy_99 (by decide) ?_
      refine lv_iadd hx hb dX9_roundedBy_100 ?_
      cases hok
      exact cr_i hx hb hr hlocks hQ dX9_roundedBy_101 hP hS
    replace hok := g_pos hok c
    refine lv_iload hx hb dX9_roundedBy_92 (lv_at hl 1 rfl) ?_
    refine lv_goto (tgt := 101) hx hb dX9_roundedBy_94 (by decide) ?_
    cases hok
    exact cr_i hx hb hr hlocks hQ dX9_roundedBy_101 hP hS
  replace hok := g_neg hok c3
  refine lv_tableOut (tgt := 120) hx hb dX9_roundedBy_20 (by have b0 := lv_neT (a := 0) c0 rfl; have b1 := lv_neT (a := 1) c1 rfl; have b2 := lv_neT (a := 2) c2 rfl; have b3 := lv_neT (a := 3) c3 rfl; omega) (by decide) ?_
  refine lv_iload hx hb dX9_roundedBy_120 (lv_at hl 0 rfl) ?_
  refine lv_if_ne (tgt := 130) hx hb dX9_roundedBy_122 (by decide) (fun c => ?_) (fun c => ?_)
  · replace hok := g_neg hok c
    refine lv_iload_n hx hb dX9_roundedBy_130 rfl (lv_at hl 5 rfl) ?_
    refine lv_if_le (tgt := 141) hx hb dX9_roundedBy_131 (by decide) (fun c => ?_) (fun c => ?_)
    · replace hok := g_pos hok c
      refine lv_iload hx hb dX9_roundedBy_141 (lv_at hl 1 rfl) ?_
      cases hok
      exact cr_i hx hb hr hlocks hQ dX9_roundedBy_143 hP hS
    replace hok := g_neg hok c
    refine lv_iload hx hb dX9_roundedBy_134 (lv_at hl 1 rfl) ?_
    refine lv_iconst (v := 1) hx hb dX9_roundedBy_136 (by decide) ?_
    refine lv_iadd hx hb dX9_roundedBy_137 ?_
    refine lv_goto (tgt := 143) hx hb dX9_roundedBy_138 (by decide) ?_
    cases hok
    exact cr_i hx hb hr hlocks hQ dX9_roundedBy_143 hP hS
  replace hok := g_pos hok c
  refine lv_iload hx hb dX9_roundedBy_125 (lv_at hl 1 rfl) ?_
  refine lv_goto (tgt := 143) hx hb dX9_roundedBy_127 (by decide) ?_
  cases hok
  exact cr_i hx hb hr hlocks hQ dX9_roundedBy_143 hP hS
set_option maxHeartbeats 40000000 in
set_option maxRecDepth 100000 in
theorem c_X9_boundedBy (l : Launch) (G : va_G) (cA : Nat → ClassId) (ts : Nat → Nat) (h0 : Nat) (h0_g : Nat) (h0_kept : Nat) (h0_changed : Nat) (h0_p : Nat) (h0_causes : Nat) (h0_rows : Nat) (h0_sorts : Nat) (h0_sizes : Nat) (h0_moved : Nat) (h0_outs : Nat) (h0_losses : Nat) (h0_levelOf : Nat) (h0_levelOften : Nat) (h0_to : Nat) (h0_round : Nat) (h0_tail : Nat) (h0_path : Nat) (h0_leastOn : Nat) (h0_period : Nat) (h0_amplitude : Nat) (h0_basin : Nat) (h0_numbered : Nat) (h0_isReached : Nat) (h0_tape : Nat) (h0_told : Nat) (h0_traced : Nat) (x1 : Int32) (x2 : Int32) (x3 : Int32) (s0__isKept : Int32) (s0__done : Int32) (s0__undoable : Int32) (s0__redoable : Int32) (s0__all : Int32) (s0__v : Int32) (s0__loss : Int32) (s0__isOver : Int32) (s0__hasCauses : Int32) (s0__outMany : Int32) (s0__overMany : Int32) (s0__isHalted : Int32) (s0__levelMany : Int32) (s0__rounds : Int32) (s0__stuck : Int32) (s0__onRounds : Int32) (s0__longest : Int32) (s0__loudest : Int32) (s0__reached : Int32) (s0__isAnyOver : Int32) (s0__taped : Int32) (s0__at : Int32) (s0__ran : Int32) (s0_g : Nat → Int32) (r : Int32) (hok : fX9_boundedBy x1 x2 x3 s0_g = some r) : Ct l G cA ts yX9_boundedBy wsX9_boundedBy 2 62 [.ref h0, .int x1, .int x2, .int x3] (wm_X9_half cA h0 h0_g h0_kept h0_changed h0_p h0_causes h0_rows h0_sorts h0_sizes h0_moved h0_outs h0_losses h0_levelOf h0_levelOften h0_to h0_round h0_tail h0_path h0_leastOn h0_period h0_amplitude h0_basin h0_numbered h0_isReached h0_tape h0_told h0_traced s0__isKept s0__done s0__undoable s0__redoable s0__all s0__v s0__loss s0__isOver s0__hasCauses s0__outMany s0__overMany s0__isHalted s0__levelMany s0__rounds s0__stuck s0__onRounds s0__longest s0__loudest s0__reached s0__isAnyOver s0__taped s0__at s0__ran s0_g) (wm_X9_half cA h0 h0_g h0_kept h0_changed h0_p h0_causes h0_rows h0_sorts h0_sizes h0_moved h0_outs h0_losses h0_levelOf h0_levelOften h0_to h0_round h0_tail h0_path h0_leastOn h0_period h0_amplitude h0_basin h0_numbered h0_isReached h0_tape h0_told h0_traced s0__isKept s0__done s0__undoable s0__redoable s0__all s0__v s0__loss s0__isOver s0__hasCauses s0__outMany s0__overMany s0__isHalted s0__levelMany s0__rounds s0__stuck s0__onRounds s0__longest s0__loudest s0__reached s0__isAnyOver s0__taped s0__at s0__ran s0_g) (some (.int r)) := by
  refine Ct.intro (cc := cX9_boundedBy) (maxL := 4) (ret := some .int) (by decide +kernel) rfl (Nat.le_of_ble_eq_true rfl) ?_
  intro p e s m ar below meth c A Q hx hb hr hml hown hlocks hts hK hZ hA hQ hP hD hS ls hl
  have hown : s.vm.findClass RX9 = some m.cls := hown
  have hl : lv_has ls 4 [(0, .ref h0), (1, .int x1), (2, .int x2), (3, .int x3)] := hl
  have hP : va_P G vwCl (wm_X9_half cA h0 h0_g h0_kept h0_changed h0_p h0_causes h0_rows h0_sorts h0_sizes h0_moved h0_outs h0_losses h0_levelOf h0_levelOften h0_to h0_round h0_tail h0_path h0_leastOn h0_period h0_amplitude h0_basin h0_numbered h0_isReached h0_tape h0_told h0_traced s0__isKept s0__done s0__undoable s0__redoable s0__all s0__v s0__loss s0__isOver s0__hasCauses s0__outMany s0__overMany s0__isHalted s0__levelMany s0__rounds s0__stuck s0__onRounds s0__longest s0__loudest s0__reached s0__isAnyOver s0__taped s0__at s0__ran s0_g) s.heap := hP
  have hD : va_D A (wm_X9_half cA h0 h0_g h0_kept h0_changed h0_p h0_causes h0_rows h0_sorts h0_sizes h0_moved h0_outs h0_losses h0_levelOf h0_levelOften h0_to h0_round h0_tail h0_path h0_leastOn h0_period h0_amplitude h0_basin h0_numbered h0_isReached h0_tape h0_told h0_traced s0__isKept s0__done s0__undoable s0__redoable s0__all s0__v s0__loss s0__isOver s0__hasCauses s0__outMany s0__overMany s0__isHalted s0__levelMany s0__rounds s0__stuck s0__onRounds s0__longest s0__loudest s0__reached s0__isAnyOver s0__taped s0__at s0__ran s0_g) := hD
  unfold fX9_boundedBy at hok
  refine lv_iload_n hx hb dX9_boundedBy_0 rfl (lv_at hl 1 rfl) ?_
  by_cases c0 : x1 = 0
  · replace hok := g_pos hok c0
    have e9 : (x1).toInt = 0 := by rw [c0]; rfl
    refine lv_tableIn (tgt := 32) (off := 31) hx hb dX9_boundedBy_1 (by rw [e9]; decide) (by rw [e9]; decide) (by rw [e9]; rfl) (by decide) ?_
    refine lv_iload_n hx hb dX9_boundedBy_32 rfl (lv_at hl 2 rfl) ?_
    refine lv_aload_n hx hb dX9_boundedBy_33 rfl (lv_at hl 0 rfl) ?_
    obtain ⟨r1, hq, hok⟩ := g_bnd1 hok
    refine cG (is := [0, 1]) (wc := (wm_X9_half cA h0 h0_g h0_kept h0_changed h0_p h0_causes h0_rows h0_sorts h0_sizes h0_moved h0_outs h0_losses h0_levelOf h0_levelOften h0_to h0_round h0_tail h0_path h0_leastOn h0_period h0_amplitude h0_basin h0_numbered h0_isReached h0_tape h0_told h0_traced s0__isKept s0__done s0__undoable s0__redoable s0__all s0__v s0__loss s0__isOver s0__hasCauses s0__outMany s0__overMany s0__isHalted s0__levelMany s0__rounds s0__stuck s0__onRounds s0__longest s0__loudest s0__reached s0__isAnyOver s0__taped s0__at s0__ran s0_g)) (w1 := (wm_X9_half cA h0 h0_g h0_kept h0_changed h0_p h0_causes h0_rows h0_sorts h0_sizes h0_moved h0_outs h0_losses h0_levelOf h0_levelOften h0_to h0_round h0_tail h0_path h0_leastOn h0_period h0_amplitude h0_basin h0_numbered h0_isReached h0_tape h0_told h0_traced s0__isKept s0__done s0__undoable s0__redoable s0__all s0__v s0__loss s0__isOver s0__hasCauses s0__outMany s0__overMany s0__isHalted s0__levelMany s0__rounds s0__stuck s0__onRounds s0__longest s0__loudest s0__reached s0__isAnyOver s0__taped s0__at s0__ran s0_g)) (rv := (some (.int r1))) (st1 := [.int r1, .int x2]) (va_runV (Ts := wsX9_boundedBy) (As := []) (rest := [.int x2]) ⟨hx, hb, hml, hown, hts⟩ (c_X9_half l G cA ts h0 h0_g h0_kept h0_changed h0_p h0_causes h0_rows h0_sorts h0_sizes h0_moved h0_outs h0_losses h0_levelOf h0_levelOften h0_to h0_round h0_tail h0_path h0_leastOn h0_period h0_amplitude h0_basin h0_numbered h0_isReached h0_tape h0_told h0_traced s0__isKept s0__done s0__undoable s0__redoable s0__all s0__v s0__loss s0__isOver s0__hasCauses s0__outMany s0__overMany s0__isHalted s0__levelMany s0__rounds s0__stuck s0__onRounds s0__longest s0__loudest s0__reached s0__isAnyOver s0__taped s0__at s0__ran s0_g r1 hq s.heap.size) (cwV 0 hts gX9_boundedBy_X9_half rfl rfl rfl (by decide +kernel) ⟨Nat.le_of_ble_eq_true rfl, Nat.le_of_ble_eq_true rfl⟩) (pre_V (ci := 9) (q0 := 0) (is := [0, 1]) rfl rfl hP hD hS hA hK hZ (by decide +kernel) (by rfl)) rfl rfl hl.1 rfl (by exact lv_room (Nat.le_of_ble_eq_true rfl)) dX9_boundedBy_34 ⟨Nat.le_refl _, Nat.le_refl _⟩) hP hD hS hA (by decide +kernel) (by rfl) (by rfl) rfl (fun H locs hP hD hS => ?_)
    have hP : va_P G vwCl (wm_X9_half cA h0 h0_g h0_kept h0_changed h0_p h0_causes h0_rows h0_sorts h0_sizes h0_moved h0_outs h0_losses h0_levelOf h0_levelOften h0_to h0_round h0_tail h0_path h0_leastOn h0_period h0_amplitude h0_basin h0_numbered h0_isReached h0_tape h0_told h0_traced s0__isKept s0__done s0__undoable s0__redoable s0__all s0__v s0__loss s0__isOver s0__hasCauses s0__outMany s0__overMany s0__isHalted s0__levelMany s0__rounds s0__stuck s0__onRounds s0__longest s0__loudest s0__reached s0__isAnyOver s0__taped s0__at s0__ran s0_g) H := hP
    have hD : va_D A (wm_X9_half cA h0 h0_g h0_kept h0_changed h0_p h0_causes h0_rows h0_sorts h0_sizes h0_moved h0_outs h0_losses h0_levelOf h0_levelOften h0_to h0_round h0_tail h0_path h0_leastOn h0_period h0_amplitude h0_basin h0_numbered h0_isReached h0_tape h0_told h0_traced s0__isKept s0__done s0__undoable s0__redoable s0__all s0__v s0__loss s0__isOver s0__hasCauses s0__outMany s0__overMany s0__isHalted s0__levelMany s0__rounds s0__stuck s0__onRounds s0__longest s0__loudest s0__reached s0__isAnyOver s0__taped s0__at s0__ran s0_g) := hD
    refine lv_iadd hx hb dX9_boundedBy_37 ?_
    refine lv_iconst (v := 2) hx hb dX9_boundedBy_38 (by decide) ?_
    refine lv_aload_n hx hb dX9_boundedBy_39 rfl (lv_at hl 0 rfl) ?_
    obtain ⟨r2, hq, hok⟩ := g_bnd1 hok
    refine cG (is := [0, 1]) (wc := (wm_X9_half cA h0 h0_g h0_kept h0_changed h0_p h0_causes h0_rows h0_sorts h0_sizes h0_moved h0_outs h0_losses h0_levelOf h0_levelOften h0_to h0_round h0_tail h0_path h0_leastOn h0_period h0_amplitude h0_basin h0_numbered h0_isReached h0_tape h0_told h0_traced s0__isKept s0__done s0__undoable s0__redoable s0__all s0__v s0__loss s0__isOver s0__hasCauses s0__outMany s0__overMany s0__isHalted s0__levelMany s0__rounds s0__stuck s0__onRounds s0__longest s0__loudest s0__reached s0__isAnyOver s0__taped s0__at s0__ran s0_g)) (w1 := (wm_X9_half cA h0 h0_g h0_kept h0_changed h0_p h0_causes h0_rows h0_sorts h0_sizes h0_moved h0_outs h0_losses h0_levelOf h0_levelOften h0_to h0_round h0_tail h0_path h0_leastOn h0_period h0_amplitude h0_basin h0_numbered h0_isReached h0_tape h0_told h0_traced s0__isKept s0__done s0__undoable s0__redoable s0__all s0__v s0__loss s0__isOver s0__hasCauses s0__outMany s0__overMany s0__isHalted s0__levelMany s0__rounds s0__stuck s0__onRounds s0__longest s0__loudest s0__reached s0__isAnyOver s0__taped s0__at s0__ran s0_g)) (rv := (some (.int r2))) (st1 := [.int r2, .int (2:Int32), .int (x2 + r1)]) (va_runV (Ts := wsX9_boundedBy) (As := []) (rest := [.int (2:Int32), .int (x2 + r1)]) ⟨hx, hb, hml, hown, hts⟩ (c_X9_half l G cA ts h0 h0_g h0_kept h0_changed h0_p h0_causes h0_rows h0_sorts h0_sizes h0_moved h0_outs h0_losses h0_levelOf h0_levelOften h0_to h0_round h0_tail h0_path h0_leastOn h0_period h0_amplitude h0_basin h0_numbered h0_isReached h0_tape h0_told h0_traced s0__isKept s0__done s0__undoable s0__redoable s0__all s0__v s0__loss s0__isOver s0__hasCauses s0__outMany s0__overMany s0__isHalted s0__levelMany s0__rounds s0__stuck s0__onRounds s0__longest s0__loudest s0__reached s0__isAnyOver s0__taped s0__at s0__ran s0_g r2 hq H.size) (cwV 0 hts gX9_boundedBy_X9_half rfl rfl rfl (by decide +kernel) ⟨Nat.le_of_ble_eq_true rfl, Nat.le_of_ble_eq_true rfl⟩) (pre_V (ci := 9) (q0 := 0) (is := [0, 1]) rfl rfl hP hD hS hA hK hZ (by decide +kernel) (by rfl)) rfl rfl hl.1 rfl (by exact lv_room (Nat.le_of_ble_eq_true rfl)) dX9_boundedBy_40 ⟨Nat.le_refl _, Nat.le_refl _⟩) hP hD hS hA (by decide +kernel) (by rfl) (by rfl) rfl (fun H locs hP hD hS => ?_)
    have hP : va_P G vwCl (wm_X9_half cA h0 h0_g h0_kept h0_changed h0_p h0_causes h0_rows h0_sorts h0_sizes h0_moved h0_outs h0_losses h0_levelOf h0_levelOften h0_to h0_round h0_tail h0_path h0_leastOn h0_period h0_amplitude h0_basin h0_numbered h0_isReached h0_tape h0_told h0_traced s0__isKept s0__done s0__undoable s0__redoable s0__all s0__v s0__loss s0__isOver s0__hasCauses s0__outMany s0__overMany s0__isHalted s0__levelMany s0__rounds s0__stuck s0__onRounds s0__longest s0__loudest s0__reached s0__isAnyOver s0__taped s0__at s0__ran s0_g) H := hP
    have hD : va_D A (wm_X9_half cA h0 h0_g h0_kept h0_changed h0_p h0_causes h0_rows h0_sorts h0_sizes h0_moved h0_outs h0_losses h0_levelOf h0_levelOften h0_to h0_round h0_tail h0_path h0_leastOn h0_period h0_amplitude h0_basin h0_numbered h0_isReached h0_tape h0_told h0_traced s0__isKept s0__done s0__undoable s0__redoable s0__all s0__v s0__loss s0__isOver s0__hasCauses s0__outMany s0__overMany s0__isHalted s0__levelMany s0__rounds s0__stuck s0__onRounds s0__longest s0__loudest s0__reached s0__isAnyOver s0__taped s0__at s0__ran s0_g) := hD
    refine lv_imul hx hb dX9_boundedBy_43 ?_
    obtain ⟨r3, hq, hok⟩ := g_bnd1 hok
    refine cG (is := []) (wc := (wm_X0_find cA)) (w1 := (wm_X0_find cA)) (rv := (some (.int r3))) (st1 := [.int r3]) (va_runS (Ts := wsX9_boundedBy) (As := [.int (x2 + r1), .int ((2:Int32) * r2)]) (rest := []) ⟨hx, hb, hml, hown, hts⟩ (c_J9_floorMod_7cf53 l G cA ts (x2 + r1) ((2:Int32) * r2) r3 hq H.size) (va_cwS 2 hts gX9_boundedBy_J9_floorMod_7cf53 rfl rfl rfl (by decide +kernel) ⟨Nat.le_of_ble_eq_true rfl, Nat.le_of_ble_eq_true rfl⟩) (pre_S (is := []) hP hD hS hA hK hZ (by decide +kernel) (by rfl)) rfl rfl hl.1 rfl (by exact lv_room (Nat.le_of_ble_eq_true rfl)) dX9_boundedBy_44 ⟨Nat.le_refl _, Nat.le_refl _⟩) hP hD hS hA (by decide +kernel) (by rfl) (by rfl) rfl (fun H locs hP hD hS => ?_)
    have hP : va_P G vwCl (wm_X9_half cA h0 h0_g h0_kept h0_changed h0_p h0_causes h0_rows h0_sorts h0_sizes h0_moved h0_outs h0_losses h0_levelOf h0_levelOften h0_to h0_round h0_tail h0_path h0_leastOn h0_period h0_amplitude h0_basin h0_numbered h0_isReached h0_tape h0_told h0_traced s0__isKept s0__done s0__undoable s0__redoable s0__all s0__v s0__loss s0__isOver s0__hasCauses s0__outMany s0__overMany s0__isHalted s0__levelMany s0__rounds s0__stuck s0__onRounds s0__longest s0__loudest s0__reached s0__isAnyOver s0__taped s0__at s0__ran s0_g) H := hP
    have hD : va_D A (wm_X9_half cA h0 h0_g h0_kept h0_changed h0_p h0_causes h0_rows h0_sorts h0_sizes h0_moved h0_outs h0_losses h0_levelOf h0_levelOften h0_to h0_round h0_tail h0_path h0_leastOn h0_period h0_amplitude h0_basin h0_numbered h0_isReached h0_tape h0_told h0_traced s0__isKept s0__done s0__undoable s0__redoable s0__all s0__v s0__loss s0__isOver s0__hasCauses s0__outMany s0__overMany s0__isHalted s0__levelMany s0__rounds s0__stuck s0__onRounds s0__longest s0__loudest s0__reached s0__isAnyOver s0__taped s0__at s0__ran s0_g) := hD
    refine lv_aload_n hx hb dX9_boundedBy_47 rfl (lv_at hl 0 rfl) ?_
    obtain ⟨r4, hq, hok⟩ := g_bnd1 hok
    refine cG (is := [0, 1]) (wc := (wm_X9_half cA h0 h0_g h0_kept h0_changed h0_p h0_causes h0_rows h0_sorts h0_sizes h0_moved h0_outs h0_losses h0_levelOf h0_levelOften h0_to h0_round h0_tail h0_path h0_leastOn h0_period h0_amplitude h0_basin h0_numbered h0_isReached h0_tape h0_told h0_traced s0__isKept s0__done s0__undoable s0__redoable s0__all s0__v s0__loss s0__isOver s0__hasCauses s0__outMany s0__overMany s0__isHalted s0__levelMany s0__rounds s0__stuck s0__onRounds s0__longest s0__loudest s0__reached s0__isAnyOver s0__taped s0__at s0__ran s0_g)) (w1 := (wm_X9_half cA h0 h0_g h0_kept h0_changed h0_p h0_causes h0_rows h0_sorts h0_sizes h0_moved h0_outs h0_losses h0_levelOf h0_levelOften h0_to h0_round h0_tail h0_path h0_leastOn h0_period h0_amplitude h0_basin h0_numbered h0_isReached h0_tape h0_told h0_traced s0__isKept s0__done s0__undoable s0__redoable s0__all s0__v s0__loss s0__isOver s0__hasCauses s0__outMany s0__overMany s0__isHalted s0__levelMany s0__rounds s0__stuck s0__onRounds s0__longest s0__loudest s0__reached s0__isAnyOver s0__taped s0__at s0__ran s0_g)) (rv := (some (.int r4))) (st1 := [.int r4, .int r3]) (va_runV (Ts := wsX9_boundedBy) (As := []) (rest := [.int r3]) ⟨hx, hb, hml, hown, hts⟩ (c_X9_half l G cA ts h0 h0_g h0_kept h0_changed h0_p h0_causes h0_rows h0_sorts h0_sizes h0_moved h0_outs h0_losses h0_levelOf h0_levelOften h0_to h0_round h0_tail h0_path h0_leastOn h0_period h0_amplitude h0_basin h0_numbered h0_isReached h0_tape h0_told h0_traced s0__isKept s0__done s0__undoable s0__redoable s0__all s0__v s0__loss s0__isOver s0__hasCauses s0__outMany s0__overMany s0__isHalted s0__levelMany s0__rounds s0__stuck s0__onRounds s0__longest s0__loudest s0__reached s0__isAnyOver s0__taped s0__at s0__ran s0_g r4 hq H.size) (cwV 0 hts gX9_boundedBy_X9_half rfl rfl rfl (by decide +kernel) ⟨Nat.le_of_ble_eq_true rfl, Nat.le_of_ble_eq_true rfl⟩) (pre_V (ci := 9) (q0 := 0) (is := [0, 1]) rfl rfl hP hD hS hA hK hZ (by decide +kernel) (by rfl)) rfl rfl hl.1 rfl (by exact lv_room (Nat.le_of_ble_eq_true rfl)) dX9_boundedBy_48 ⟨Nat.le_refl _, Nat.le_refl _⟩) hP hD hS hA (by decide +kernel) (by rfl) (by rfl) rfl (fun H locs hP hD hS => ?_)
    have hP : va_P G vwCl (wm_X9_half cA h0 h0_g h0_kept h0_changed h0_p h0_causes h0_rows h0_sorts h0_sizes h0_moved h0_outs h0_losses h0_levelOf h0_levelOften h0_to h0_round h0_tail h0_path h0_leastOn h0_period h0_amplitude h0_basin h0_numbered h0_isReached h0_tape h0_told h0_traced s0__isKept s0__done s0__undoable s0__redoable s0__all s0__v s0__loss s0__isOver s0__hasCauses s0__outMany s0__overMany s0__isHalted s0__levelMany s0__rounds s0__stuck s0__onRounds s0__longest s0__loudest s0__reached s0__isAnyOver s0__taped s0__at s0__ran s0_g) H := hP
    have hD : va_D A (wm_X9_half cA h0 h0_g h0_kept h0_changed h0_p h0_causes h0_rows h0_sorts h0_sizes h0_moved h0_outs h0_losses h0_levelOf h0_levelOften h0_to h0_round h0_tail h0_path h0_leastOn h0_period h0_amplitude h0_basin h0_numbered h0_isReached h0_tape h0_told h0_traced s0__isKept s0__done s0__undoable s0__redoable s0__all s0__v s0__loss s0__isOver s0__hasCauses s0__outMany s0__overMany s0__isHalted s0__levelMany s0__rounds s0__stuck s0__onRounds s0__longest s0__loudest s0__reached s0__isAnyOver s0__taped s0__at s0__ran s0_g) := hD
    refine lv_isub hx hb dX9_boundedBy_51 ?_
    cases hok
    exact cr_i hx hb hr hlocks hQ dX9_boundedBy_52 hP hS
  replace hok := g_neg hok c0
  by_cases c1 : x1 = 1
  · replace hok := g_pos hok c1
    have e9 : (x1).toInt = 1 := by rw [c1]; rfl
    refine lv_tableIn (tgt := 53) (off := 52) hx hb dX9_boundedBy_1 (by rw [e9]; decide) (by rw [e9]; decide) (by rw [e9]; rfl) (by decide) ?_
    refine lv_iload_n hx hb dX9_boundedBy_53 rfl (lv_at hl 2 rfl) ?_
    refine lv_if_ge (tgt := 65) hx hb dX9_boundedBy_54 (by decide) (fun c => ?_) (fun c => ?_)
    · replace hok := g_pos hok c
      refine lv_aload_n hx hb dX9_boundedBy_65 rfl (lv_at hl 0 rfl) ?_
      obtain ⟨r5, hq, hok⟩ := g_bnd1 hok
      refine cG (is := [0, 1]) (wc := (wm_X9_half cA h0 h0_g h0_kept h0_changed h0_p h0_causes h0_rows h0_sorts h0_sizes h0_moved h0_outs h0_losses h0_levelOf h0_levelOften h0_to h0_round h0_tail h0_path h0_leastOn h0_period h0_amplitude h0_basin h0_numbered h0_isReached h0_tape h0_told h0_traced s0__isKept s0__done s0__undoable s0__redoable s0__all s0__v s0__loss s0__isOver s0__hasCauses s0__outMany s0__overMany s0__isHalted s0__levelMany s0__rounds s0__stuck s0__onRounds s0__longest s0__loudest s0__reached s0__isAnyOver s0__taped s0__at s0__ran s0_g)) (w1 := (wm_X9_half cA h0 h0_g h0_kept h0_changed h0_p h0_causes h0_rows h0_sorts h0_sizes h0_moved h0_outs h0_losses h0_levelOf h0_levelOften h0_to h0_round h0_tail h0_path h0_leastOn h0_period h0_amplitude h0_basin h0_numbered h0_isReached h0_tape h0_told h0_traced s0__isKept s0__done s0__undoable s0__redoable s0__all s0__v s0__loss s0__isOver s0__hasCauses s0__outMany s0__overMany s0__isHalted s0__levelMany s0__rounds s0__stuck s0__onRounds s0__longest s0__loudest s0__reached s0__isAnyOver s0__taped s0__at s0__ran s0_g)) (rv := (some (.int r5))) (st1 := [.int r5]) (va_runV (Ts := wsX9_boundedBy) (As := []) (rest := []) ⟨hx, hb, hml, hown, hts⟩ (c_X9_half l G cA ts h0 h0_g h0_kept h0_changed h0_p h0_causes h0_rows h0_sorts h0_sizes h0_moved h0_outs h0_losses h0_levelOf h0_levelOften h0_to h0_round h0_tail h0_path h0_leastOn h0_period h0_amplitude h0_basin h0_numbered h0_isReached h0_tape h0_told h0_traced s0__isKept s0__done s0__undoable s0__redoable s0__all s0__v s0__loss s0__isOver s0__hasCauses s0__outMany s0__overMany s0__isHalted s0__levelMany s0__rounds s0__stuck s0__onRounds s0__longest s0__loudest s0__reached s0__isAnyOver s0__taped s0__at s0__ran s0_g r5 hq s.heap.size) (cwV 0 hts gX9_boundedBy_X9_half rfl rfl rfl (by decide +kernel) ⟨Nat.le_of_ble_eq_true rfl, Nat.le_of_ble_eq_true rfl⟩) (pre_V (ci := 9) (q0 := 0) (is := [0, 1]) rfl rfl hP hD hS hA hK hZ (by decide +kernel) (by rfl)) rfl rfl hl.1 rfl (by exact lv_room (Nat.le_of_ble_eq_true rfl)) dX9_boundedBy_66 ⟨Nat.le_refl _, Nat.le_refl _⟩) hP hD hS hA (by decide +kernel) (by rfl) (by rfl) rfl (fun H locs hP hD hS => ?_)
      have hP : va_P G vwCl (wm_X9_half cA h0 h0_g h0_kept h0_changed h0_p h0_causes h0_rows h0_sorts h0_sizes h0_moved h0_outs h0_losses h0_levelOf h0_levelOften h0_to h0_round h0_tail h0_path h0_leastOn h0_period h0_amplitude h0_basin h0_numbered h0_isReached h0_tape h0_told h0_traced s0__isKept s0__done s0__undoable s0__redoable s0__all s0__v s0__loss s0__isOver s0__hasCauses s0__outMany s0__overMany s0__isHalted s0__levelMany s0__rounds s0__stuck s0__onRounds s0__longest s0__loudest s0__reached s0__isAnyOver s0__taped s0__at s0__ran s0_g) H := hP
      have hD : va_D A (wm_X9_half cA h0 h0_g h0_kept h0_changed h0_p h0_causes h0_rows h0_sorts h0_sizes h0_moved h0_outs h0_losses h0_levelOf h0_levelOften h0_to h0_round h0_tail h0_path h0_leastOn h0_period h0_amplitude h0_basin h0_numbered h0_isReached h0_tape h0_told h0_traced s0__isKept s0__done s0__undoable s0__redoable s0__all s0__v s0__loss s0__isOver s0__hasCauses s0__outMany s0__overMany s0__isHalted s0__levelMany s0__rounds s0__stuck s0__onRounds s0__longest s0__loudest s0__reached s0__isAnyOver s0__taped s0__at s0__ran s0_g) := hD
      refine lv_iconst (v := 1) hx hb dX9_boundedBy_69 (by decide) ?_
      refine lv_isub hx hb dX9_boundedBy_70 ?_
      cases hok
      exact cr_i hx hb hr hlocks hQ dX9_boundedBy_71 hP hS
    replace hok := g_neg hok c
    refine lv_aload_n hx hb dX9_boundedBy_57 rfl (lv_at hl 0 rfl) ?_
    obtain ⟨r6, hq, hok⟩ := g_bnd1 hok
    refine cG (is := [0, 1]) (wc := (wm_X9_half cA h0 h0_g h0_kept h0_changed h0_p h0_causes h0_rows h0_sorts h0_sizes h0_moved h0_outs h0_losses h0_levelOf h0_levelOften h0_to h0_round h0_tail h0_path h0_leastOn h0_period h0_amplitude h0_basin h0_numbered h0_isReached h0_tape h0_told h0_traced s0__isKept s0__done s0__undoable s0__redoable s0__all s0__v s0__loss s0__isOver s0__hasCauses s0__outMany s0__overMany s0__isHalted s0__levelMany s0__rounds s0__stuck s0__onRounds s0__longest s0__loudest s0__reached s0__isAnyOver s0__taped s0__at s0__ran s0_g)) (w1 := (wm_X9_half cA h0 h0_g h0_kept h0_changed h0_p h0_causes h0_rows h0_sorts h0_sizes h0_moved h0_outs h0_losses h0_levelOf h0_levelOften h0_to h0_round h0_tail h0_path h0_leastOn h0_period h0_amplitude h0_basin h0_numbered h0_isReached h0_tape h0_told h0_traced s0__isKept s0__done s0__undoable s0__redoable s0__all s0__v s0__loss s0__isOver s0__hasCauses s0__outMany s0__overMany s0__isHalted s0__levelMany s0__rounds s0__stuck s0__onRounds s0__longest s0__loudest s0__reached s0__isAnyOver s0__taped s0__at s0__ran s0_g)) (rv := (some (.int r6))) (st1 := [.int r6]) (va_runV (Ts := wsX9_boundedBy) (As := []) (rest := []) ⟨hx, hb, hml, hown, hts⟩ (c_X9_half l G cA ts h0 h0_g h0_kept h0_changed h0_p h0_causes h0_rows h0_sorts h0_sizes h0_moved h0_outs h0_losses h0_levelOf h0_levelOften h0_to h0_round h0_tail h0_path h0_leastOn h0_period h0_amplitude h0_basin h0_numbered h0_isReached h0_tape h0_told h0_traced s0__isKept s0__done s0__undoable s0__redoable s0__all s0__v s0__loss s0__isOver s0__hasCauses s0__outMany s0__overMany s0__isHalted s0__levelMany s0__rounds s0__stuck s0__onRounds s0__longest s0__loudest s0__reached s0__isAnyOver s0__taped s0__at s0__ran s0_g r6 hq s.heap.size) (cwV 0 hts gX9_boundedBy_X9_half rfl rfl rfl (by decide +kernel) ⟨Nat.le_of_ble_eq_true rfl, Nat.le_of_ble_eq_true rfl⟩) (pre_V (ci := 9) (q0 := 0) (is := [0, 1]) rfl rfl hP hD hS hA hK hZ (by decide +kernel) (by rfl)) rfl rfl hl.1 rfl (by exact lv_room (Nat.le_of_ble_eq_true rfl)) dX9_boundedBy_58 ⟨Nat.le_refl _, Nat.le_refl _⟩) hP hD hS hA (by decide +kernel) (by rfl) (by rfl) rfl (fun H locs hP hD hS => ?_)
    have hP : va_P G vwCl (wm_X9_half cA h0 h0_g h0_kept h0_changed h0_p h0_causes h0_rows h0_sorts h0_sizes h0_moved h0_outs h0_losses h0_levelOf h0_levelOften h0_to h0_round h0_tail h0_path h0_leastOn h0_period h0_amplitude h0_basin h0_numbered h0_isReached h0_tape h0_told h0_traced s0__isKept s0__done s0__undoable s0__redoable s0__all s0__v s0__loss s0__isOver s0__hasCauses s0__outMany s0__overMany s0__isHalted s0__levelMany s0__rounds s0__stuck s0__onRounds s0__longest s0__loudest s0__reached s0__isAnyOver s0__taped s0__at s0__ran s0_g) H := hP
    have hD : va_D A (wm_X9_half cA h0 h0_g h0_kept h0_changed h0_p h0_causes h0_rows h0_sorts h0_sizes h0_moved h0_outs h0_losses h0_levelOf h0_levelOften h0_to h0_round h0_tail h0_path h0_leastOn h0_period h0_amplitude h0_basin h0_numbered h0_isReached h0_tape h0_told h0_traced s0__isKept s0__done s0__undoable s0__redoable s0__all s0__v s0__loss s0__isOver s0__hasCauses s0__outMany s0__overMany s0__isHalted s0__levelMany s0__rounds s0__stuck s0__onRounds s0__longest s0__loudest s0__reached s0__isAnyOver s0__taped s0__at s0__ran s0_g) := hD
    refine lv_ineg hx hb dX9_boundedBy_61 ?_
    refine lv_goto (tgt := 71) hx hb dX9_boundedBy_62 (by decide) ?_
    cases hok
    exact cr_i hx hb hr hlocks hQ dX9_boundedBy_71 hP hS
  replace hok := g_neg hok c1
  by_cases c2 : x1 = 2
  · replace hok := g_pos hok c2
    have e9 : (x1).toInt = 2 := by rw [c2]; rfl
    refine lv_tableIn (tgt := 72) (off := 71) hx hb dX9_boundedBy_1 (by rw [e9]; decide) (by rw [e9]; decide) (by rw [e9]; rfl) (by decide) ?_
    refine lv_iconst (v := 0) hx hb dX9_boundedBy_72 (by decide) ?_
    cases hok
    exact cr_i hx hb hr hlocks hQ dX9_boundedBy_73 hP hS
  replace hok := g_neg hok c2
  by_cases c3 : x1 = 3
  · replace hok := g_pos hok c3
    have e9 : (x1).toInt = 3 := by rw [c3]; rfl
    refine lv_tableIn (tgt := 74) (off := 73) hx hb dX9_boundedBy_1 (by rw [e9]; decide) (by rw [e9]; decide) (by rw [e9]; rfl) (by decide) ?_
    refine lv_iload_n hx hb dX9_boundedBy_74 rfl (lv_at hl 3 rfl) ?_
    cases hok
    exact cr_i hx hb hr hlocks hQ dX9_boundedBy_75 hP hS
  replace hok := g_neg hok c3
  refine lv_tableOut (tgt := 76) hx hb dX9_boundedBy_1 (by have b0 := lv_neT (a := 0) c0 rfl; have b1 := lv_neT (a := 1) c1 rfl; have b2 := lv_neT (a := 2) c2 rfl; have b3 := lv_neT (a := 3) c3 rfl; omega) (by decide) ?_
  refine lv_sipush (v := -1005) hx hb dX9_boundedBy_76 (by decide) ?_
  cases hok
  exact cr_i hx hb hr hlocks hQ dX9_boundedBy_79 hP hS
set_option maxHeartbeats 40000000 in
set_option maxRecDepth 100000 in
theorem c_X9_rounded (l : Launch) (G : va_G) (cA : Nat → ClassId) (ts : Nat → Nat) (h0 : Nat) (x1 : Int32) (x2 : Int32) (x3 : Int32) (r : Int32) (hok : fX9_rounded x1 x2 x3 = some r) : Ct l G cA ts yX9_rounded wsX9_rounded 3 87 [.ref h0, .int x1, .int x2, .int x3] (wm_X8_rounded cA h0) (wm_X8_rounded cA h0) (some (.int r)) := by
  refine Ct.intro (cc := cX9_rounded) (maxL := 4) (ret := some .int) (by decide +kernel) rfl (Nat.le_of_ble_eq_true rfl) ?_
  intro p e s m ar below meth c A Q hx hb hr hml hown hlocks hts hK hZ hA hQ hP hD hS ls hl
  have hown : s.vm.findClass RX9 = some m.cls := hown
  have hl : lv_has ls 4 [(0, .ref h0), (1, .int x1), (2, .int x2), (3, .int x3)] := hl
  have hP : va_P G vwCl (wm_X8_rounded cA h0) s.heap := hP
  have hD : va_D A (wm_X8_rounded cA h0) := hD
  unfold fX9_rounded at hok
  refine lv_iload_n hx hb dX9_rounded_0 rfl (lv_at hl 1 rfl) ?_
  refine lv_i2l (v := (x1.toInt64)) hx hb dX9_rounded_1 rfl ?_
  refine lv_lconst (v := 0) hx hb dX9_rounded_2 (by decide) ?_
  refine lv_ldc2 (v := 4) hx hb hown (hts _ (List.mem_of_getElem? (i := 1) rfl)) dX9_rounded_3 ?_
  obtain ⟨r1, hq, hok⟩ := g_bnd1 hok
  refine cG (is := []) (wc := (wm_X0_find cA)) (w1 := (wm_X0_find cA)) (rv := (some (.int r1))) (st1 := [.int r1]) (va_runS (Ts := wsX9_rounded) (As := [.long (x1.toInt64), .long (0:Int64), .long (4:Int64)]) (rest := []) ⟨hx, hb, hml, hown, hts⟩ (c_X9_in l G cA ts (x1.toInt64) (0:Int64) (4:Int64) r1 hq s.heap.size) (va_cwS 3 hts gX9_rounded_X9_in rfl rfl rfl (by decide +kernel) ⟨Nat.le_of_ble_eq_true rfl, Nat.le_of_ble_eq_true rfl⟩) (pre_S (is := []) hP hD hS hA hK hZ (by decide +kernel) (by rfl)) rfl rfl hl.1 rfl (by exact lv_room (Nat.le_of_ble_eq_true rfl)) dX9_rounded_6 ⟨Nat.le_refl _, Nat.le_refl _⟩) hP hD hS hA (by decide +kernel) (by rfl) (by rfl) rfl (fun H locs hP hD hS => ?_)
  have hP : va_P G vwCl (wm_X8_rounded cA h0) H := hP
  have hD : va_D A (wm_X8_rounded cA h0) := hD
  refine lv_if_eq (tgt := 47) hx hb dX9_rounded_9 (by decide) (fun c => ?_) (fun c => ?_)
  · replace hok := g_pos hok c
    refine lv_ldc (v := -1000000) hx hb hown (hts _ (List.mem_of_getElem? (i := 5) rfl)) dX9_rounded_47 ?_
    cases hok
    exact cr_i hx hb hr hlocks hQ dX9_rounded_49 hP hS
  replace hok := g_neg hok c
  refine lv_iload_n hx hb dX9_rounded_12 rfl (lv_at hl 2 rfl) ?_
  refine lv_i2l (v := (x2.toInt64)) hx hb dX9_rounded_13 rfl ?_
  refine lv_lconst (v := 0) hx hb dX9_rounded_14 (by decide) ?_
  refine lv_ldc2 (v := 6) hx hb hown (hts _ (List.mem_of_getElem? (i := 2) rfl)) dX9_rounded_15 ?_
  obtain ⟨r2, hq, hok⟩ := g_bnd1 hok
  refine cG (is := []) (wc := (wm_X0_find cA)) (w1 := (wm_X0_find cA)) (rv := (some (.int r2))) (st1 := [.int r2]) (va_runS (Ts := wsX9_rounded) (As := [.long (x2.toInt64), .long (0:Int64), .long (6:Int64)]) (rest := []) ⟨hx, hb, hml, hown, hts⟩ (c_X9_in l G cA ts (x2.toInt64) (0:Int64) (6:Int64) r2 hq H.size) (va_cwS 3 hts gX9_rounded_X9_in rfl rfl rfl (by decide +kernel) ⟨Nat.le_of_ble_eq_true rfl, Nat.le_of_ble_eq_true rfl⟩) (pre_S (is := []) hP hD hS hA hK hZ (by decide +kernel) (by rfl)) rfl rfl hl.1 rfl (by exact lv_room (Nat.le_of_ble_eq_true rfl)) dX9_rounded_18 ⟨Nat.le_refl _, Nat.le_refl _⟩) hP hD hS hA (by decide +kernel) (by rfl) (by rfl) rfl (fun H locs hP hD hS => ?_)
  have hP : va_P G vwCl (wm_X8_rounded cA h0) H := hP
  have hD : va_D A (wm_X8_rounded cA h0) := hD
  refine lv_if_eq (tgt := 47) hx hb dX9_rounded_21 (by decide) (fun c => ?_) (fun c => ?_)
  · replace hok := g_pos hok c
    refine lv_ldc (v := -1000000) hx hb hown (hts _ (List.mem_of_getElem? (i := 5) rfl)) dX9_rounded_47 ?_
    cases hok
    exact cr_i hx hb hr hlocks hQ dX9_rounded_49 hP hS
  replace hok := g_neg hok c
  refine lv_iload_n hx hb dX9_rounded_24 rfl (lv_at hl 3 rfl) ?_
  refine lv_i2l (v := (x3.toInt64)) hx hb dX9_rounded_25 rfl ?_
  refine lv_ldc2 (v := -100000) hx hb hown (hts _ (List.mem_of_getElem? (i := 3) rfl)) dX9_rounded_26 ?_
  refine lv_ldc2 (v := 100000) hx hb hown (hts _ (List.mem_of_getElem? (i := 4) rfl)) dX9_rounded_29 ?_
  obtain ⟨r3, hq, hok⟩ := g_bnd1 hok
  refine cG (is := []) (wc := (wm_X0_find cA)) (w1 := (wm_X0_find cA)) (rv := (some (.int r3))) (st1 := [.int r3]) (va_runS (Ts := wsX9_rounded) (As := [.long (x3.toInt64), .long (-100000:Int64), .long (100000:Int64)]) (rest := []) ⟨hx, hb, hml, hown, hts⟩ (c_X9_in l G cA ts (x3.toInt64) (-100000:Int64) (100000:Int64) r3 hq H.size) (va_cwS 3 hts gX9_rounded_X9_in rfl rfl rfl (by decide +kernel) ⟨Nat.le_of_ble_eq_true rfl, Nat.le_of_ble_eq_true rfl⟩) (pre_S (is := []) hP hD hS hA hK hZ (by decide +kernel) (by rfl)) rfl rfl hl.1 rfl (by exact lv_room (Nat.le_of_ble_eq_true rfl)) dX9_rounded_32 ⟨Nat.le_refl _, Nat.le_refl _⟩) hP hD hS hA (by decide +kernel) (by rfl) (by rfl) rfl (fun H locs hP hD hS => ?_)
  have hP : va_P G vwCl (wm_X8_rounded cA h0) H := hP
  have hD : va_D A (wm_X8_rounded cA h0) := hD
  refine lv_if_eq (tgt := 47) hx hb dX9_rounded_35 (by decide) (fun c => ?_) (fun c => ?_)
  · replace hok := g_pos hok c
    refine lv_ldc (v := -1000000) hx hb hown (hts _ (List.mem_of_getElem? (i := 5) rfl)) dX9_rounded_47 ?_
    cases hok
    exact cr_i hx hb hr hlocks hQ dX9_rounded_49 hP hS
  replace hok := g_neg hok c
  refine lv_iload_n hx hb dX9_rounded_38 rfl (lv_at hl 1 rfl) ?_
  refine lv_iload_n hx hb dX9_rounded_39 rfl (lv_at hl 2 rfl) ?_
  refine lv_iload_n hx hb dX9_rounded_40 rfl (lv_at hl 3 rfl) ?_
  obtain ⟨r4, hq, hok⟩ := g_bnd1 hok
  refine cG (is := []) (wc := (wm_X0_find cA)) (w1 := (wm_X0_find cA)) (rv := (some (.int r4))) (st1 := [.int r4]) (va_runS (Ts := wsX9_rounded) (As := [.int x1, .int x2, .int x3]) (rest := []) ⟨hx, hb, hml, hown, hts⟩ (c_X9_roundedBy l G cA ts x1 x2 x3 r4 hq H.size) (va_cwS 3 hts gX9_rounded_X9_roundedBy rfl rfl rfl (by decide +kernel) ⟨Nat.le_of_ble_eq_true rfl, Nat.le_of_ble_eq_true rfl⟩) (pre_S (is := []) hP hD hS hA hK hZ (by decide +kernel) (by rfl)) rfl rfl hl.1 rfl (by exact lv_room (Nat.le_of_ble_eq_true rfl)) dX9_rounded_41 ⟨Nat.le_refl _, Nat.le_refl _⟩) hP hD hS hA (by decide +kernel) (by rfl) (by rfl) rfl (fun H locs hP hD hS => ?_)
  have hP : va_P G vwCl (wm_X8_rounded cA h0) H := hP
  have hD : va_D A (wm_X8_rounded cA h0) := hD
  refine lv_goto (tgt := 49) hx hb dX9_rounded_44 (by decide) ?_
  cases hok
  exact cr_i hx hb hr hlocks hQ dX9_rounded_49 hP hS
set_option maxHeartbeats 40000000 in
set_option maxRecDepth 100000 in
theorem c_X9_bounded (l : Launch) (G : va_G) (cA : Nat → ClassId) (ts : Nat → Nat) (h0 : Nat) (h0_g : Nat) (h0_kept : Nat) (h0_changed : Nat) (h0_p : Nat) (h0_causes : Nat) (h0_rows : Nat) (h0_sorts : Nat) (h0_sizes : Nat) (h0_moved : Nat) (h0_outs : Nat) (h0_losses : Nat) (h0_levelOf : Nat) (h0_levelOften : Nat) (h0_to : Nat) (h0_round : Nat) (h0_tail : Nat) (h0_path : Nat) (h0_leastOn : Nat) (h0_period : Nat) (h0_amplitude : Nat) (h0_basin : Nat) (h0_numbered : Nat) (h0_isReached : Nat) (h0_tape : Nat) (h0_told : Nat) (h0_traced : Nat) (x1 : Int32) (x2 : Int32) (s0__isKept : Int32) (s0__done : Int32) (s0__undoable : Int32) (s0__redoable : Int32) (s0__all : Int32) (s0__v : Int32) (s0__loss : Int32) (s0__isOver : Int32) (s0__hasCauses : Int32) (s0__outMany : Int32) (s0__overMany : Int32) (s0__isHalted : Int32) (s0__levelMany : Int32) (s0__rounds : Int32) (s0__stuck : Int32) (s0__onRounds : Int32) (s0__longest : Int32) (s0__loudest : Int32) (s0__reached : Int32) (s0__isAnyOver : Int32) (s0__taped : Int32) (s0__at : Int32) (s0__ran : Int32) (s0_g : Nat → Int32) (r : Int32) (hok : fX9_bounded x1 x2 s0_g = some r) : Ct l G cA ts yX9_bounded wsX9_bounded 3 87 [.ref h0, .int x1, .int x2] (wm_X9_half cA h0 h0_g h0_kept h0_changed h0_p h0_causes h0_rows h0_sorts h0_sizes h0_moved h0_outs h0_losses h0_levelOf h0_levelOften h0_to h0_round h0_tail h0_path h0_leastOn h0_period h0_amplitude h0_basin h0_numbered h0_isReached h0_tape h0_told h0_traced s0__isKept s0__done s0__undoable s0__redoable s0__all s0__v s0__loss s0__isOver s0__hasCauses s0__outMany s0__overMany s0__isHalted s0__levelMany s0__rounds s0__stuck s0__onRounds s0__longest s0__loudest s0__reached s0__isAnyOver s0__taped s0__at s0__ran s0_g) (wm_X9_half cA h0 h0_g h0_kept h0_changed h0_p h0_causes h0_rows h0_sorts h0_sizes h0_moved h0_outs h0_losses h0_levelOf h0_levelOften h0_to h0_round h0_tail h0_path h0_leastOn h0_period h0_amplitude h0_basin h0_numbered h0_isReached h0_tape h0_told h0_traced s0__isKept s0__done s0__undoable s0__redoable s0__all s0__v s0__loss s0__isOver s0__hasCauses s0__outMany s0__overMany s0__isHalted s0__levelMany s0__rounds s0__stuck s0__onRounds s0__longest s0__loudest s0__reached s0__isAnyOver s0__taped s0__at s0__ran s0_g) (some (.int r)) := by
  refine Ct.intro (cc := cX9_bounded) (maxL := 3) (ret := some .int) (by decide +kernel) rfl (Nat.le_of_ble_eq_true rfl) ?_
  intro p e s m ar below meth c A Q hx hb hr hml hown hlocks hts hK hZ hA hQ hP hD hS ls hl
  have hown : s.vm.findClass RX9 = some m.cls := hown
  have hinX9 : ∀ w ∈ wsX90, w ∈ wsX9_bounded := fun _ h => List.mem_cons_of_mem _ (List.mem_append_right _ (h))
  have hl : lv_has ls 3 [(0, .ref h0), (1, .int x1), (2, .int x2)] := hl
  have hP : va_P G vwCl (wm_X9_half cA h0 h0_g h0_kept h0_changed h0_p h0_causes h0_rows h0_sorts h0_sizes h0_moved h0_outs h0_losses h0_levelOf h0_levelOften h0_to h0_round h0_tail h0_path h0_leastOn h0_period h0_amplitude h0_basin h0_numbered h0_isReached h0_tape h0_told h0_traced s0__isKept s0__done s0__undoable s0__redoable s0__all s0__v s0__loss s0__isOver s0__hasCauses s0__outMany s0__overMany s0__isHalted s0__levelMany s0__rounds s0__stuck s0__onRounds s0__longest s0__loudest s0__reached s0__isAnyOver s0__taped s0__at s0__ran s0_g) s.heap := hP
  have hD : va_D A (wm_X9_half cA h0 h0_g h0_kept h0_changed h0_p h0_causes h0_rows h0_sorts h0_sizes h0_moved h0_outs h0_losses h0_levelOf h0_levelOften h0_to h0_round h0_tail h0_path h0_leastOn h0_period h0_amplitude h0_basin h0_numbered h0_isReached h0_tape h0_told h0_traced s0__isKept s0__done s0__undoable s0__redoable s0__all s0__v s0__loss s0__isOver s0__hasCauses s0__outMany s0__overMany s0__isHalted s0__levelMany s0__rounds s0__stuck s0__onRounds s0__longest s0__loudest s0__reached s0__isAnyOver s0__taped s0__at s0__ran s0_g) := hD
  unfold fX9_bounded at hok
  refine lv_iload_n hx hb dX9_bounded_0 rfl (lv_at hl 1 rfl) ?_
  refine lv_i2l (v := (x1.toInt64)) hx hb dX9_bounded_1 rfl ?_
  refine lv_lconst (v := 0) hx hb dX9_bounded_2 (by decide) ?_
  refine lv_ldc2 (v := 4) hx hb hown (hts _ (List.mem_of_getElem? (i := 1) rfl)) dX9_bounded_3 ?_
  obtain ⟨r1, hq, hok⟩ := g_bnd1 hok
  refine cG (is := []) (wc := (wm_X0_find cA)) (w1 := (wm_X0_find cA)) (rv := (some (.int r1))) (st1 := [.int r1]) (va_runS (Ts := wsX9_bounded) (As := [.long (x1.toInt64), .long (0:Int64), .long (4:Int64)]) (rest := []) ⟨hx, hb, hml, hown, hts⟩ (c_X9_in l G cA ts (x1.toInt64) (0:Int64) (4:Int64) r1 hq s.heap.size) (va_cwS 3 hts gX9_bounded_X9_in rfl rfl rfl (by decide +kernel) ⟨Nat.le_of_ble_eq_true rfl, Nat.le_of_ble_eq_true rfl⟩) (pre_S (is := []) hP hD hS hA hK hZ (by decide +kernel) (by rfl)) rfl rfl hl.1 rfl (by exact lv_room (Nat.le_of_ble_eq_true rfl)) dX9_bounded_6 ⟨Nat.le_refl _, Nat.le_refl _⟩) hP hD hS hA (by decide +kernel) (by rfl) (by rfl) rfl (fun H locs hP hD hS => ?_)
  have hP : va_P G vwCl (wm_X9_half cA h0 h0_g h0_kept h0_changed h0_p h0_causes h0_rows h0_sorts h0_sizes h0_moved h0_outs h0_losses h0_levelOf h0_levelOften h0_to h0_round h0_tail h0_path h0_leastOn h0_period h0_amplitude h0_basin h0_numbered h0_isReached h0_tape h0_told h0_traced s0__isKept s0__done s0__undoable s0__redoable s0__all s0__v s0__loss s0__isOver s0__hasCauses s0__outMany s0__overMany s0__isHalted s0__levelMany s0__rounds s0__stuck s0__onRounds s0__longest s0__loudest s0__reached s0__isAnyOver s0__taped s0__at s0__ran s0_g) H := hP
  have hD : va_D A (wm_X9_half cA h0 h0_g h0_kept h0_changed h0_p h0_causes h0_rows h0_sorts h0_sizes h0_moved h0_outs h0_losses h0_levelOf h0_levelOften h0_to h0_round h0_tail h0_path h0_leastOn h0_period h0_amplitude h0_basin h0_numbered h0_isReached h0_tape h0_told h0_traced s0__isKept s0__done s0__undoable s0__redoable s0__all s0__v s0__loss s0__isOver s0__hasCauses s0__outMany s0__overMany s0__isHalted s0__levelMany s0__rounds s0__stuck s0__onRounds s0__longest s0__loudest s0__reached s0__isAnyOver s0__taped s0__at s0__ran s0_g) := hD
  refine lv_if_eq (tgt := 26) hx hb dX9_bounded_9 (by decide) (fun c => ?_) (fun c => ?_)
  · replace hok := g_pos hok c
    refine lv_sipush (v := -1001) hx hb dX9_bounded_26 (by decide) ?_
    cases hok
    exact cr_i hx hb hr hlocks hQ dX9_bounded_29 hP hS
  replace hok := g_neg hok c
  refine lv_iload_n hx hb dX9_bounded_12 rfl (lv_at hl 2 rfl) ?_
  refine lv_i2l (v := (x2.toInt64)) hx hb dX9_bounded_13 rfl ?_
  refine lv_ldc2 (v := -100000) hx hb hown (hts _ (List.mem_of_getElem? (i := 2) rfl)) dX9_bounded_14 ?_
  refine lv_ldc2 (v := 100000) hx hb hown (hts _ (List.mem_of_getElem? (i := 3) rfl)) dX9_bounded_17 ?_
  obtain ⟨r2, hq, hok⟩ := g_bnd1 hok
  refine cG (is := []) (wc := (wm_X0_find cA)) (w1 := (wm_X0_find cA)) (rv := (some (.int r2))) (st1 := [.int r2]) (va_runS (Ts := wsX9_bounded) (As := [.long (x2.toInt64), .long (-100000:Int64), .long (100000:Int64)]) (rest := []) ⟨hx, hb, hml, hown, hts⟩ (c_X9_in l G cA ts (x2.toInt64) (-100000:Int64) (100000:Int64) r2 hq H.size) (va_cwS 3 hts gX9_bounded_X9_in rfl rfl rfl (by decide +kernel) ⟨Nat.le_of_ble_eq_true rfl, Nat.le_of_ble_eq_true rfl⟩) (pre_S (is := []) hP hD hS hA hK hZ (by decide +kernel) (by rfl)) rfl rfl hl.1 rfl (by exact lv_room (Nat.le_of_ble_eq_true rfl)) dX9_bounded_20 ⟨Nat.le_refl _, Nat.le_refl _⟩) hP hD hS hA (by decide +kernel) (by rfl) (by rfl) rfl (fun H locs hP hD hS => ?_)
  have hP : va_P G vwCl (wm_X9_half cA h0 h0_g h0_kept h0_changed h0_p h0_causes h0_rows h0_sorts h0_sizes h0_moved h0_outs h0_losses h0_levelOf h0_levelOften h0_to h0_round h0_tail h0_path h0_leastOn h0_period h0_amplitude h0_basin h0_numbered h0_isReached h0_tape h0_told h0_traced s0__isKept s0__done s0__undoable s0__redoable s0__all s0__v s0__loss s0__isOver s0__hasCauses s0__outMany s0__overMany s0__isHalted s0__levelMany s0__rounds s0__stuck s0__onRounds s0__longest s0__loudest s0__reached s0__isAnyOver s0__taped s0__at s0__ran s0_g) H := hP
  have hD : va_D A (wm_X9_half cA h0 h0_g h0_kept h0_changed h0_p h0_causes h0_rows h0_sorts h0_sizes h0_moved h0_outs h0_losses h0_levelOf h0_levelOften h0_to h0_round h0_tail h0_path h0_leastOn h0_period h0_amplitude h0_basin h0_numbered h0_isReached h0_tape h0_told h0_traced s0__isKept s0__done s0__undoable s0__redoable s0__all s0__v s0__loss s0__isOver s0__hasCauses s0__outMany s0__overMany s0__isHalted s0__levelMany s0__rounds s0__stuck s0__onRounds s0__longest s0__loudest s0__reached s0__isAnyOver s0__taped s0__at s0__ran s0_g) := hD
  refine lv_if_ne (tgt := 30) hx hb dX9_bounded_23 (by decide) (fun c => ?_) (fun c => ?_)
  · replace hok := g_neg hok c
    refine lv_aload_n hx hb dX9_bounded_30 rfl (lv_at hl 0 rfl) ?_
    refine lv_iload_n hx hb dX9_bounded_31 rfl (lv_at hl 2 rfl) ?_
    refine lv_i2l (v := (x2.toInt64)) hx hb dX9_bounded_32 rfl ?_
    obtain ⟨r3, hq, hok⟩ := g_bnd1 hok
    refine cG (is := [0, 1]) (wc := (wm_X9_half cA h0 h0_g h0_kept h0_changed h0_p h0_causes h0_rows h0_sorts h0_sizes h0_moved h0_outs h0_losses h0_levelOf h0_levelOften h0_to h0_round h0_tail h0_path h0_leastOn h0_period h0_amplitude h0_basin h0_numbered h0_isReached h0_tape h0_told h0_traced s0__isKept s0__done s0__undoable s0__redoable s0__all s0__v s0__loss s0__isOver s0__hasCauses s0__outMany s0__overMany s0__isHalted s0__levelMany s0__rounds s0__stuck s0__onRounds s0__longest s0__loudest s0__reached s0__isAnyOver s0__taped s0__at s0__ran s0_g)) (w1 := (wm_X9_half cA h0 h0_g h0_kept h0_changed h0_p h0_causes h0_rows h0_sorts h0_sizes h0_moved h0_outs h0_losses h0_levelOf h0_levelOften h0_to h0_round h0_tail h0_path h0_leastOn h0_period h0_amplitude h0_basin h0_numbered h0_isReached h0_tape h0_told h0_traced s0__isKept s0__done s0__undoable s0__redoable s0__all s0__v s0__loss s0__isOver s0__hasCauses s0__outMany s0__overMany s0__isHalted s0__levelMany s0__rounds s0__stuck s0__onRounds s0__longest s0__loudest s0__reached s0__isAnyOver s0__taped s0__at s0__ran s0_g)) (rv := (some (.int r3))) (st1 := [.int r3]) (va_runV (Ts := wsX9_bounded) (As := [.long (x2.toInt64)]) (rest := []) ⟨hx, hb, hml, hown, hts⟩ (c_X9_isWord l G cA ts h0 h0_g h0_kept h0_changed h0_p h0_causes h0_rows h0_sorts h0_sizes h0_moved h0_outs h0_losses h0_levelOf h0_levelOften h0_to h0_round h0_tail h0_path h0_leastOn h0_period h0_amplitude h0_basin h0_numbered h0_isReached h0_tape h0_told h0_traced (x2.toInt64) s0__isKept s0__done s0__undoable s0__redoable s0__all s0__v s0__loss s0__isOver s0__hasCauses s0__outMany s0__overMany s0__isHalted s0__levelMany s0__rounds s0__stuck s0__onRounds s0__longest s0__loudest s0__reached s0__isAnyOver s0__taped s0__at s0__ran s0_g r3 hq H.size) (cwV 1 hts gX9_bounded_X9_isWord rfl rfl rfl (by decide +kernel) ⟨Nat.le_of_ble_eq_true rfl, Nat.le_of_ble_eq_true rfl⟩) (pre_V (ci := 9) (q0 := 0) (is := [0, 1]) rfl rfl hP hD hS hA hK hZ (by decide +kernel) (by rfl)) rfl rfl hl.1 rfl (by exact lv_room (Nat.le_of_ble_eq_true rfl)) dX9_bounded_33 ⟨Nat.le_refl _, Nat.le_refl _⟩) hP hD hS hA (by decide +kernel) (by rfl) (by rfl) rfl (fun H locs hP hD hS => ?_)
    have hP : va_P G vwCl (wm_X9_half cA h0 h0_g h0_kept h0_changed h0_p h0_causes h0_rows h0_sorts h0_sizes h0_moved h0_outs h0_losses h0_levelOf h0_levelOften h0_to h0_round h0_tail h0_path h0_leastOn h0_period h0_amplitude h0_basin h0_numbered h0_isReached h0_tape h0_told h0_traced s0__isKept s0__done s0__undoable s0__redoable s0__all s0__v s0__loss s0__isOver s0__hasCauses s0__outMany s0__overMany s0__isHalted s0__levelMany s0__rounds s0__stuck s0__onRounds s0__longest s0__loudest s0__reached s0__isAnyOver s0__taped s0__at s0__ran s0_g) H := hP
    have hD : va_D A (wm_X9_half cA h0 h0_g h0_kept h0_changed h0_p h0_causes h0_rows h0_sorts h0_sizes h0_moved h0_outs h0_losses h0_levelOf h0_levelOften h0_to h0_round h0_tail h0_path h0_leastOn h0_period h0_amplitude h0_basin h0_numbered h0_isReached h0_tape h0_told h0_traced s0__isKept s0__done s0__undoable s0__redoable s0__all s0__v s0__loss s0__isOver s0__hasCauses s0__outMany s0__overMany s0__isHalted s0__levelMany s0__rounds s0__stuck s0__onRounds s0__longest s0__loudest s0__reached s0__isAnyOver s0__taped s0__at s0__ran s0_g) := hD
    refine lv_if_eq (tgt := 43) hx hb dX9_bounded_36 (by decide) (fun c => ?_) (fun c => ?_)
    · replace hok := g_pos hok c
      refine lv_aload_n hx hb dX9_bounded_43 rfl (lv_at hl 0 rfl) ?_
      refine lv_iload_n hx hb dX9_bounded_44 rfl (lv_at hl 1 rfl) ?_
      refine lv_iload_n hx hb dX9_bounded_45 rfl (lv_at hl 2 rfl) ?_
      refine lv_aload_n hx hb dX9_bounded_46 rfl (lv_at hl 0 rfl) ?_
      refine va_get (ci := 9) (v := .ref h0_g) (C := RX9) (T := TX9) (N := 49) hx hb hts hinX9 hown hK hP 0 rfl rfl 0 (by decide) (hts _ (List.mem_of_getElem? (i := 4) rfl)) (fun _ h9 => h9) rfl dX9_bounded_47 ?_
      refine lv_bipush (v := 10) hx hb dX9_bounded_50 (by decide) ?_
      refine x_iald (k := 10) hx hb hK hP 1 0 rfl rfl (show ¬ ((10:Int32) < 0 ∨ 13 ≤ (10:Int32).toNatClampNeg) by decide) (by decide) dX9_bounded_52 ?_
      obtain ⟨r4, hq, hok⟩ := g_bnd1 hok
      refine cG (is := [0, 1]) (wc := (wm_X9_half cA h0 h0_g h0_kept h0_changed h0_p h0_causes h0_rows h0_sorts h0_sizes h0_moved h0_outs h0_losses h0_levelOf h0_levelOften h0_to h0_round h0_tail h0_path h0_leastOn h0_period h0_amplitude h0_basin h0_numbered h0_isReached h0_tape h0_told h0_traced s0__isKept s0__done s0__undoable s0__redoable s0__all s0__v s0__loss s0__isOver s0__hasCauses s0__outMany s0__overMany s0__isHalted s0__levelMany s0__rounds s0__stuck s0__onRounds s0__longest s0__loudest s0__reached s0__isAnyOver s0__taped s0__at s0__ran s0_g)) (w1 := (wm_X9_half cA h0 h0_g h0_kept h0_changed h0_p h0_causes h0_rows h0_sorts h0_sizes h0_moved h0_outs h0_losses h0_levelOf h0_levelOften h0_to h0_round h0_tail h0_path h0_leastOn h0_period h0_amplitude h0_basin h0_numbered h0_isReached h0_tape h0_told h0_traced s0__isKept s0__done s0__undoable s0__redoable s0__all s0__v s0__loss s0__isOver s0__hasCauses s0__outMany s0__overMany s0__isHalted s0__levelMany s0__rounds s0__stuck s0__onRounds s0__longest s0__loudest s0__reached s0__isAnyOver s0__taped s0__at s0__ran s0_g)) (rv := (some (.int r4))) (st1 := [.int r4]) (va_runV (Ts := wsX9_bounded) (As := [.int x1, .int x2, .int (s0_g 10)]) (rest := []) ⟨hx, hb, hml, hown, hts⟩ (c_X9_boundedBy l G cA ts h0 h0_g h0_kept h0_changed h0_p h0_causes h0_rows h0_sorts h0_sizes h0_moved h0_outs h0_losses h0_levelOf h0_levelOften h0_to h0_round h0_tail h0_path h0_leastOn h0_period h0_amplitude h0_basin h0_numbered h0_isReached h0_tape h0_told h0_traced x1 x2 (s0_g 10) s0__isKept s0__done s0__undoable s0__redoable s0__all s0__v s0__loss s0__isOver s0__hasCauses s0__outMany s0__overMany s0__isHalted s0__levelMany s0__rounds s0__stuck s0__onRounds s0__longest s0__loudest s0__reached s0__isAnyOver s0__taped s0__at s0__ran s0_g r4 hq H.size) (cwV 3 hts gX9_bounded_X9_boundedBy rfl rfl rfl (by decide +kernel) ⟨Nat.le_of_ble_eq_true rfl, Nat.le_of_ble_eq_true rfl⟩) (pre_V (ci := 9) (q0 := 0) (is := [0, 1]) rfl rfl hP hD hS hA hK hZ (by decide +kernel) (by rfl)) rfl rfl hl.1 rfl (by exact lv_room (Nat.le_of_ble_eq_true rfl)) dX9_bounded_53 ⟨Nat.le_refl _, Nat.le_refl _⟩) hP hD hS hA (by decide +kernel) (by rfl) (by rfl) rfl (fun H locs hP hD hS => ?_)
      have hP : va_P G vwCl (wm_X9_half cA h0 h0_g h0_kept h0_changed h0_p h0_causes h0_rows h0_sorts h0_sizes h0_moved h0_outs h0_losses h0_levelOf h0_levelOften h0_to h0_round h0_tail h0_path h0_leastOn h0_period h0_amplitude h0_basin h0_numbered h0_isReached h0_tape h0_told h0_traced s0__isKept s0__done s0__undoable s0__redoable s0__all s0__v s0__loss s0__isOver s0__hasCauses s0__outMany s0__overMany s0__isHalted s0__levelMany s0__rounds s0__stuck s0__onRounds s0__longest s0__loudest s0__reached s0__isAnyOver s0__taped s0__at s0__ran s0_g) H := hP
      have hD : va_D A (wm_X9_half cA h0 h0_g h0_kept h0_changed h0_p h0_causes h0_rows h0_sorts h0_sizes h0_moved h0_outs h0_losses h0_levelOf h0_levelOften h0_to h0_round h0_tail h0_path h0_leastOn h0_period h0_amplitude h0_basin h0_numbered h0_isReached h0_tape h0_told h0_traced s0__isKept s0__done s0__undoable s0__redoable s0__all s0__v s0__loss s0__isOver s0__hasCauses s0__outMany s0__overMany s0__isHalted s0__levelMany s0__rounds s0__stuck s0__onRounds s0__longest s0__loudest s0__reached s0__isAnyOver s0__taped s0__at s0__ran s0_g) := hD
      cases hok
      exact cr_i hx hb hr hlocks hQ dX9_bounded_56 hP hS
    replace hok := g_neg hok c
    refine lv_iload_n hx hb dX9_bounded_39 rfl (lv_at hl 2 rfl) ?_
    refine lv_goto (tgt := 56) hx hb dX9_bounded_40 (by decide) ?_
    cases hok
    exact cr_i hx hb hr hlocks hQ dX9_bounded_56 hP hS
  replace hok := g_pos hok c
  refine lv_sipush (v := -1001) hx hb dX9_bounded_26 (by decide) ?_
  cases hok
  exact cr_i hx hb hr hlocks hQ dX9_bounded_29 hP hS
set_option maxHeartbeats 40000000 in
set_option maxRecDepth 100000 in
theorem c_X9_begins (l : Launch) (G : va_G) (cA : Nat → ClassId) (ts : Nat → Nat) (h0 : Nat) (h0_g : Nat) (h0_p : Nat) (h0_kept : Nat) (h0_changed : Nat) (h0_causes : Nat) (h0_rows : Nat) (h0_sorts : Nat) (h0_sizes : Nat) (h0_moved : Nat) (h0_outs : Nat) (h0_losses : Nat) (h0_levelOf : Nat) (h0_levelOften : Nat) (h0_to : Nat) (h0_round : Nat) (h0_tail : Nat) (h0_path : Nat) (h0_leastOn : Nat) (h0_period : Nat) (h0_amplitude : Nat) (h0_basin : Nat) (h0_numbered : Nat) (h0_isReached : Nat) (h0_tape : Nat) (h0_told : Nat) (h0_traced : Nat) (s0__isKept : Int32) (s0__done : Int32) (s0__undoable : Int32) (s0__redoable : Int32) (s0__all : Int32) (s0__v : Int32) (s0__loss : Int32) (s0__isOver : Int32) (s0__hasCauses : Int32) (s0__outMany : Int32) (s0__overMany : Int32) (s0__isHalted : Int32) (s0__levelMany : Int32) (s0__rounds : Int32) (s0__stuck : Int32) (s0__onRounds : Int32) (s0__longest : Int32) (s0__loudest : Int32) (s0__reached : Int32) (s0__isAnyOver : Int32) (s0__taped : Int32) (s0__at : Int32) (s0__ran : Int32) (s0_g : Nat → Int32) (s0_p : Nat → Int32) (o0_p : Nat → Int32) (hok : fX9_begins s0_g s0_p = some o0_p) : Ct l G cA ts yX9_begins wsX9_begins 1 40 [.ref h0] (wm_X9_begins cA h0 h0_g h0_p h0_kept h0_changed h0_causes h0_rows h0_sorts h0_sizes h0_moved h0_outs h0_losses h0_levelOf h0_levelOften h0_to h0_round h0_tail h0_path h0_leastOn h0_period h0_amplitude h0_basin h0_numbered h0_isReached h0_tape h0_told h0_traced s0__isKept s0__done s0__undoable s0__redoable s0__all s0__v s0__loss s0__isOver s0__hasCauses s0__outMany s0__overMany s0__isHalted s0__levelMany s0__rounds s0__stuck s0__onRounds s0__longest s0__loudest s0__reached s0__isAnyOver s0__taped s0__at s0__ran s0_g s0_p) (wm_X9_begins cA h0 h0_g h0_p h0_kept h0_changed h0_causes h0_rows h0_sorts h0_sizes h0_moved h0_outs h0_losses h0_levelOf h0_levelOften h0_to h0_round h0_tail h0_path h0_leastOn h0_period h0_amplitude h0_basin h0_numbered h0_isReached h0_tape h0_told h0_traced s0__isKept s0__done s0__undoable s0__redoable s0__all s0__v s0__loss s0__isOver s0__hasCauses s0__outMany s0__overMany s0__isHalted s0__levelMany s0__rounds s0__stuck s0__onRounds s0__longest s0__loudest s0__reached s0__isAnyOver s0__taped s0__at s0__ran s0_g o0_p) none := by
  refine Ct.intro (cc := cX9_begins) (maxL := 2) (ret := none) (by decide +kernel) rfl (Nat.le_of_ble_eq_true rfl) ?_
  intro p e s m ar below meth c A Q hx hb hr hml hown hlocks hts hK hZ hA hQ hP hD hS ls hl
  have hown : s.vm.findClass RX9 = some m.cls := hown
  have hinX9 : ∀ w ∈ wsX90, w ∈ wsX9_begins := fun _ h => List.mem_cons_of_mem _ (List.mem_append_right _ (h))
  have hl : lv_has ls 2 [(0, .ref h0)] := hl
  have hP : va_P G vwCl (wm_X9_begins cA h0 h0_g h0_p h0_kept h0_changed h0_causes h0_rows h0_sorts h0_sizes h0_moved h0_outs h0_losses h0_levelOf h0_levelOften h0_to h0_round h0_tail h0_path h0_leastOn h0_period h0_amplitude h0_basin h0_numbered h0_isReached h0_tape h0_told h0_traced s0__isKept s0__done s0__undoable s0__redoable s0__all s0__v s0__loss s0__isOver s0__hasCauses s0__outMany s0__overMany s0__isHalted s0__levelMany s0__rounds s0__stuck s0__onRounds s0__longest s0__loudest s0__reached s0__isAnyOver s0__taped s0__at s0__ran s0_g s0_p) s.heap := hP
  have hD : va_D A (wm_X9_begins cA h0 h0_g h0_p h0_kept h0_changed h0_causes h0_rows h0_sorts h0_sizes h0_moved h0_outs h0_losses h0_levelOf h0_levelOften h0_to h0_round h0_tail h0_path h0_leastOn h0_period h0_amplitude h0_basin h0_numbered h0_isReached h0_tape h0_told h0_traced s0__isKept s0__done s0__undoable s0__redoable s0__all s0__v s0__loss s0__isOver s0__hasCauses s0__outMany s0__overMany s0__isHalted s0__levelMany s0__rounds s0__stuck s0__onRounds s0__longest s0__loudest s0__reached s0__isAnyOver s0__taped s0__at s0__ran s0_g s0_p) := hD
  have L_2 : ∀ (n : Nat) (y1 : Int32) (c0_p : Nat → Int32) (p0_0 : Nat → Int32) (H : Heap) (locs : List Loc) (ls : Array Slot), va_P G vwCl (wm_X9_begins cA h0 h0_g h0_p h0_kept h0_changed h0_causes h0_rows h0_sorts h0_sizes h0_moved h0_outs h0_losses h0_levelOf h0_levelOften h0_to h0_round h0_tail h0_path h0_leastOn h0_period h0_amplitude h0_basin h0_numbered h0_isReached h0_tape h0_told h0_traced s0__isKept s0__done s0__undoable s0__redoable s0__all s0__v s0__loss s0__isOver s0__hasCauses s0__outMany s0__overMany s0__isHalted s0__levelMany s0__rounds s0__stuck s0__onRounds s0__longest s0__loudest s0__reached s0__isAnyOver s0__taped s0__at s0__ran s0_g c0_p) H → va_D A (wm_X9_begins cA h0 h0_g h0_p h0_kept h0_changed h0_causes h0_rows h0_sorts h0_sizes h0_moved h0_outs h0_losses h0_levelOf h0_levelOften h0_to h0_round h0_tail h0_path h0_leastOn h0_period h0_amplitude h0_basin h0_numbered h0_isReached h0_tape h0_told h0_traced s0__isKept s0__done s0__undoable s0__redoable s0__all s0__v s0__loss s0__isOver s0__hasCauses s0__outMany s0__overMany s0__isHalted s0__levelMany s0__rounds s0__stuck s0__onRounds s0__longest s0__loudest s0__reached s0__isAnyOver s0__taped s0__at s0__ran s0_g c0_p) → va_S A s.heap H locs → lv_has ls 2 [(0, .ref h0), (1, .int y1)] → fX9_begins_L2 s0_g n y1 c0_p = some p0_0 → (∀ (H : Heap) (locs : List Loc) (ls : Array Slot), va_P G vwCl (wm_X9_begins cA h0 h0_g h0_p h0_kept h0_changed h0_causes h0_rows h0_sorts h0_sizes h0_moved h0_outs h0_losses h0_levelOf h0_levelOften h0_to h0_round h0_tail h0_path h0_leastOn h0_period h0_amplitude h0_basin h0_numbered h0_isReached h0_tape h0_told h0_traced s0__isKept s0__done s0__undoable s0__redoable s0__all s0__v s0__loss s0__isOver s0__hasCauses s0__outMany s0__overMany s0__isHalted s0__levelMany s0__rounds s0__stuck s0__onRounds s0__longest s0__loudest s0__reached s0__isAnyOver s0__taped s0__at s0__ran s0_g p0_0) H → va_D A (wm_X9_begins cA h0 h0_g h0_p h0_kept h0_changed h0_causes h0_rows h0_sorts h0_sizes h0_moved h0_outs h0_losses h0_levelOf h0_levelOften h0_to h0_round h0_tail h0_path h0_leastOn h0_period h0_amplitude h0_basin h0_numbered h0_isReached h0_tape h0_told h0_traced s0__isKept s0__done s0__undoable s0__redoable s0__all s0__v s0__loss s0__isOver s0__hasCauses s0__outMany s0__overMany s0__isHalted s0__levelMany s0__rounds s0__stuck s0__onRounds s0__longest s0__loudest s0__reached s0__isAnyOver s0__taped s0__at s0__ran s0_g p0_0) → va_S A s.heap H locs → lv_has ls 2 [] → W p l e (rmX 1 40) s m ar below meth c H locs 0 0 Q (F0 m 28 ls [])) → W p l e (rmX 1 40) s m ar below meth c H locs 0 0 Q (F0 m 2 ls []) := by
    intro n
    induction n with
    | zero =>
      intro y1 c0_p p0_0 H locs ls hP hD hS hl hok
      rw [fX9_begins_L2] at hok
      cases hok
    | succ n ih =>
      intro y1 c0_p p0_0 H locs ls hP hD hS hl hok K
      rw [fX9_begins_L2] at hok
      refine lv_iload_n hx hb dX9_begins_2 rfl (lv_at hl 1 rfl) ?_
      refine lv_iconst (v := 3) hx hb dX9_begins_3 (by decide) ?_
      refine lv_icmp_ge (tgt := 28) hx hb dX9_begins_4 (by decide) (fun c => ?_) (fun c => ?_)
      · replace hok := g_pos hok c
        cases hok
        exact K _ _ _ hP hD hS (lv_sub hl [] rfl)
      replace hok := g_neg hok c
      refine lv_aload_n hx hb dX9_begins_7 rfl (lv_at hl 0 rfl) ?_
      refine va_get (ci := 9) (v := .ref h0_p) (C := RX9) (T := TX9) (N := 49) hx hb hts hinX9 hown hK hP 0 rfl rfl 7 (by decide) (hts _ (List.mem_of_getElem? (i := 1) rfl)) (fun _ h9 => h9) rfl dX9_begins_8 ?_
      refine lv_iload_n hx hb dX9_begins_11 rfl (lv_at hl 1 rfl) ?_
      refine lv_aload_n hx hb dX9_begins_12 rfl (lv_at hl 0 rfl) ?_
      refine va_get (ci := 9) (v := .ref h0_g) (C := RX9) (T := TX9) (N := 49) hx hb hts hinX9 hown hK hP 0 rfl rfl 0 (by decide) (hts _ (List.mem_of_getElem? (i := 2) rfl)) (fun _ h9 => h9) rfl dX9_begins_13 ?_
      refine lv_bipush (v := 10) hx hb dX9_begins_16 (by decide) ?_
      refine lv_iload_n hx hb dX9_begins_18 rfl (lv_at hl 1 rfl) ?_
      refine lv_iadd hx hb dX9_begins_19 ?_
      obtain ⟨hin, hok⟩ := g_no hok
      refine x_iald (k := ((10:Int32) + y1).toNatClampNeg) hx hb hK hP 1 0 rfl rfl hin rfl dX9_begins_20 ?_
      obtain ⟨hin, hok⟩ := g_no hok
      refine x_iast (k := y1.toNatClampNeg) hx hb hK hP hD hS 2 0 rfl rfl hin rfl dX9_begins_21 (fun H locs hP hD hS => ?_)
      have hP : va_P G vwCl (wm_X9_begins cA h0 h0_g h0_p h0_kept h0_changed h0_causes h0_rows h0_sorts h0_sizes h0_moved h0_outs h0_losses h0_levelOf h0_levelOften h0_to h0_round h0_tail h0_path h0_leastOn h0_period h0_amplitude h0_basin h0_numbered h0_isReached h0_tape h0_told h0_traced s0__isKept s0__done s0__undoable s0__redoable s0__all s0__v s0__loss s0__isOver s0__hasCauses s0__outMany s0__overMany s0__isHalted s0__levelMany s0__rounds s0__stuck s0__onRounds s0__longest s0__loudest s0__reached s0__isAnyOver s0__taped s0__at s0__ran s0_g (upd c0_p y1.toNatClampNeg (s0_g ((10:Int32) + y1).toNatClampNeg))) H := hP
      have hD : va_D A (wm_X9_begins cA h0 h0_g h0_p h0_kept h0_changed h0_causes h0_rows h0_sorts h0_sizes h0_moved h0_outs h0_losses h0_levelOf h0_levelOften h0_to h0_round h0_tail h0_path h0_leastOn h0_period h0_amplitude h0_basin h0_numbered h0_isReached h0_tape h0_told h0_traced s0__isKept s0__done s0__undoable s0__redoable s0__all s0__v s0__loss s0__isOver s0__hasCauses s0__outMany s0__overMany s0__isHalted s0__levelMany s0__rounds s0__stuck s0__onRounds s0__longest s0__loudest s0__reached s0__isAnyOver s0__taped s0__at s0__ran s0_g (upd c0_p y1.toNatClampNeg (s0_g ((10:Int32) + y1).toNatClampNeg))) := hD
      refine lv_iinc (v := (y1 + 1)) (lv' := [(1, .int (y1 + 1)), (0, .ref h0)]) hx hb dX9_begins_22 hl (k := 1) rfl rfl (by decide) rfl (fun ls hl => ?_)
      refine lv_goto (tgt := 2) hx hb dX9_begins_25 (by decide) ?_
      exact ih (y1 + 1) (upd c0_p y1.toNatClampNeg (s0_g ((10:Int32) + y1).toNatClampNeg)) p0_0 _ _ _ hP hD hS (lv_sub hl [1, 0] rfl) hok K
  unfold fX9_begins at hok
  refine lv_iconst (v := 0) hx hb dX9_begins_0 (by decide) ?_
  refine lv_istore_n (lv' := [(1, .int (0:Int32)), (0, .ref h0)]) hx hb dX9_begins_1 rfl hl (by decide) rfl (fun ls hl => ?_)
  obtain ⟨o1, hq, hok⟩ := g_bnd1 hok
  refine L_2 FUEL (0:Int32) s0_p o1 _ _ _ hP hD hS (lv_sub hl [1, 0] rfl) hq (fun H locs ls hP hD hS hl => ?_)
  cases hok
  exact cr_v hx hb hr hlocks hQ dX9_begins_28 hP hS
set_option maxHeartbeats 40000000 in
set_option maxRecDepth 100000 in
theorem c_X9_product (l : Launch) (G : va_G) (cA : Nat → ClassId) (ts : Nat → Nat) (h0 : Nat) (h0_g : Nat) (h0_p : Nat) (h0_kept : Nat) (h0_changed : Nat) (h0_causes : Nat) (h0_rows : Nat) (h0_sorts : Nat) (h0_sizes : Nat) (h0_moved : Nat) (h0_outs : Nat) (h0_losses : Nat) (h0_levelOf : Nat) (h0_levelOften : Nat) (h0_to : Nat) (h0_round : Nat) (h0_tail : Nat) (h0_path : Nat) (h0_leastOn : Nat) (h0_period : Nat) (h0_amplitude : Nat) (h0_basin : Nat) (h0_numbered : Nat) (h0_isReached : Nat) (h0_tape : Nat) (h0_told : Nat) (h0_traced : Nat) (x1 : Int32) (x2 : Int32) (s0__isKept : Int32) (s0__done : Int32) (s0__undoable : Int32) (s0__redoable : Int32) (s0__all : Int32) (s0__v : Int32) (s0__loss : Int32) (s0__isOver : Int32) (s0__hasCauses : Int32) (s0__outMany : Int32) (s0__overMany : Int32) (s0__isHalted : Int32) (s0__levelMany : Int32) (s0__rounds : Int32) (s0__stuck : Int32) (s0__onRounds : Int32) (s0__longest : Int32) (s0__loudest : Int32) (s0__reached : Int32) (s0__isAnyOver : Int32) (s0__taped : Int32) (s0__at : Int32) (s0__ran : Int32) (s0_g : Nat → Int32) (s0_p : Nat → Int32) (r : Int32) (hok : fX9_product x1 x2 s0_g s0_p = some r) : Ct l G cA ts yX9_product wsX9_product 1 40 [.ref h0, .int x1, .int x2] (wm_X9_begins cA h0 h0_g h0_p h0_kept h0_changed h0_causes h0_rows h0_sorts h0_sizes h0_moved h0_outs h0_losses h0_levelOf h0_levelOften h0_to h0_round h0_tail h0_path h0_leastOn h0_period h0_amplitude h0_basin h0_numbered h0_isReached h0_tape h0_told h0_traced s0__isKept s0__done s0__undoable s0__redoable s0__all s0__v s0__loss s0__isOver s0__hasCauses s0__outMany s0__overMany s0__isHalted s0__levelMany s0__rounds s0__stuck s0__onRounds s0__longest s0__loudest s0__reached s0__isAnyOver s0__taped s0__at s0__ran s0_g s0_p) (wm_X9_begins cA h0 h0_g h0_p h0_kept h0_changed h0_causes h0_rows h0_sorts h0_sizes h0_moved h0_outs h0_losses h0_levelOf h0_levelOften h0_to h0_round h0_tail h0_path h0_leastOn h0_period h0_amplitude h0_basin h0_numbered h0_isReached h0_tape h0_told h0_traced s0__isKept s0__done s0__undoable s0__redoable s0__all s0__v s0__loss s0__isOver s0__hasCauses s0__outMany s0__overMany s0__isHalted s0__levelMany s0__rounds s0__stuck s0__onRounds s0__longest s0__loudest s0__reached s0__isAnyOver s0__taped s0__at s0__ran s0_g s0_p) (some (.int r)) := by
  refine Ct.intro (cc := cX9_product) (maxL := 3) (ret := some .int) (by decide +kernel) rfl (Nat.le_of_ble_eq_true rfl) ?_
  intro p e s m ar below meth c A Q hx hb hr hml hown hlocks hts hK hZ hA hQ hP hD hS ls hl
  have hown : s.vm.findClass RX9 = some m.cls := hown
  have hinX9 : ∀ w ∈ wsX90, w ∈ wsX9_product := fun _ h => List.mem_cons_of_mem _ (List.mem_append_right _ (h))
  have hl : lv_has ls 3 [(0, .ref h0), (1, .int x1), (2, .int x2)] := hl
  have hP : va_P G vwCl (wm_X9_begins cA h0 h0_g h0_p h0_kept h0_changed h0_causes h0_rows h0_sorts h0_sizes h0_moved h0_outs h0_losses h0_levelOf h0_levelOften h0_to h0_round h0_tail h0_path h0_leastOn h0_period h0_amplitude h0_basin h0_numbered h0_isReached h0_tape h0_told h0_traced s0__isKept s0__done s0__undoable s0__redoable s0__all s0__v s0__loss s0__isOver s0__hasCauses s0__outMany s0__overMany s0__isHalted s0__levelMany s0__rounds s0__stuck s0__onRounds s0__longest s0__loudest s0__reached s0__isAnyOver s0__taped s0__at s0__ran s0_g s0_p) s.heap := hP
  have hD : va_D A (wm_X9_begins cA h0 h0_g h0_p h0_kept h0_changed h0_causes h0_rows h0_sorts h0_sizes h0_moved h0_outs h0_losses h0_levelOf h0_levelOften h0_to h0_round h0_tail h0_path h0_leastOn h0_period h0_amplitude h0_basin h0_numbered h0_isReached h0_tape h0_told h0_traced s0__isKept s0__done s0__undoable s0__redoable s0__all s0__v s0__loss s0__isOver s0__hasCauses s0__outMany s0__overMany s0__isHalted s0__levelMany s0__rounds s0__stuck s0__onRounds s0__longest s0__loudest s0__reached s0__isAnyOver s0__taped s0__at s0__ran s0_g s0_p) := hD
  unfold fX9_product at hok
  refine lv_iload_n hx hb dX9_product_0 rfl (lv_at hl 1 rfl) ?_
  refine lv_if_ne (tgt := 15) hx hb dX9_product_1 (by decide) (fun c => ?_) (fun c => ?_)
  · replace hok := g_neg hok c
    refine lv_aload_n hx hb dX9_product_15 rfl (lv_at hl 0 rfl) ?_
    refine va_get (ci := 9) (v := .ref h0_g) (C := RX9) (T := TX9) (N := 49) hx hb hts hinX9 hown hK hP 0 rfl rfl 0 (by decide) (hts _ (List.mem_of_getElem? (i := 1) rfl)) (fun _ h9 => h9) rfl dX9_product_16 ?_
    refine lv_iconst (v := 2) hx hb dX9_product_19 (by decide) ?_
    refine lv_iload_n hx hb dX9_product_20 rfl (lv_at hl 1 rfl) ?_
    refine lv_iadd hx hb dX9_product_21 ?_
    refine lv_iconst (v := 1) hx hb dX9_product_22 (by decide) ?_
    refine lv_isub hx hb dX9_product_23 ?_
    obtain ⟨hin, hok⟩ := g_no hok
    refine x_iald (k := (((2:Int32) + x1) - (1:Int32)).toNatClampNeg) hx hb hK hP 1 0 rfl rfl hin rfl dX9_product_24 ?_
    refine lv_aload_n hx hb dX9_product_25 rfl (lv_at hl 0 rfl) ?_
    refine va_get (ci := 9) (v := .ref h0_p) (C := RX9) (T := TX9) (N := 49) hx hb hts hinX9 hown hK hP 0 rfl rfl 7 (by decide) (hts _ (List.mem_of_getElem? (i := 2) rfl)) (fun _ h9 => h9) rfl dX9_product_26 ?_
    refine lv_iload_n hx hb dX9_product_29 rfl (lv_at hl 1 rfl) ?_
    refine lv_iconst (v := 1) hx hb dX9_product_30 (by decide) ?_
    refine lv_isub hx hb dX9_product_31 ?_
    obtain ⟨hin, hok⟩ := g_no hok
    refine x_iald (k := (x1 - (1:Int32)).toNatClampNeg) hx hb hK hP 2 0 rfl rfl hin rfl dX9_product_32 ?_
    refine lv_imul hx hb dX9_product_33 ?_
    cases hok
    exact cr_i hx hb hr hlocks hQ dX9_product_34 hP hS
  replace hok := g_pos hok c
  refine lv_aload_n hx hb dX9_product_4 rfl (lv_at hl 0 rfl) ?_
  refine va_get (ci := 9) (v := .ref h0_g) (C := RX9) (T := TX9) (N := 49) hx hb hts hinX9 hown hK hP 0 rfl rfl 0 (by decide) (hts _ (List.mem_of_getElem? (i := 1) rfl)) (fun _ h9 => h9) rfl dX9_product_5 ?_
  refine lv_iconst (v := 5) hx hb dX9_product_8 (by decide) ?_
  refine x_iald (k := 5) hx hb hK hP 1 0 rfl rfl (show ¬ ((5:Int32) < 0 ∨ 13 ≤ (5:Int32).toNatClampNeg) by decide) (by decide) dX9_product_9 ?_
  refine lv_iload_n hx hb dX9_product_10 rfl (lv_at hl 2 rfl) ?_
  refine lv_imul hx hb dX9_product_11 ?_
  refine lv_goto (tgt := 34) hx hb dX9_product_12 (by decide) ?_
  cases hok
  exact cr_i hx hb hr hlocks hQ dX9_product_34 hP hS
set_option maxHeartbeats 40000000 in
set_option maxRecDepth 100000 in
theorem c_X9_steps (l : Launch) (G : va_G) (cA : Nat → ClassId) (ts : Nat → Nat) (h0 : Nat) (h0_g : Nat) (h0_p : Nat) (h0_kept : Nat) (h0_changed : Nat) (h0_causes : Nat) (h0_rows : Nat) (h0_sorts : Nat) (h0_sizes : Nat) (h0_moved : Nat) (h0_outs : Nat) (h0_losses : Nat) (h0_levelOf : Nat) (h0_levelOften : Nat) (h0_to : Nat) (h0_round : Nat) (h0_tail : Nat) (h0_path : Nat) (h0_leastOn : Nat) (h0_period : Nat) (h0_amplitude : Nat) (h0_basin : Nat) (h0_numbered : Nat) (h0_isReached : Nat) (h0_tape : Nat) (h0_told : Nat) (h0_traced : Nat) (x1 : Int32) (s0__isKept : Int32) (s0__done : Int32) (s0__undoable : Int32) (s0__redoable : Int32) (s0__all : Int32) (s0__v : Int32) (s0__loss : Int32) (s0__isOver : Int32) (s0__hasCauses : Int32) (s0__outMany : Int32) (s0__overMany : Int32) (s0__isHalted : Int32) (s0__levelMany : Int32) (s0__rounds : Int32) (s0__stuck : Int32) (s0__onRounds : Int32) (s0__longest : Int32) (s0__loudest : Int32) (s0__reached : Int32) (s0__isAnyOver : Int32) (s0__taped : Int32) (s0__at : Int32) (s0__ran : Int32) (s0_g : Nat → Int32) (s0_p : Nat → Int32) (r : Int32) (o0__all : Int32) (o0__v : Int32) (o0__loss : Int32) (o0__isOver : Int32) (o0_p : Nat → Int32) (hok : fX9_steps x1 s0__all s0__v s0__loss s0__isOver s0_g s0_p = some (r, o0__all, o0__v, o0__loss, o0__isOver, o0_p)) : Ct l G cA ts yX9_steps wsX9_steps 3 87 [.ref h0, .int x1] (wm_X9_begins cA h0 h0_g h0_p h0_kept h0_changed h0_causes h0_rows h0_sorts h0_sizes h0_moved h0_outs h0_losses h0_levelOf h0_levelOften h0_to h0_round h0_tail h0_path h0_leastOn h0_period h0_amplitude h0_basin h0_numbered h0_isReached h0_tape h0_told h0_traced s0__isKept s0__done s0__undoable s0__redoable s0__all s0__v s0__loss s0__isOver s0__hasCauses s0__outMany s0__overMany s0__isHalted s0__levelMany s0__rounds s0__stuck s0__onRounds s0__longest s0__loudest s0__reached s0__isAnyOver s0__taped s0__at s0__ran s0_g s0_p) (wm_X9_begins cA h0 h0_g h0_p h0_kept h0_changed h0_causes h0_rows h0_sorts h0_sizes h0_moved h0_outs h0_losses h0_levelOf h0_levelOften h0_to h0_round h0_tail h0_path h0_leastOn h0_period h0_amplitude h0_basin h0_numbered h0_isReached h0_tape h0_told h0_traced s0__isKept s0__done s0__undoable s0__redoable o0__all o0__v o0__loss o0__isOver s0__hasCauses s0__outMany s0__overMany s0__isHalted s0__levelMany s0__rounds s0__stuck s0__onRounds s0__longest s0__loudest s0__reached s0__isAnyOver s0__taped s0__at s0__ran s0_g o0_p) (some (.int r)) := by
  refine Ct.intro (cc := cX9_steps) (maxL := 5) (ret := some .int) (by decide +kernel) rfl (Nat.le_of_ble_eq_true rfl) ?_
  intro p e s m ar below meth c A Q hx hb hr hml hown hlocks hts hK hZ hA hQ hP hD hS ls hl
  have hown : s.vm.findClass RX9 = some m.cls := hown
  have hinX9 : ∀ w ∈ wsX90, w ∈ wsX9_steps := fun _ h => List.mem_cons_of_mem _ (List.mem_append_right _ (h))
  have hl : lv_has ls 5 [(0, .ref h0), (1, .int x1)] := hl
  have hP : va_P G vwCl (wm_X9_begins cA h0 h0_g h0_p h0_kept h0_changed h0_causes h0_rows h0_sorts h0_sizes h0_moved h0_outs h0_losses h0_levelOf h0_levelOften h0_to h0_round h0_tail h0_path h0_leastOn h0_period h0_amplitude h0_basin h0_numbered h0_isReached h0_tape h0_told h0_traced s0__isKept s0__done s0__undoable s0__redoable s0__all s0__v s0__loss s0__isOver s0__hasCauses s0__outMany s0__overMany s0__isHalted s0__levelMany s0__rounds s0__stuck s0__onRounds s0__longest s0__loudest s0__reached s0__isAnyOver s0__taped s0__at s0__ran s0_g s0_p) s.heap := hP
  have hD : va_D A (wm_X9_begins cA h0 h0_g h0_p h0_kept h0_changed h0_causes h0_rows h0_sorts h0_sizes h0_moved h0_outs h0_losses h0_levelOf h0_levelOften h0_to h0_round h0_tail h0_path h0_leastOn h0_period h0_amplitude h0_basin h0_numbered h0_isReached h0_tape h0_told h0_traced s0__isKept s0__done s0__undoable s0__redoable s0__all s0__v s0__loss s0__isOver s0__hasCauses s0__outMany s0__overMany s0__isHalted s0__levelMany s0__rounds s0__stuck s0__onRounds s0__longest s0__loudest s0__reached s0__isAnyOver s0__taped s0__at s0__ran s0_g s0_p) := hD
  have L_9 : ∀ (n : Nat) (y2 : Int32) (y3 : Int32) (c0__all : Int32) (c0__v : Int32) (c0__loss : Int32) (c0__isOver : Int32) (c0_p : Nat → Int32) (p0_0 : Int32) (p0_1 : Int32) (H : Heap) (locs : List Loc) (ls : Array Slot), va_P G vwCl (wm_X9_begins cA h0 h0_g h0_p h0_kept h0_changed h0_causes h0_rows h0_sorts h0_sizes h0_moved h0_outs h0_losses h0_levelOf h0_levelOften h0_to h0_round h0_tail h0_path h0_leastOn h0_period h0_amplitude h0_basin h0_numbered h0_isReached h0_tape h0_told h0_traced s0__isKept s0__done s0__undoable s0__redoable c0__all c0__v c0__loss c0__isOver s0__hasCauses s0__outMany s0__overMany s0__isHalted s0__levelMany s0__rounds s0__stuck s0__onRounds s0__longest s0__loudest s0__reached s0__isAnyOver s0__taped s0__at s0__ran s0_g c0_p) H → va_D A (wm_X9_begins cA h0 h0_g h0_p h0_kept h0_changed h0_causes h0_rows h0_sorts h0_sizes h0_moved h0_outs h0_losses h0_levelOf h0_levelOften h0_to h0_round h0_tail h0_path h0_leastOn h0_period h0_amplitude h0_basin h0_numbered h0_isReached h0_tape h0_told h0_traced s0__isKept s0__done s0__undoable s0__redoable c0__all c0__v c0__loss c0__isOver s0__hasCauses s0__outMany s0__overMany s0__isHalted s0__levelMany s0__rounds s0__stuck s0__onRounds s0__longest s0__loudest s0__reached s0__isAnyOver s0__taped s0__at s0__ran s0_g c0_p) → va_S A s.heap H locs → lv_has ls 5 [(0, .ref h0), (1, .int x1), (2, .int y2), (3, .int y3)] → fX9_steps_L9 x1 s0_g n y2 y3 c0__all c0__v c0__loss c0__isOver c0_p = some (p0_0, p0_1) → (∀ (H : Heap) (locs : List Loc) (ls : Array Slot), va_P G vwCl (wm_X9_begins cA h0 h0_g h0_p h0_kept h0_changed h0_causes h0_rows h0_sorts h0_sizes h0_moved h0_outs h0_losses h0_levelOf h0_levelOften h0_to h0_round h0_tail h0_path h0_leastOn h0_period h0_amplitude h0_basin h0_numbered h0_isReached h0_tape h0_told h0_traced s0__isKept s0__done s0__undoable s0__redoable p0_1 c0__v c0__loss c0__isOver s0__hasCauses s0__outMany s0__overMany s0__isHalted s0__levelMany s0__rounds s0__stuck s0__onRounds s0__longest s0__loudest s0__reached s0__isAnyOver s0__taped s0__at s0__ran s0_g c0_p) H → va_D A (wm_X9_begins cA h0 h0_g h0_p h0_kept h0_changed h0_causes h0_rows h0_sorts h0_sizes h0_moved h0_outs h0_losses h0_levelOf h0_levelOften h0_to h0_round h0_tail h0_path h0_leastOn h0_period h0_amplitude h0_basin h0_numbered h0_isReached h0_tape h0_told h0_traced s0__isKept s0__done s0__undoable s0__redoable p0_1 c0__v c0__loss c0__isOver s0__hasCauses s0__outMany s0__overMany s0__isHalted s0__levelMany s0__rounds s0__stuck s0__onRounds s0__longest s0__loudest s0__reached s0__isAnyOver s0__taped s0__at s0__ran s0_g c0_p) → va_S A s.heap H locs → lv_has ls 5 [(0, .ref h0), (2, .int p0_0)] → W p l e (rmX 3 87) s m ar below meth c H locs 0 0 Q (F0 m 81 ls [])) → W p l e (rmX 3 87) s m ar below meth c H locs 0 0 Q (F0 m 9 ls []) := by
    intro n
    induction n with
    | zero =>
      intro y2 y3 c0__all c0__v c0__loss c0__isOver c0_p p0_0 p0_1 H locs ls hP hD hS hl hok
      rw [fX9_steps_L9] at hok
      cases hok
    | succ n ih =>
      intro y2 y3 c0__all c0__v c0__loss c0__isOver c0_p p0_0 p0_1 H locs ls hP hD hS hl hok K
      rw [fX9_steps_L9] at hok
      refine lv_iload_n hx hb dX9_steps_9 rfl (lv_at hl 3 rfl) ?_
      refine lv_aload_n hx hb dX9_steps_10 rfl (lv_at hl 0 rfl) ?_
      refine va_get (ci := 9) (v := .ref h0_g) (C := RX9) (T := TX9) (N := 49) hx hb hts hinX9 hown hK hP 0 rfl rfl 0 (by decide) (hts _ (List.mem_of_getElem? (i := 2) rfl)) (fun _ h9 => h9) rfl dX9_steps_11 ?_
      refine lv_iconst (v := 0) hx hb dX9_steps_14 (by decide) ?_
      refine x_iald (k := 0) hx hb hK hP 1 0 rfl rfl (show ¬ ((0:Int32) < 0 ∨ 13 ≤ (0:Int32).toNatClampNeg) by decide) (by decide) dX9_steps_15 ?_
      refine lv_icmp_gt (tgt := 81) hx hb dX9_steps_16 (by decide) (fun c => ?_) (fun c => ?_)
      · replace hok := g_pos hok c
        cases hok
        exact K _ _ _ hP hD hS (lv_sub hl [0, 2] rfl)
      replace hok := g_neg hok c
      refine lv_aload_n hx hb dX9_steps_19 rfl (lv_at hl 0 rfl) ?_
      refine lv_iload_n hx hb dX9_steps_20 rfl (lv_at hl 3 rfl) ?_
      refine lv_iload_n hx hb dX9_steps_21 rfl (lv_at hl 1 rfl) ?_
      obtain ⟨r1, hq, hok⟩ := g_bnd1 hok
      refine cG (is := [0, 1, 2]) (wc := (wm_X9_begins cA h0 h0_g h0_p h0_kept h0_changed h0_causes h0_rows h0_sorts h0_sizes h0_moved h0_outs h0_losses h0_levelOf h0_levelOften h0_to h0_round h0_tail h0_path h0_leastOn h0_period h0_amplitude h0_basin h0_numbered h0_isReached h0_tape h0_told h0_traced s0__isKept s0__done s0__undoable s0__redoable c0__all c0__v c0__loss c0__isOver s0__hasCauses s0__outMany s0__overMany s0__isHalted s0__levelMany s0__rounds s0__stuck s0__onRounds s0__longest s0__loudest s0__reached s0__isAnyOver s0__taped s0__at s0__ran s0_g c0_p)) (w1 := (wm_X9_begins cA h0 h0_g h0_p h0_kept h0_changed h0_causes h0_rows h0_sorts h0_sizes h0_moved h0_outs h0_losses h0_levelOf h0_levelOften h0_to h0_round h0_tail h0_path h0_leastOn h0_period h0_amplitude h0_basin h0_numbered h0_isReached h0_tape h0_told h0_traced s0__isKept s0__done s0__undoable s0__redoable c0__all c0__v c0__loss c0__isOver s0__hasCauses s0__outMany s0__overMany s0__isHalted s0__levelMany s0__rounds s0__stuck s0__onRounds s0__longest s0__loudest s0__reached s0__isAnyOver s0__taped s0__at s0__ran s0_g c0_p)) (rv := (some (.int r1))) (st1 := [.int r1]) (va_runV (Ts := wsX9_steps) (As := [.int y3, .int x1]) (rest := []) ⟨hx, hb, hml, hown, hts⟩ (c_X9_product l G cA ts h0 h0_g h0_p h0_kept h0_changed h0_causes h0_rows h0_sorts h0_sizes h0_moved h0_outs h0_losses h0_levelOf h0_levelOften h0_to h0_round h0_tail h0_path h0_leastOn h0_period h0_amplitude h0_basin h0_numbered h0_isReached h0_tape h0_told h0_traced y3 x1 s0__isKept s0__done s0__undoable s0__redoable c0__all c0__v c0__loss c0__isOver s0__hasCauses s0__outMany s0__overMany s0__isHalted s0__levelMany s0__rounds s0__stuck s0__onRounds s0__longest s0__loudest s0__reached s0__isAnyOver s0__taped s0__at s0__ran s0_g c0_p r1 hq H.size) (cwV 2 hts gX9_steps_X9_product rfl rfl rfl (by decide +kernel) ⟨Nat.le_of_ble_eq_true rfl, Nat.le_of_ble_eq_true rfl⟩) (pre_V (ci := 9) (q0 := 0) (is := [0, 1, 2]) rfl rfl hP hD hS hA hK hZ (by decide +kernel) (by rfl)) rfl rfl hl.1 rfl (by exact lv_room (Nat.le_of_ble_eq_true rfl)) dX9_steps_22 ⟨Nat.le_refl _, Nat.le_refl _⟩) hP hD hS hA (by decide +kernel) (by rfl) (by rfl) rfl (fun H locs hP hD hS => ?_)
      have hP : va_P G vwCl (wm_X9_begins cA h0 h0_g h0_p h0_kept h0_changed h0_causes h0_rows h0_sorts h0_sizes h0_moved h0_outs h0_losses h0_levelOf h0_levelOften h0_to h0_round h0_tail h0_path h0_leastOn h0_period h0_amplitude h0_basin h0_numbered h0_isReached h0_tape h0_told h0_traced s0__isKept s0__done s0__undoable s0__redoable c0__all c0__v c0__loss c0__isOver s0__hasCauses s0__outMany s0__overMany s0__isHalted s0__levelMany s0__rounds s0__stuck s0__onRounds s0__longest s0__loudest s0__reached s0__isAnyOver s0__taped s0__at s0__ran s0_g c0_p) H := hP
      have hD : va_D A (wm_X9_begins cA h0 h0_g h0_p h0_kept h0_changed h0_causes h0_rows h0_sorts h0_sizes h0_moved h0_outs h0_losses h0_levelOf h0_levelOften h0_to h0_round h0_tail h0_path h0_leastOn h0_period h0_amplitude h0_basin h0_numbered h0_isReached h0_tape h0_told h0_traced s0__isKept s0__done s0__undoable s0__redoable c0__all c0__v c0__loss c0__isOver s0__hasCauses s0__outMany s0__overMany s0__isHalted s0__levelMany s0__rounds s0__stuck s0__onRounds s0__longest s0__loudest s0__reached s0__isAnyOver s0__taped s0__at s0__ran s0_g c0_p) := hD
      refine lv_istore (lv' := [(4, .int r1), (0, .ref h0), (1, .int x1), (2, .int y2), (3, .int y3)]) hx hb dX9_steps_25 hl (by decide) rfl (fun ls hl => ?_)
      refine lv_aload_n hx hb dX9_steps_27 rfl (lv_at hl 1 rfl) ?_
      refine lv_dup hx hb dX9_steps_28 rfl ?_
      refine va_get (ci := 9) (v := .int c0__all) (C := RX9) (T := TX9) (N := 49) hx hb hts hinX9 hown hK hP 0 rfl rfl 8 (by decide) (hts _ (List.mem_of_getElem? (i := 1) rfl)) (fun _ h9 => h9) rfl dX9_steps_29 ?_
      refine lv_iload hx hb dX9_steps_32 (lv_at hl 0 rfl) ?_
      refine lv_iadd hx hb dX9_steps_34 ?_
      refine va_put (D := G) (ci := 9) (v := .int (c0__all + r1)) (ty := .int) (C := RX9) (T := TX9) (N := 49) hx hb hts hinX9 tyX9 tyX9_ok nmX9 hown hK hP hD hS 0 rfl rfl 8 (by decide) (hts _ (List.mem_of_getElem? (i := 1) rfl)) (fun _ h9 => h9) rfl (by decide +kernel) rfl rfl (Nat.le_of_ble_eq_true rfl) dX9_steps_35 (fun H locs hP hD hS => ?_)
      have hP : va_P G vwCl (wm_X9_begins cA h0 h0_g h0_p h0_kept h0_changed h0_causes h0_rows h0_sorts h0_sizes h0_moved h0_outs h0_losses h0_levelOf h0_levelOften h0_to h0_round h0_tail h0_path h0_leastOn h0_period h0_amplitude h0_basin h0_numbered h0_isReached h0_tape h0_told h0_traced s0__isKept s0__done s0__undoable s0__redoable (c0__all + r1) c0__v c0__loss c0__isOver s0__hasCauses s0__outMany s0__overMany s0__isHalted s0__levelMany s0__rounds s0__stuck s0__onRounds s0__longest s0__loudest s0__reached s0__isAnyOver s0__taped s0__at s0__ran s0_g c0_p) H := hP
      have hD : va_D A (wm_X9_begins cA h0 h0_g h0_p h0_kept h0_changed h0_causes h0_rows h0_sorts h0_sizes h0_moved h0_outs h0_losses h0_levelOf h0_levelOften h0_to h0_round h0_tail h0_path h0_leastOn h0_period h0_amplitude h0_basin h0_numbered h0_isReached h0_tape h0_told h0_traced s0__isKept s0__done s0__undoable s0__redoable (c0__all + r1) c0__v c0__loss c0__isOver s0__hasCauses s0__outMany s0__overMany s0__isHalted s0__levelMany s0__rounds s0__stuck s0__onRounds s0__longest s0__loudest s0__reached s0__isAnyOver s0__taped s0__at s0__ran s0_g c0_p) := hD
      refine lv_iload_n hx hb dX9_steps_38 rfl (lv_at hl 3 rfl) ?_
      refine lv_aload_n hx hb dX9_steps_39 rfl (lv_at hl 1 rfl) ?_
      refine va_get (ci := 9) (v := .ref h0_g) (C := RX9) (T := TX9) (N := 49) hx hb hts hinX9 hown hK hP 0 rfl rfl 0 (by decide) (hts _ (List.mem_of_getElem? (i := 2) rfl)) (fun _ h9 => h9) rfl dX9_steps_40 ?_
      refine lv_bipush (v := 9) hx hb dX9_steps_43 (by decide) ?_
      refine x_iald (k := 9) hx hb hK hP 1 0 rfl rfl (show ¬ ((9:Int32) < 0 ∨ 13 ≤ (9:Int32).toNatClampNeg) by decide) (by decide) dX9_steps_45 ?_
      refine lv_iconst (v := 1) hx hb dX9_steps_46 (by decide) ?_
      refine lv_icmp_ne (tgt := 72) hx hb dX9_steps_47 (by decide) (fun c => ?_) (fun c => ?_)
      · replace hok := g_neg hok c
        refine lv_iconst (v := 0) hx hb dX9_steps_72 (by decide) ?_
        refine lv_iadd hx hb dX9_steps_73 ?_
        refine lv_istore_n (lv' := [(2, .int (y2 + (0:Int32))), (4, .int r1), (0, .ref h0), (1, .int x1), (3, .int y3)]) hx hb dX9_steps_74 rfl hl (by decide) rfl (fun ls hl => ?_)
        refine lv_iinc (v := (y3 + 1)) (lv' := [(3, .int (y3 + 1)), (2, .int (y2 + (0:Int32))), (4, .int r1), (0, .ref h0), (1, .int x1)]) hx hb dX9_steps_75 hl (k := 4) rfl rfl (by decide) rfl (fun ls hl => ?_)
        refine lv_goto (tgt := 9) hx hb dX9_steps_78 (by decide) ?_
        exact ih (y2 + (0:Int32)) (y3 + 1) (c0__all + r1) c0__v c0__loss c0__isOver c0_p p0_0 p0_1 _ _ _ hP hD hS (lv_sub hl [3, 4, 1, 0] rfl) hok K
      replace hok := g_pos hok c
      refine lv_aload_n hx hb dX9_steps_50 rfl (lv_at hl 1 rfl) ?_
      refine va_get (ci := 9) (v := .ref h0_g) (C := RX9) (T := TX9) (N := 49) hx hb hts hinX9 hown hK hP 0 rfl rfl 0 (by decide) (hts _ (List.mem_of_getElem? (i := 2) rfl)) (fun _ h9 => h9) rfl dX9_steps_51 ?_
      refine lv_bipush (v := 7) hx hb dX9_steps_54 (by decide) ?_
      refine x_iald (k := 7) hx hb hK hP 1 0 rfl rfl (show ¬ ((7:Int32) < 0 ∨ 13 ≤ (7:Int32).toNatClampNeg) by decide) (by decide) dX9_steps_56 ?_
      refine lv_aload_n hx hb dX9_steps_57 rfl (lv_at hl 1 rfl) ?_
      refine va_get (ci := 9) (v := .ref h0_g) (C := RX9) (T := TX9) (N := 49) hx hb hts hinX9 hown hK hP 0 rfl rfl 0 (by decide) (hts _ (List.mem_of_getElem? (i := 2) rfl)) (fun _ h9 => h9) rfl dX9_steps_58 ?_
      refine lv_bipush (v := 6) hx hb dX9_steps_61 (by decide) ?_
      refine x_iald (k := 6) hx hb hK hP 1 0 rfl rfl (show ¬ ((6:Int32) < 0 ∨ 13 ≤ (6:Int32).toNatClampNeg) by decide) (by decide) dX9_steps_63 ?_
      refine lv_iload hx hb dX9_steps_64 (lv_at hl 0 rfl) ?_
      obtain ⟨r2, hq, hok⟩ := g_bnd1 hok
      refine cG (is := []) (wc := (wm_X0_find cA)) (w1 := (wm_X0_find cA)) (rv := (some (.int r2))) (st1 := [.int r2, .int y2]) (va_runS (Ts := wsX9_steps) (As := [.int (s0_g 7), .int (s0_g 6), .int r1]) (rest := [.int y2]) ⟨hx, hb, hml, hown, hts⟩ (c_X9_roundedBy l G cA ts (s0_g 7) (s0_g 6) r1 r2 hq H.size) (va_cwS 3 hts gX9_steps_X9_roundedBy rfl rfl rfl (by decide +kernel) ⟨Nat.le_of_ble_eq_true rfl, Nat.le_of_ble_eq_true rfl⟩) (pre_S (is := []) hP hD hS hA hK hZ (by decide +kernel) (by rfl)) rfl rfl hl.1 rfl (by exact lv_room (Nat.le_of_ble_eq_true rfl)) dX9_steps_66 ⟨Nat.le_refl _, Nat.le_refl _⟩) hP hD hS hA (by decide +kernel) (by rfl) (by rfl) rfl (fun H locs hP hD hS => ?_)
      have hP : va_P G vwCl (wm_X9_begins cA h0 h0_g h0_p h0_kept h0_changed h0_causes h0_rows h0_sorts h0_sizes h0_moved h0_outs h0_losses h0_levelOf h0_levelOften h0_to h0_round h0_tail h0_path h0_leastOn h0_period h0_amplitude h0_basin h0_numbered h0_isReached h0_tape h0_told h0_traced s0__isKept s0__done s0__undoable s0__redoable (c0__all + r1) c0__v c0__loss c0__isOver s0__hasCauses s0__outMany s0__overMany s0__isHalted s0__levelMany s0__rounds s0__stuck s0__onRounds s0__longest s0__loudest s0__reached s0__isAnyOver s0__taped s0__at s0__ran s0_g c0_p) H := hP
      have hD : va_D A (wm_X9_begins cA h0 h0_g h0_p h0_kept h0_changed h0_causes h0_rows h0_sorts h0_sizes h0_moved h0_outs h0_losses h0_levelOf h0_levelOften h0_to h0_round h0_tail h0_path h0_leastOn h0_period h0_amplitude h0_basin h0_numbered h0_isReached h0_tape h0_told h0_traced s0__isKept s0__done s0__undoable s0__redoable (c0__all + r1) c0__v c0__loss c0__isOver s0__hasCauses s0__outMany s0__overMany s0__isHalted s0__levelMany s0__rounds s0__stuck s0__onRounds s0__longest s0__loudest s0__reached s0__isAnyOver s0__taped s0__at s0__ran s0_g c0_p) := hD
      refine lv_goto (tgt := 73) hx hb dX9_steps_69 (by decide) ?_
      refine lv_iadd hx hb dX9_steps_73 ?_
      refine lv_istore_n (lv' := [(2, .int (y2 + r2)), (4, .int r1), (0, .ref h0), (1, .int x1), (3, .int y3)]) hx hb dX9_steps_74 rfl hl (by decide) rfl (fun ls hl => ?_)
      refine lv_iinc (v := (y3 + 1)) (lv' := [(3, .int (y3 + 1)), (2, .int (y2 + r2)), (4, .int r1), (0, .ref h0), (1, .int x1)]) hx hb dX9_steps_75 hl (k := 4) rfl rfl (by decide) rfl (fun ls hl => ?_)
      refine lv_goto (tgt := 9) hx hb dX9_steps_78 (by decide) ?_
      exact ih (y2 + r2) (y3 + 1) (c0__all + r1) c0__v c0__loss c0__isOver c0_p p0_0 p0_1 _ _ _ hP hD hS (lv_sub hl [3, 4, 1, 0] rfl) hok K
  have L_216 : ∀ (n : Nat) (y3 : Int32) (y4 : Int32) (c0__all : Int32) (c0__v : Int32) (c0__loss : Int32) (c0__isOver : Int32) (c0_p : Nat → Int32) (p0_0 : Nat → Int32) (H : Heap) (locs : List Loc) (ls : Array Slot), va_P G vwCl (wm_X9_begins cA h0 h0_g h0_p h0_kept h0_changed h0_causes h0_rows h0_sorts h0_sizes h0_moved h0_outs h0_losses h0_levelOf h0_levelOften h0_to h0_round h0_tail h0_path h0_leastOn h0_period h0_amplitude h0_basin h0_numbered h0_isReached h0_tape h0_told h0_traced s0__isKept s0__done s0__undoable s0__redoable c0__all c0__v c0__loss c0__isOver s0__hasCauses s0__outMany s0__overMany s0__isHalted s0__levelMany s0__rounds s0__stuck s0__onRounds s0__longest s0__loudest s0__reached s0__isAnyOver s0__taped s0__at s0__ran s0_g c0_p) H → va_D A (wm_X9_begins cA h0 h0_g h0_p h0_kept h0_changed h0_causes h0_rows h0_sorts h0_sizes h0_moved h0_outs h0_losses h0_levelOf h0_levelOften h0_to h0_round h0_tail h0_path h0_leastOn h0_period h0_amplitude h0_basin h0_numbered h0_isReached h0_tape h0_told h0_traced s0__isKept s0__done s0__undoable s0__redoable c0__all c0__v c0__loss c0__isOver s0__hasCauses s0__outMany s0__overMany s0__isHalted s0__levelMany s0__rounds s0__stuck s0__onRounds s0__longest s0__loudest s0__reached s0__isAnyOver s0__taped s0__at s0__ran s0_g c0_p) → va_S A s.heap H locs → lv_has ls 5 [(0, .ref h0), (3, .int y3), (4, .int y4)] → fX9_steps_L216 x1 s0_g n y3 y4 c0__all c0__v c0__loss c0__isOver c0_p = some p0_0 → (∀ (H : Heap) (locs : List Loc) (ls : Array Slot), va_P G vwCl (wm_X9_begins cA h0 h0_g h0_p h0_kept h0_changed h0_causes h0_rows h0_sorts h0_sizes h0_moved h0_outs h0_losses h0_levelOf h0_levelOften h0_to h0_round h0_tail h0_path h0_leastOn h0_period h0_amplitude h0_basin h0_numbered h0_isReached h0_tape h0_told h0_traced s0__isKept s0__done s0__undoable s0__redoable c0__all c0__v c0__loss c0__isOver s0__hasCauses s0__outMany s0__overMany s0__isHalted s0__levelMany s0__rounds s0__stuck s0__onRounds s0__longest s0__loudest s0__reached s0__isAnyOver s0__taped s0__at s0__ran s0_g p0_0) H → va_D A (wm_X9_begins cA h0 h0_g h0_p h0_kept h0_changed h0_causes h0_rows h0_sorts h0_sizes h0_moved h0_outs h0_losses h0_levelOf h0_levelOften h0_to h0_round h0_tail h0_path h0_leastOn h0_period h0_amplitude h0_basin h0_numbered h0_isReached h0_tape h0_told h0_traced s0__isKept s0__done s0__undoable s0__redoable c0__all c0__v c0__loss c0__isOver s0__hasCauses s0__outMany s0__overMany s0__isHalted s0__levelMany s0__rounds s0__stuck s0__onRounds s0__longest s0__loudest s0__reached s0__isAnyOver s0__taped s0__at s0__ran s0_g p0_0) → va_S A s.heap H locs → lv_has ls 5 [(0, .ref h0), (3, .int y3)] → W p l e (rmX 3 87) s m ar below meth c H locs 0 0 Q (F0 m 243 ls [])) → W p l e (rmX 3 87) s m ar below meth c H locs 0 0 Q (F0 m 216 ls []) := by
    intro n
    induction n with
    | zero =>
      intro y3 y4 c0__all c0__v c0__loss c0__isOver c0_p p0_0 H locs ls hP hD hS hl hok
      rw [fX9_steps_L216] at hok
      cases hok
    | succ n ih =>
      intro y3 y4 c0__all c0__v c0__loss c0__isOver c0_p p0_0 H locs ls hP hD hS hl hok K
      rw [fX9_steps_L216] at hok
      refine lv_iload hx hb dX9_steps_216 (lv_at hl 2 rfl) ?_
      refine lv_if_le (tgt := 243) hx hb dX9_steps_218 (by decide) (fun c => ?_) (fun c => ?_)
      · replace hok := g_pos hok c
        cases hok
        exact K _ _ _ hP hD hS (lv_sub hl [0, 1] rfl)
      replace hok := g_neg hok c
      refine lv_aload_n hx hb dX9_steps_221 rfl (lv_at hl 0 rfl) ?_
      refine va_get (ci := 9) (v := .ref h0_p) (C := RX9) (T := TX9) (N := 49) hx hb hts hinX9 hown hK hP 0 rfl rfl 7 (by decide) (hts _ (List.mem_of_getElem? (i := 6) rfl)) (fun _ h9 => h9) rfl dX9_steps_222 ?_
      refine lv_iload hx hb dX9_steps_225 (lv_at hl 2 rfl) ?_
      refine lv_aload_n hx hb dX9_steps_227 rfl (lv_at hl 0 rfl) ?_
      refine va_get (ci := 9) (v := .ref h0_p) (C := RX9) (T := TX9) (N := 49) hx hb hts hinX9 hown hK hP 0 rfl rfl 7 (by decide) (hts _ (List.mem_of_getElem? (i := 6) rfl)) (fun _ h9 => h9) rfl dX9_steps_228 ?_
      refine lv_iload hx hb dX9_steps_231 (lv_at hl 2 rfl) ?_
      refine lv_iconst (v := 1) hx hb dX9_steps_233 (by decide) ?_
      refine lv_isub hx hb dX9_steps_234 ?_
      obtain ⟨hin, hok⟩ := g_no hok
      refine x_iald (k := (y4 - (1:Int32)).toNatClampNeg) hx hb hK hP 2 0 rfl rfl hin rfl dX9_steps_235 ?_
      obtain ⟨hin, hok⟩ := g_no hok
      refine x_iast (k := y4.toNatClampNeg) hx hb hK hP hD hS 2 0 rfl rfl hin rfl dX9_steps_236 (fun H locs hP hD hS => ?_)
      have hP : va_P G vwCl (wm_X9_begins cA h0 h0_g h0_p h0_kept h0_changed h0_causes h0_rows h0_sorts h0_sizes h0_moved h0_outs h0_losses h0_levelOf h0_levelOften h0_to h0_round h0_tail h0_path h0_leastOn h0_period h0_amplitude h0_basin h0_numbered h0_isReached h0_tape h0_told h0_traced s0__isKept s0__done s0__undoable s0__redoable c0__all c0__v c0__loss c0__isOver s0__hasCauses s0__outMany s0__overMany s0__isHalted s0__levelMany s0__rounds s0__stuck s0__onRounds s0__longest s0__loudest s0__reached s0__isAnyOver s0__taped s0__at s0__ran s0_g (upd c0_p y4.toNatClampNeg (c0_p (y4 - (1:Int32)).toNatClampNeg))) H := hP
      have hD : va_D A (wm_X9_begins cA h0 h0_g h0_p h0_kept h0_changed h0_causes h0_rows h0_sorts h0_sizes h0_moved h0_outs h0_losses h0_levelOf h0_levelOften h0_to h0_round h0_tail h0_path h0_leastOn h0_period h0_amplitude h0_basin h0_numbered h0_isReached h0_tape h0_told h0_traced s0__isKept s0__done s0__undoable s0__redoable c0__all c0__v c0__loss c0__isOver s0__hasCauses s0__outMany s0__overMany s0__isHalted s0__levelMany s0__rounds s0__stuck s0__onRounds s0__longest s0__loudest s0__reached s0__isAnyOver s0__taped s0__at s0__ran s0_g (upd c0_p y4.toNatClampNeg (c0_p (y4 - (1:Int32)).toNatClampNeg))) := hD
      refine lv_iinc (v := (y4 + (-1))) (lv' := [(4, .int (y4 + (-1))), (0, .ref h0), (3, .int y3)]) hx hb dX9_steps_237 hl (k := 2) rfl rfl (by decide) rfl (fun ls hl => ?_)
      refine lv_goto (tgt := 216) hx hb dX9_steps_240 (by decide) ?_
      exact ih y3 (y4 + (-1)) c0__all c0__v c0__loss c0__isOver (upd c0_p y4.toNatClampNeg (c0_p (y4 - (1:Int32)).toNatClampNeg)) p0_0 _ _ _ hP hD hS (lv_sub hl [1, 2, 0] rfl) hok K
  have J_198 : ∀ (z0 : Int32) (c0__all : Int32) (c0__v : Int32) (c0__loss : Int32) (c0__isOver : Int32) (c0_p : Nat → Int32) (H : Heap) (locs : List Loc) (ls : Array Slot), va_P G vwCl (wm_X9_begins cA h0 h0_g h0_p h0_kept h0_changed h0_causes h0_rows h0_sorts h0_sizes h0_moved h0_outs h0_losses h0_levelOf h0_levelOften h0_to h0_round h0_tail h0_path h0_leastOn h0_period h0_amplitude h0_basin h0_numbered h0_isReached h0_tape h0_told h0_traced s0__isKept s0__done s0__undoable s0__redoable c0__all c0__v c0__loss c0__isOver s0__hasCauses s0__outMany s0__overMany s0__isHalted s0__levelMany s0__rounds s0__stuck s0__onRounds s0__longest s0__loudest s0__reached s0__isAnyOver s0__taped s0__at s0__ran s0_g c0_p) H → va_D A (wm_X9_begins cA h0 h0_g h0_p h0_kept h0_changed h0_causes h0_rows h0_sorts h0_sizes h0_moved h0_outs h0_losses h0_levelOf h0_levelOften h0_to h0_round h0_tail h0_path h0_leastOn h0_period h0_amplitude h0_basin h0_numbered h0_isReached h0_tape h0_told h0_traced s0__isKept s0__done s0__undoable s0__redoable c0__all c0__v c0__loss c0__isOver s0__hasCauses s0__outMany s0__overMany s0__isHalted s0__levelMany s0__rounds s0__stuck s0__onRounds s0__longest s0__loudest s0__reached s0__isAnyOver s0__taped s0__at s0__ran s0_g c0_p) → va_S A s.heap H locs → lv_has ls 5 [(0, .ref h0)] → fX9_steps_j198 x1 s0_g z0 c0__all c0__v c0__loss c0__isOver c0_p = some (r, o0__all, o0__v, o0__loss, o0__isOver, o0_p) → W p l e (rmX 3 87) s m ar below meth c H locs 0 0 Q (F0 m 198 ls [.int z0]) := by
    intro z0 c0__all c0__v c0__loss c0__isOver c0_p H locs ls hP hD hS hl hok
    unfold fX9_steps_j198 at hok
    refine lv_istore_n (lv' := [(3, .int z0), (0, .ref h0)]) hx hb dX9_steps_198 rfl hl (by decide) rfl (fun ls hl => ?_)
    refine lv_iload_n hx hb dX9_steps_199 rfl (lv_at hl 0 rfl) ?_
    refine lv_sipush (v := -1005) hx hb dX9_steps_200 (by decide) ?_
    refine lv_icmp_eq (tgt := 250) hx hb dX9_steps_203 (by decide) (fun c => ?_) (fun c => ?_)
    · replace hok := g_pos hok c
      refine lv_iload_n hx hb dX9_steps_250 rfl (lv_at hl 0 rfl) ?_
      cases hok
      exact cr_i hx hb hr hlocks hQ dX9_steps_251 hP hS
    replace hok := g_neg hok c
    refine lv_aload_n hx hb dX9_steps_206 rfl (lv_at hl 1 rfl) ?_
    refine va_get (ci := 9) (v := .ref h0_g) (C := RX9) (T := TX9) (N := 49) hx hb hts hinX9 hown hK hP 0 rfl rfl 0 (by decide) (hts _ (List.mem_of_getElem? (i := 2) rfl)) (fun _ h9 => h9) rfl dX9_steps_207 ?_
    refine lv_iconst (v := 0) hx hb dX9_steps_210 (by decide) ?_
    refine x_iald (k := 0) hx hb hK hP 1 0 rfl rfl (show ¬ ((0:Int32) < 0 ∨ 13 ≤ (0:Int32).toNatClampNeg) by decide) (by decide) dX9_steps_211 ?_
    refine lv_iconst (v := 1) hx hb dX9_steps_212 (by decide) ?_
    refine lv_isub hx hb dX9_steps_213 ?_
    refine lv_istore (lv' := [(4, .int ((s0_g 0) - (1:Int32))), (3, .int z0), (0, .ref h0)]) hx hb dX9_steps_214 hl (by decide) rfl (fun ls hl => ?_)
    obtain ⟨o7, hq, hok⟩ := g_bnd1 hok
    refine L_216 FUEL z0 ((s0_g 0) - (1:Int32)) c0__all c0__v c0__loss c0__isOver c0_p o7 _ _ _ hP hD hS (lv_sub hl [2, 1, 0] rfl) hq (fun H locs ls hP hD hS hl => ?_)
    refine lv_aload_n hx hb dX9_steps_243 rfl (lv_at hl 0 rfl) ?_
    refine va_get (ci := 9) (v := .ref h0_p) (C := RX9) (T := TX9) (N := 49) hx hb hts hinX9 hown hK hP 0 rfl rfl 7 (by decide) (hts _ (List.mem_of_getElem? (i := 6) rfl)) (fun _ h9 => h9) rfl dX9_steps_244 ?_
    refine lv_iconst (v := 0) hx hb dX9_steps_247 (by decide) ?_
    refine lv_iload_n hx hb dX9_steps_248 rfl (lv_at hl 1 rfl) ?_
    refine x_iast (k := 0) hx hb hK hP hD hS 2 0 rfl rfl (show ¬ ((0:Int32) < 0 ∨ 3 ≤ (0:Int32).toNatClampNeg) by decide) (by decide) dX9_steps_249 (fun H locs hP hD hS => ?_)
    have hP : va_P G vwCl (wm_X9_begins cA h0 h0_g h0_p h0_kept h0_changed h0_causes h0_rows h0_sorts h0_sizes h0_moved h0_outs h0_losses h0_levelOf h0_levelOften h0_to h0_round h0_tail h0_path h0_leastOn h0_period h0_amplitude h0_basin h0_numbered h0_isReached h0_tape h0_told h0_traced s0__isKept s0__done s0__undoable s0__redoable c0__all c0__v c0__loss c0__isOver s0__hasCauses s0__outMany s0__overMany s0__isHalted s0__levelMany s0__rounds s0__stuck s0__onRounds s0__longest s0__loudest s0__reached s0__isAnyOver s0__taped s0__at s0__ran s0_g (upd o7 0 z0)) H := hP
    have hD : va_D A (wm_X9_begins cA h0 h0_g h0_p h0_kept h0_changed h0_causes h0_rows h0_sorts h0_sizes h0_moved h0_outs h0_losses h0_levelOf h0_levelOften h0_to h0_round h0_tail h0_path h0_leastOn h0_period h0_amplitude h0_basin h0_numbered h0_isReached h0_tape h0_told h0_traced s0__isKept s0__done s0__undoable s0__redoable c0__all c0__v c0__loss c0__isOver s0__hasCauses s0__outMany s0__overMany s0__isHalted s0__levelMany s0__rounds s0__stuck s0__onRounds s0__longest s0__loudest s0__reached s0__isAnyOver s0__taped s0__at s0__ran s0_g (upd o7 0 z0)) := hD
    refine lv_iload_n hx hb dX9_steps_250 rfl (lv_at hl 1 rfl) ?_
    cases hok
    exact cr_i hx hb hr hlocks hQ dX9_steps_251 hP hS
  have J_160 : ∀ (z1 : Int32) (c0__all : Int32) (c0__v : Int32) (c0__loss : Int32) (c0__isOver : Int32) (c0_p : Nat → Int32) (H : Heap) (locs : List Loc) (ls : Array Slot), va_P G vwCl (wm_X9_begins cA h0 h0_g h0_p h0_kept h0_changed h0_causes h0_rows h0_sorts h0_sizes h0_moved h0_outs h0_losses h0_levelOf h0_levelOften h0_to h0_round h0_tail h0_path h0_leastOn h0_period h0_amplitude h0_basin h0_numbered h0_isReached h0_tape h0_told h0_traced s0__isKept s0__done s0__undoable s0__redoable c0__all c0__v c0__loss c0__isOver s0__hasCauses s0__outMany s0__overMany s0__isHalted s0__levelMany s0__rounds s0__stuck s0__onRounds s0__longest s0__loudest s0__reached s0__isAnyOver s0__taped s0__at s0__ran s0_g c0_p) H → va_D A (wm_X9_begins cA h0 h0_g h0_p h0_kept h0_changed h0_causes h0_rows h0_sorts h0_sizes h0_moved h0_outs h0_losses h0_levelOf h0_levelOften h0_to h0_round h0_tail h0_path h0_leastOn h0_period h0_amplitude h0_basin h0_numbered h0_isReached h0_tape h0_told h0_traced s0__isKept s0__done s0__undoable s0__redoable c0__all c0__v c0__loss c0__isOver s0__hasCauses s0__outMany s0__overMany s0__isHalted s0__levelMany s0__rounds s0__stuck s0__onRounds s0__longest s0__loudest s0__reached s0__isAnyOver s0__taped s0__at s0__ran s0_g c0_p) → va_S A s.heap H locs → lv_has ls 5 [(0, .ref h0)] → fX9_steps_j160 x1 s0_g z1 c0__all c0__v c0__loss c0__isOver c0_p = some (r, o0__all, o0__v, o0__loss, o0__isOver, o0_p) → W p l e (rmX 3 87) s m ar below meth c H locs 0 0 Q (F0 m 160 ls [.int z1, .ref h0]) := by
    intro z1 c0__all c0__v c0__loss c0__isOver c0_p H locs ls hP hD hS hl hok
    unfold fX9_steps_j160 at hok
    obtain ⟨hin, hok⟩ := g_no hok
    refine va_put (D := G) (ci := 9) (v := .int z1) (ty := .boolean) (C := RX9) (T := TX9) (N := 49) hx hb hts hinX9 tyX9 tyX9_ok nmX9 hown hK hP hD hS 0 rfl rfl 11 (by decide) (hts _ (List.mem_of_getElem? (i := 5) rfl)) (fun _ h9 => h9) rfl (by decide +kernel) (nar_z hin) (fit_z hin) (Nat.le_of_ble_eq_true rfl) dX9_steps_160 (fun H locs hP hD hS => ?_)
    have hP : va_P G vwCl (wm_X9_begins cA h0 h0_g h0_p h0_kept h0_changed h0_causes h0_rows h0_sorts h0_sizes h0_moved h0_outs h0_losses h0_levelOf h0_levelOften h0_to h0_round h0_tail h0_path h0_leastOn h0_period h0_amplitude h0_basin h0_numbered h0_isReached h0_tape h0_told h0_traced s0__isKept s0__done s0__undoable s0__redoable c0__all c0__v c0__loss z1 s0__hasCauses s0__outMany s0__overMany s0__isHalted s0__levelMany s0__rounds s0__stuck s0__onRounds s0__longest s0__loudest s0__reached s0__isAnyOver s0__taped s0__at s0__ran s0_g c0_p) H := hP
    have hD : va_D A (wm_X9_begins cA h0 h0_g h0_p h0_kept h0_changed h0_causes h0_rows h0_sorts h0_sizes h0_moved h0_outs h0_losses h0_levelOf h0_levelOften h0_to h0_round h0_tail h0_path h0_leastOn h0_period h0_amplitude h0_basin h0_numbered h0_isReached h0_tape h0_told h0_traced s0__isKept s0__done s0__undoable s0__redoable c0__all c0__v c0__loss z1 s0__hasCauses s0__outMany s0__overMany s0__isHalted s0__levelMany s0__rounds s0__stuck s0__onRounds s0__longest s0__loudest s0__reached s0__isAnyOver s0__taped s0__at s0__ran s0_g c0_p) := hD
    refine lv_aload_n hx hb dX9_steps_163 rfl (lv_at hl 0 rfl) ?_
    refine va_get (ci := 9) (v := .int z1) (C := RX9) (T := TX9) (N := 49) hx hb hts hinX9 hown hK hP 0 rfl rfl 11 (by decide) (hts _ (List.mem_of_getElem? (i := 5) rfl)) (fun _ h9 => h9) rfl dX9_steps_164 ?_
    refine lv_if_eq (tgt := 194) hx hb dX9_steps_167 (by decide) (fun c => ?_) (fun c => ?_)
    · replace hok := g_pos hok c
      refine lv_aload_n hx hb dX9_steps_194 rfl (lv_at hl 0 rfl) ?_
      refine va_get (ci := 9) (v := .int c0__v) (C := RX9) (T := TX9) (N := 49) hx hb hts hinX9 hown hK hP 0 rfl rfl 9 (by decide) (hts _ (List.mem_of_getElem? (i := 3) rfl)) (fun _ h9 => h9) rfl dX9_steps_195 ?_
      exact J_198 c0__v c0__all c0__v c0__loss z1 c0_p _ _ _ hP hD hS (lv_sub hl [0] rfl) hok
    replace hok := g_neg hok c
    refine lv_aload_n hx hb dX9_steps_170 rfl (lv_at hl 0 rfl) ?_
    refine lv_aload_n hx hb dX9_steps_171 rfl (lv_at hl 0 rfl) ?_
    refine va_get (ci := 9) (v := .ref h0_g) (C := RX9) (T := TX9) (N := 49) hx hb hts hinX9 hown hK hP 0 rfl rfl 0 (by decide) (hts _ (List.mem_of_getElem? (i := 2) rfl)) (fun _ h9 => h9) rfl dX9_steps_172 ?_
    refine lv_bipush (v := 8) hx hb dX9_steps_175 (by decide) ?_
    refine x_iald (k := 8) hx hb hK hP 1 0 rfl rfl (show ¬ ((8:Int32) < 0 ∨ 13 ≤ (8:Int32).toNatClampNeg) by decide) (by decide) dX9_steps_177 ?_
    refine lv_aload_n hx hb dX9_steps_178 rfl (lv_at hl 0 rfl) ?_
    refine va_get (ci := 9) (v := .int c0__v) (C := RX9) (T := TX9) (N := 49) hx hb hts hinX9 hown hK hP 0 rfl rfl 9 (by decide) (hts _ (List.mem_of_getElem? (i := 3) rfl)) (fun _ h9 => h9) rfl dX9_steps_179 ?_
    refine lv_aload_n hx hb dX9_steps_182 rfl (lv_at hl 0 rfl) ?_
    refine va_get (ci := 9) (v := .ref h0_p) (C := RX9) (T := TX9) (N := 49) hx hb hts hinX9 hown hK hP 0 rfl rfl 7 (by decide) (hts _ (List.mem_of_getElem? (i := 6) rfl)) (fun _ h9 => h9) rfl dX9_steps_183 ?_
    refine lv_iconst (v := 0) hx hb dX9_steps_186 (by decide) ?_
    refine x_iald (k := 0) hx hb hK hP 2 0 rfl rfl (show ¬ ((0:Int32) < 0 ∨ 3 ≤ (0:Int32).toNatClampNeg) by decide) (by decide) dX9_steps_187 ?_
    obtain ⟨r8, hq, hok⟩ := g_bnd1 hok
    refine cG (is := [0, 1]) (wc := (wm_X9_half cA h0 h0_g h0_kept h0_changed h0_p h0_causes h0_rows h0_sorts h0_sizes h0_moved h0_outs h0_losses h0_levelOf h0_levelOften h0_to h0_round h0_tail h0_path h0_leastOn h0_period h0_amplitude h0_basin h0_numbered h0_isReached h0_tape h0_told h0_traced s0__isKept s0__done s0__undoable s0__redoable c0__all c0__v c0__loss z1 s0__hasCauses s0__outMany s0__overMany s0__isHalted s0__levelMany s0__rounds s0__stuck s0__onRounds s0__longest s0__loudest s0__reached s0__isAnyOver s0__taped s0__at s0__ran s0_g)) (w1 := (wm_X9_half cA h0 h0_g h0_kept h0_changed h0_p h0_causes h0_rows h0_sorts h0_sizes h0_moved h0_outs h0_losses h0_levelOf h0_levelOften h0_to h0_round h0_tail h0_path h0_leastOn h0_period h0_amplitude h0_basin h0_numbered h0_isReached h0_tape h0_told h0_traced s0__isKept s0__done s0__undoable s0__redoable c0__all c0__v c0__loss z1 s0__hasCauses s0__outMany s0__overMany s0__isHalted s0__levelMany s0__rounds s0__stuck s0__onRounds s0__longest s0__loudest s0__reached s0__isAnyOver s0__taped s0__at s0__ran s0_g)) (rv := (some (.int r8))) (st1 := [.int r8]) (va_runV (Ts := wsX9_steps) (As := [.int (s0_g 8), .int c0__v, .int (c0_p 0)]) (rest := []) ⟨hx, hb, hml, hown, hts⟩ (c_X9_boundedBy l G cA ts h0 h0_g h0_kept h0_changed h0_p h0_causes h0_rows h0_sorts h0_sizes h0_moved h0_outs h0_losses h0_levelOf h0_levelOften h0_to h0_round h0_tail h0_path h0_leastOn h0_period h0_amplitude h0_basin h0_numbered h0_isReached h0_tape h0_told h0_traced (s0_g 8) c0__v (c0_p 0) s0__isKept s0__done s0__undoable s0__redoable c0__all c0__v c0__loss z1 s0__hasCauses s0__outMany s0__overMany s0__isHalted s0__levelMany s0__rounds s0__stuck s0__onRounds s0__longest s0__loudest s0__reached s0__isAnyOver s0__taped s0__at s0__ran s0_g r8 hq H.size) (cwV 3 hts gX9_steps_X9_boundedBy rfl rfl rfl (by decide +kernel) ⟨Nat.le_of_ble_eq_true rfl, Nat.le_of_ble_eq_true rfl⟩) (pre_V (ci := 9) (q0 := 0) (is := [0, 1]) rfl rfl hP hD hS hA hK hZ (by decide +kernel) (by rfl)) rfl rfl hl.1 rfl (by exact lv_room (Nat.le_of_ble_eq_true rfl)) dX9_steps_188 ⟨Nat.le_refl _, Nat.le_refl _⟩) hP hD hS hA (by decide +kernel) (by rfl) (by rfl) rfl (fun H locs hP hD hS => ?_)
    have hP : va_P G vwCl (wm_X9_begins cA h0 h0_g h0_p h0_kept h0_changed h0_causes h0_rows h0_sorts h0_sizes h0_moved h0_outs h0_losses h0_levelOf h0_levelOften h0_to h0_round h0_tail h0_path h0_leastOn h0_period h0_amplitude h0_basin h0_numbered h0_isReached h0_tape h0_told h0_traced s0__isKept s0__done s0__undoable s0__redoable c0__all c0__v c0__loss z1 s0__hasCauses s0__outMany s0__overMany s0__isHalted s0__levelMany s0__rounds s0__stuck s0__onRounds s0__longest s0__loudest s0__reached s0__isAnyOver s0__taped s0__at s0__ran s0_g c0_p) H := hP
    have hD : va_D A (wm_X9_begins cA h0 h0_g h0_p h0_kept h0_changed h0_causes h0_rows h0_sorts h0_sizes h0_moved h0_outs h0_losses h0_levelOf h0_levelOften h0_to h0_round h0_tail h0_path h0_leastOn h0_period h0_amplitude h0_basin h0_numbered h0_isReached h0_tape h0_told h0_traced s0__isKept s0__done s0__undoable s0__redoable c0__all c0__v c0__loss z1 s0__hasCauses s0__outMany s0__overMany s0__isHalted s0__levelMany s0__rounds s0__stuck s0__onRounds s0__longest s0__loudest s0__reached s0__isAnyOver s0__taped s0__at s0__ran s0_g c0_p) := hD
    refine lv_goto (tgt := 198) hx hb dX9_steps_191 (by decide) ?_
    exact J_198 r8 c0__all c0__v c0__loss z1 c0_p _ _ _ hP hD hS (lv_sub hl [0] rfl) hok
  have J_118 : ∀ (z1 : Int32) (c0__all : Int32) (c0__v : Int32) (c0__loss : Int32) (c0__isOver : Int32) (c0_p : Nat → Int32) (H : Heap) (locs : List Loc) (ls : Array Slot), va_P G vwCl (wm_X9_begins cA h0 h0_g h0_p h0_kept h0_changed h0_causes h0_rows h0_sorts h0_sizes h0_moved h0_outs h0_losses h0_levelOf h0_levelOften h0_to h0_round h0_tail h0_path h0_leastOn h0_period h0_amplitude h0_basin h0_numbered h0_isReached h0_tape h0_told h0_traced s0__isKept s0__done s0__undoable s0__redoable c0__all c0__v c0__loss c0__isOver s0__hasCauses s0__outMany s0__overMany s0__isHalted s0__levelMany s0__rounds s0__stuck s0__onRounds s0__longest s0__loudest s0__reached s0__isAnyOver s0__taped s0__at s0__ran s0_g c0_p) H → va_D A (wm_X9_begins cA h0 h0_g h0_p h0_kept h0_changed h0_causes h0_rows h0_sorts h0_sizes h0_moved h0_outs h0_losses h0_levelOf h0_levelOften h0_to h0_round h0_tail h0_path h0_leastOn h0_period h0_amplitude h0_basin h0_numbered h0_isReached h0_tape h0_told h0_traced s0__isKept s0__done s0__undoable s0__redoable c0__all c0__v c0__loss c0__isOver s0__hasCauses s0__outMany s0__overMany s0__isHalted s0__levelMany s0__rounds s0__stuck s0__onRounds s0__longest s0__loudest s0__reached s0__isAnyOver s0__taped s0__at s0__ran s0_g c0_p) → va_S A s.heap H locs → lv_has ls 5 [(0, .ref h0)] → fX9_steps_j118 x1 s0_g z1 c0__all c0__v c0__loss c0__isOver c0_p = some (r, o0__all, o0__v, o0__loss, o0__isOver, o0_p) → W p l e (rmX 3 87) s m ar below meth c H locs 0 0 Q (F0 m 118 ls [.int z1, .ref h0]) := by
    intro z1 c0__all c0__v c0__loss c0__isOver c0_p H locs ls hP hD hS hl hok
    unfold fX9_steps_j118 at hok
    refine va_put (D := G) (ci := 9) (v := .int z1) (ty := .int) (C := RX9) (T := TX9) (N := 49) hx hb hts hinX9 tyX9 tyX9_ok nmX9 hown hK hP hD hS 0 rfl rfl 9 (by decide) (hts _ (List.mem_of_getElem? (i := 3) rfl)) (fun _ h9 => h9) rfl (by decide +kernel) rfl rfl (Nat.le_of_ble_eq_true rfl) dX9_steps_118 (fun H locs hP hD hS => ?_)
    have hP : va_P G vwCl (wm_X9_begins cA h0 h0_g h0_p h0_kept h0_changed h0_causes h0_rows h0_sorts h0_sizes h0_moved h0_outs h0_losses h0_levelOf h0_levelOften h0_to h0_round h0_tail h0_path h0_leastOn h0_period h0_amplitude h0_basin h0_numbered h0_isReached h0_tape h0_told h0_traced s0__isKept s0__done s0__undoable s0__redoable c0__all z1 c0__loss c0__isOver s0__hasCauses s0__outMany s0__overMany s0__isHalted s0__levelMany s0__rounds s0__stuck s0__onRounds s0__longest s0__loudest s0__reached s0__isAnyOver s0__taped s0__at s0__ran s0_g c0_p) H := hP
    have hD : va_D A (wm_X9_begins cA h0 h0_g h0_p h0_kept h0_changed h0_causes h0_rows h0_sorts h0_sizes h0_moved h0_outs h0_losses h0_levelOf h0_levelOften h0_to h0_round h0_tail h0_path h0_leastOn h0_period h0_amplitude h0_basin h0_numbered h0_isReached h0_tape h0_told h0_traced s0__isKept s0__done s0__undoable s0__redoable c0__all z1 c0__loss c0__isOver s0__hasCauses s0__outMany s0__overMany s0__isHalted s0__levelMany s0__rounds s0__stuck s0__onRounds s0__longest s0__loudest s0__reached s0__isAnyOver s0__taped s0__at s0__ran s0_g c0_p) := hD
    refine lv_aload_n hx hb dX9_steps_121 rfl (lv_at hl 0 rfl) ?_
    refine lv_aload_n hx hb dX9_steps_122 rfl (lv_at hl 0 rfl) ?_
    refine va_get (ci := 9) (v := .int z1) (C := RX9) (T := TX9) (N := 49) hx hb hts hinX9 hown hK hP 0 rfl rfl 9 (by decide) (hts _ (List.mem_of_getElem? (i := 3) rfl)) (fun _ h9 => h9) rfl dX9_steps_123 ?_
    refine lv_aload_n hx hb dX9_steps_126 rfl (lv_at hl 0 rfl) ?_
    refine va_get (ci := 9) (v := .ref h0_g) (C := RX9) (T := TX9) (N := 49) hx hb hts hinX9 hown hK hP 0 rfl rfl 0 (by decide) (hts _ (List.mem_of_getElem? (i := 2) rfl)) (fun _ h9 => h9) rfl dX9_steps_127 ?_
    refine lv_bipush (v := 6) hx hb dX9_steps_130 (by decide) ?_
    refine x_iald (k := 6) hx hb hK hP 1 0 rfl rfl (show ¬ ((6:Int32) < 0 ∨ 13 ≤ (6:Int32).toNatClampNeg) by decide) (by decide) dX9_steps_132 ?_
    refine lv_ishl hx hb dX9_steps_133 ?_
    refine lv_aload_n hx hb dX9_steps_134 rfl (lv_at hl 0 rfl) ?_
    refine va_get (ci := 9) (v := .int c0__all) (C := RX9) (T := TX9) (N := 49) hx hb hts hinX9 hown hK hP 0 rfl rfl 8 (by decide) (hts _ (List.mem_of_getElem? (i := 1) rfl)) (fun _ h9 => h9) rfl dX9_steps_135 ?_
    refine lv_isub hx hb dX9_steps_138 ?_
    refine va_put (D := G) (ci := 9) (v := .int ((z1 <<< ((s0_g 6) &&& 31)) - c0__all)) (ty := .int) (C := RX9) (T := TX9) (N := 49) hx hb hts hinX9 tyX9 tyX9_ok nmX9 hown hK hP hD hS 0 rfl rfl 10 (by decide) (hts _ (List.mem_of_getElem? (i := 4) rfl)) (fun _ h9 => h9) rfl (by decide +kernel) rfl rfl (Nat.le_of_ble_eq_true rfl) dX9_steps_139 (fun H locs hP hD hS => ?_)
    have hP : va_P G vwCl (wm_X9_begins cA h0 h0_g h0_p h0_kept h0_changed h0_causes h0_rows h0_sorts h0_sizes h0_moved h0_outs h0_losses h0_levelOf h0_levelOften h0_to h0_round h0_tail h0_path h0_leastOn h0_period h0_amplitude h0_basin h0_numbered h0_isReached h0_tape h0_told h0_traced s0__isKept s0__done s0__undoable s0__redoable c0__all z1 ((z1 <<< ((s0_g 6) &&& 31)) - c0__all) c0__isOver s0__hasCauses s0__outMany s0__overMany s0__isHalted s0__levelMany s0__rounds s0__stuck s0__onRounds s0__longest s0__loudest s0__reached s0__isAnyOver s0__taped s0__at s0__ran s0_g c0_p) H := hP
    have hD : va_D A (wm_X9_begins cA h0 h0_g h0_p h0_kept h0_changed h0_causes h0_rows h0_sorts h0_sizes h0_moved h0_outs h0_losses h0_levelOf h0_levelOften h0_to h0_round h0_tail h0_path h0_leastOn h0_period h0_amplitude h0_basin h0_numbered h0_isReached h0_tape h0_told h0_traced s0__isKept s0__done s0__undoable s0__redoable c0__all z1 ((z1 <<< ((s0_g 6) &&& 31)) - c0__all) c0__isOver s0__hasCauses s0__outMany s0__overMany s0__isHalted s0__levelMany s0__rounds s0__stuck s0__onRounds s0__longest s0__loudest s0__reached s0__isAnyOver s0__taped s0__at s0__ran s0_g c0_p) := hD
    refine lv_aload_n hx hb dX9_steps_142 rfl (lv_at hl 0 rfl) ?_
    refine lv_aload_n hx hb dX9_steps_143 rfl (lv_at hl 0 rfl) ?_
    refine lv_aload_n hx hb dX9_steps_144 rfl (lv_at hl 0 rfl) ?_
    refine va_get (ci := 9) (v := .int z1) (C := RX9) (T := TX9) (N := 49) hx hb hts hinX9 hown hK hP 0 rfl rfl 9 (by decide) (hts _ (List.mem_of_getElem? (i := 3) rfl)) (fun _ h9 => h9) rfl dX9_steps_145 ?_
    refine lv_i2l (v := (z1.toInt64)) hx hb dX9_steps_148 rfl ?_
    obtain ⟨r6, hq, hok⟩ := g_bnd1 hok
    refine cG (is := [0, 1]) (wc := (wm_X9_half cA h0 h0_g h0_kept h0_changed h0_p h0_causes h0_rows h0_sorts h0_sizes h0_moved h0_outs h0_losses h0_levelOf h0_levelOften h0_to h0_round h0_tail h0_path h0_leastOn h0_period h0_amplitude h0_basin h0_numbered h0_isReached h0_tape h0_told h0_traced s0__isKept s0__done s0__undoable s0__redoable c0__all z1 ((z1 <<< ((s0_g 6) &&& 31)) - c0__all) c0__isOver s0__hasCauses s0__outMany s0__overMany s0__isHalted s0__levelMany s0__rounds s0__stuck s0__onRounds s0__longest s0__loudest s0__reached s0__isAnyOver s0__taped s0__at s0__ran s0_g)) (w1 := (wm_X9_half cA h0 h0_g h0_kept h0_changed h0_p h0_causes h0_rows h0_sorts h0_sizes h0_moved h0_outs h0_losses h0_levelOf h0_levelOften h0_to h0_round h0_tail h0_path h0_leastOn h0_period h0_amplitude h0_basin h0_numbered h0_isReached h0_tape h0_told h0_traced s0__isKept s0__done s0__undoable s0__redoable c0__all z1 ((z1 <<< ((s0_g 6) &&& 31)) - c0__all) c0__isOver s0__hasCauses s0__outMany s0__overMany s0__isHalted s0__levelMany s0__rounds s0__stuck s0__onRounds s0__longest s0__loudest s0__reached s0__isAnyOver s0__taped s0__at s0__ran s0_g)) (rv := (some (.int r6))) (st1 := [.int r6, .ref h0]) (va_runV (Ts := wsX9_steps) (As := [.long (z1.toInt64)]) (rest := [.ref h0]) ⟨hx, hb, hml, hown, hts⟩ (c_X9_isWord l G cA ts h0 h0_g h0_kept h0_changed h0_p h0_causes h0_rows h0_sorts h0_sizes h0_moved h0_outs h0_losses h0_levelOf h0_levelOften h0_to h0_round h0_tail h0_path h0_leastOn h0_period h0_amplitude h0_basin h0_numbered h0_isReached h0_tape h0_told h0_traced (z1.toInt64) s0__isKept s0__done s0__undoable s0__redoable c0__all z1 ((z1 <<< ((s0_g 6) &&& 31)) - c0__all) c0__isOver s0__hasCauses s0__outMany s0__overMany s0__isHalted s0__levelMany s0__rounds s0__stuck s0__onRounds s0__longest s0__loudest s0__reached s0__isAnyOver s0__taped s0__at s0__ran s0_g r6 hq H.size) (cwV 1 hts gX9_steps_X9_isWord rfl rfl rfl (by decide +kernel) ⟨Nat.le_of_ble_eq_true rfl, Nat.le_of_ble_eq_true rfl⟩) (pre_V (ci := 9) (q0 := 0) (is := [0, 1]) rfl rfl hP hD hS hA hK hZ (by decide +kernel) (by rfl)) rfl rfl hl.1 rfl (by exact lv_room (Nat.le_of_ble_eq_true rfl)) dX9_steps_149 ⟨Nat.le_refl _, Nat.le_refl _⟩) hP hD hS hA (by decide +kernel) (by rfl) (by rfl) rfl (fun H locs hP hD hS => ?_)
    have hP : va_P G vwCl (wm_X9_begins cA h0 h0_g h0_p h0_kept h0_changed h0_causes h0_rows h0_sorts h0_sizes h0_moved h0_outs h0_losses h0_levelOf h0_levelOften h0_to h0_round h0_tail h0_path h0_leastOn h0_period h0_amplitude h0_basin h0_numbered h0_isReached h0_tape h0_told h0_traced s0__isKept s0__done s0__undoable s0__redoable c0__all z1 ((z1 <<< ((s0_g 6) &&& 31)) - c0__all) c0__isOver s0__hasCauses s0__outMany s0__overMany s0__isHalted s0__levelMany s0__rounds s0__stuck s0__onRounds s0__longest s0__loudest s0__reached s0__isAnyOver s0__taped s0__at s0__ran s0_g c0_p) H := hP
    have hD : va_D A (wm_X9_begins cA h0 h0_g h0_p h0_kept h0_changed h0_causes h0_rows h0_sorts h0_sizes h0_moved h0_outs h0_losses h0_levelOf h0_levelOften h0_to h0_round h0_tail h0_path h0_leastOn h0_period h0_amplitude h0_basin h0_numbered h0_isReached h0_tape h0_told h0_traced s0__isKept s0__done s0__undoable s0__redoable c0__all z1 ((z1 <<< ((s0_g 6) &&& 31)) - c0__all) c0__isOver s0__hasCauses s0__outMany s0__overMany s0__isHalted s0__levelMany s0__rounds s0__stuck s0__onRounds s0__longest s0__loudest s0__reached s0__isAnyOver s0__taped s0__at s0__ran s0_g c0_p) := hD
    refine lv_if_ne (tgt := 159) hx hb dX9_steps_152 (by decide) (fun c => ?_) (fun c => ?_)
    · replace hok := g_neg hok c
      refine lv_iconst (v := 0) hx hb dX9_steps_159 (by decide) ?_
      exact J_160 (0:Int32) c0__all z1 ((z1 <<< ((s0_g 6) &&& 31)) - c0__all) c0__isOver c0_p _ _ _ hP hD hS (lv_sub hl [0] rfl) hok
    replace hok := g_pos hok c
    refine lv_iconst (v := 1) hx hb dX9_steps_155 (by decide) ?_
    refine lv_goto (tgt := 160) hx hb dX9_steps_156 (by decide) ?_
    exact J_160 (1:Int32) c0__all z1 ((z1 <<< ((s0_g 6) &&& 31)) - c0__all) c0__isOver c0_p _ _ _ hP hD hS (lv_sub hl [0] rfl) hok
  unfold fX9_steps at hok
  refine lv_aload_n hx hb dX9_steps_0 rfl (lv_at hl 0 rfl) ?_
  refine lv_iconst (v := 0) hx hb dX9_steps_1 (by decide) ?_
  refine va_put (D := G) (ci := 9) (v := .int (0:Int32)) (ty := .int) (C := RX9) (T := TX9) (N := 49) hx hb hts hinX9 tyX9 tyX9_ok nmX9 hown hK hP hD hS 0 rfl rfl 8 (by decide) (hts _ (List.mem_of_getElem? (i := 1) rfl)) (fun _ h9 => h9) rfl (by decide +kernel) rfl rfl (Nat.le_of_ble_eq_true rfl) dX9_steps_2 (fun H locs hP hD hS => ?_)
  have hP : va_P G vwCl (wm_X9_begins cA h0 h0_g h0_p h0_kept h0_changed h0_causes h0_rows h0_sorts h0_sizes h0_moved h0_outs h0_losses h0_levelOf h0_levelOften h0_to h0_round h0_tail h0_path h0_leastOn h0_period h0_amplitude h0_basin h0_numbered h0_isReached h0_tape h0_told h0_traced s0__isKept s0__done s0__undoable s0__redoable (0:Int32) s0__v s0__loss s0__isOver s0__hasCauses s0__outMany s0__overMany s0__isHalted s0__levelMany s0__rounds s0__stuck s0__onRounds s0__longest s0__loudest s0__reached s0__isAnyOver s0__taped s0__at s0__ran s0_g s0_p) H := hP
  have hD : va_D A (wm_X9_begins cA h0 h0_g h0_p h0_kept h0_changed h0_causes h0_rows h0_sorts h0_sizes h0_moved h0_outs h0_losses h0_levelOf h0_levelOften h0_to h0_round h0_tail h0_path h0_leastOn h0_period h0_amplitude h0_basin h0_numbered h0_isReached h0_tape h0_told h0_traced s0__isKept s0__done s0__undoable s0__redoable (0:Int32) s0__v s0__loss s0__isOver s0__hasCauses s0__outMany s0__overMany s0__isHalted s0__levelMany s0__rounds s0__stuck s0__onRounds s0__longest s0__loudest s0__reached s0__isAnyOver s0__taped s0__at s0__ran s0_g s0_p) := hD
  refine lv_iconst (v := 0) hx hb dX9_steps_5 (by decide) ?_
  refine lv_istore_n (lv' := [(2, .int (0:Int32)), (0, .ref h0), (1, .int x1)]) hx hb dX9_steps_6 rfl hl (by decide) rfl (fun ls hl => ?_)
  refine lv_iconst (v := 0) hx hb dX9_steps_7 (by decide) ?_
  refine lv_istore_n (lv' := [(3, .int (0:Int32)), (2, .int (0:Int32)), (0, .ref h0), (1, .int x1)]) hx hb dX9_steps_8 rfl hl (by decide) rfl (fun ls hl => ?_)
  obtain ⟨o3, o4, hq, hok⟩ := g_bnd2 hok
  refine L_9 FUEL (0:Int32) (0:Int32) (0:Int32) s0__v s0__loss s0__isOver s0_p o3 o4 _ _ _ hP hD hS (lv_sub hl [2, 3, 1, 0] rfl) hq (fun H locs ls hP hD hS hl => ?_)
  refine lv_aload_n hx hb dX9_steps_81 rfl (lv_at hl 0 rfl) ?_
  refine lv_aload_n hx hb dX9_steps_82 rfl (lv_at hl 0 rfl) ?_
  refine va_get (ci := 9) (v := .ref h0_g) (C := RX9) (T := TX9) (N := 49) hx hb hts hinX9 hown hK hP 0 rfl rfl 0 (by decide) (hts _ (List.mem_of_getElem? (i := 2) rfl)) (fun _ h9 => h9) rfl dX9_steps_83 ?_
  refine lv_bipush (v := 9) hx hb dX9_steps_86 (by decide) ?_
  refine x_iald (k := 9) hx hb hK hP 1 0 rfl rfl (show ¬ ((9:Int32) < 0 ∨ 13 ≤ (9:Int32).toNatClampNeg) by decide) (by decide) dX9_steps_88 ?_
  refine lv_iconst (v := 1) hx hb dX9_steps_89 (by decide) ?_
  refine lv_icmp_ne (tgt := 97) hx hb dX9_steps_90 (by decide) (fun c => ?_) (fun c => ?_)
  · replace hok := g_neg hok c
    refine lv_aload_n hx hb dX9_steps_97 rfl (lv_at hl 0 rfl) ?_
    refine va_get (ci := 9) (v := .ref h0_g) (C := RX9) (T := TX9) (N := 49) hx hb hts hinX9 hown hK hP 0 rfl rfl 0 (by decide) (hts _ (List.mem_of_getElem? (i := 2) rfl)) (fun _ h9 => h9) rfl dX9_steps_98 ?_
    refine lv_bipush (v := 7) hx hb dX9_steps_101 (by decide) ?_
    refine x_iald (k := 7) hx hb hK hP 1 0 rfl rfl (show ¬ ((7:Int32) < 0 ∨ 13 ≤ (7:Int32).toNatClampNeg) by decide) (by decide) dX9_steps_103 ?_
    refine lv_aload_n hx hb dX9_steps_104 rfl (lv_at hl 0 rfl) ?_
    refine va_get (ci := 9) (v := .ref h0_g) (C := RX9) (T := TX9) (N := 49) hx hb hts hinX9 hown hK hP 0 rfl rfl 0 (by decide) (hts _ (List.mem_of_getElem? (i := 2) rfl)) (fun _ h9 => h9) rfl dX9_steps_105 ?_
    refine lv_bipush (v := 6) hx hb dX9_steps_108 (by decide) ?_
    refine x_iald (k := 6) hx hb hK hP 1 0 rfl rfl (show ¬ ((6:Int32) < 0 ∨ 13 ≤ (6:Int32).toNatClampNeg) by decide) (by decide) dX9_steps_110 ?_
    refine lv_aload_n hx hb dX9_steps_111 rfl (lv_at hl 0 rfl) ?_
    refine va_get (ci := 9) (v := .int o4) (C := RX9) (T := TX9) (N := 49) hx hb hts hinX9 hown hK hP 0 rfl rfl 8 (by decide) (hts _ (List.mem_of_getElem? (i := 1) rfl)) (fun _ h9 => h9) rfl dX9_steps_112 ?_
    obtain ⟨r5, hq, hok⟩ := g_bnd1 hok
    refine cG (is := []) (wc := (wm_X0_find cA)) (w1 := (wm_X0_find cA)) (rv := (some (.int r5))) (st1 := [.int r5, .ref h0]) (va_runS (Ts := wsX9_steps) (As := [.int (s0_g 7), .int (s0_g 6), .int o4]) (rest := [.ref h0]) ⟨hx, hb, hml, hown, hts⟩ (c_X9_roundedBy l G cA ts (s0_g 7) (s0_g 6) o4 r5 hq H.size) (va_cwS 3 hts gX9_steps_X9_roundedBy rfl rfl rfl (by decide +kernel) ⟨Nat.le_of_ble_eq_true rfl, Nat.le_of_ble_eq_true rfl⟩) (pre_S (is := []) hP hD hS hA hK hZ (by decide +kernel) (by rfl)) rfl rfl hl.1 rfl (by exact lv_room (Nat.le_of_ble_eq_true rfl)) dX9_steps_115 ⟨Nat.le_refl _, Nat.le_refl _⟩) hP hD hS hA (by decide +kernel) (by rfl) (by rfl) rfl (fun H locs hP hD hS => ?_)
    have hP : va_P G vwCl (wm_X9_begins cA h0 h0_g h0_p h0_kept h0_changed h0_causes h0_rows h0_sorts h0_sizes h0_moved h0_outs h0_losses h0_levelOf h0_levelOften h0_to h0_round h0_tail h0_path h0_leastOn h0_period h0_amplitude h0_basin h0_numbered h0_isReached h0_tape h0_told h0_traced s0__isKept s0__done s0__undoable s0__redoable o4 s0__v s0__loss s0__isOver s0__hasCauses s0__outMany s0__overMany s0__isHalted s0__levelMany s0__rounds s0__stuck s0__onRounds s0__longest s0__loudest s0__reached s0__isAnyOver s0__taped s0__at s0__ran s0_g s0_p) H := hP
    have hD : va_D A (wm_X9_begins cA h0 h0_g h0_p h0_kept h0_changed h0_causes h0_rows h0_sorts h0_sizes h0_moved h0_outs h0_losses h0_levelOf h0_levelOften h0_to h0_round h0_tail h0_path h0_leastOn h0_period h0_amplitude h0_basin h0_numbered h0_isReached h0_tape h0_told h0_traced s0__isKept s0__done s0__undoable s0__redoable o4 s0__v s0__loss s0__isOver s0__hasCauses s0__outMany s0__overMany s0__isHalted s0__levelMany s0__rounds s0__stuck s0__onRounds s0__longest s0__loudest s0__reached s0__isAnyOver s0__taped s0__at s0__ran s0_g s0_p) := hD
    exact J_118 r5 o4 s0__v s0__loss s0__isOver s0_p _ _ _ hP hD hS (lv_sub hl [0] rfl) hok
  replace hok := g_pos hok c
  refine lv_iload_n hx hb dX9_steps_93 rfl (lv_at hl 1 rfl) ?_
  refine lv_goto (tgt := 118) hx hb dX9_steps_94 (by decide) ?_
  exact J_118 o3 o4 s0__v s0__loss s0__isOver s0_p _ _ _ hP hD hS (lv_sub hl [0] rfl) hok
