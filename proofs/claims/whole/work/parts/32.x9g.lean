set_option maxHeartbeats 40000000 in
set_option maxRecDepth 100000 in
theorem c_X9_common (l : Launch) (G : va_G) (cA : Nat → ClassId) (ts : Nat → Nat) (x0 : Int64) (x1 : Int64) (r : Int64) (hok : fX9_common x0 x1 = some r) : Ct l G cA ts yX9_common wsX9_common 1 80 [.long x0, .long x1] (wm_X0_find cA) (wm_X0_find cA) (some (.long r)) := by
  refine Ct.intro (cc := cX9_common) (maxL := 10) (ret := some .long) (by decide +kernel) rfl (Nat.le_of_ble_eq_true rfl) ?_
  intro p e s m ar below meth c A Q hx hb hr hml hown hlocks hts hK hZ hA hQ hP hD hS ls hl
  have hown : s.vm.findClass RX9 = some m.cls := hown
  have hl : lv_has ls 10 [(0, .long x0), (2, .long x1)] := hl
  have hP : va_P G vwCl (wm_X0_find cA) s.heap := hP
  have hD : va_D A (wm_X0_find cA) := hD
  have L_12 : ∀ (n : Nat) (y4 : Int64) (y6 : Int64) (p0_0 : Int64) (H : Heap) (locs : List Loc) (ls : Array Slot), va_P G vwCl (wm_X0_find cA) H → va_D A (wm_X0_find cA) → va_S A s.heap H locs → lv_has ls 10 [(4, .long y4), (6, .long y6)] → fX9_common_L12 x0 x1 n y4 y6 = some p0_0 → (∀ (H : Heap) (locs : List Loc) (ls : Array Slot), va_P G vwCl (wm_X0_find cA) H → va_D A (wm_X0_find cA) → va_S A s.heap H locs → lv_has ls 10 [(4, .long p0_0)] → W p l e (rmX 1 80) s m ar below meth c H locs 0 0 Q (F0 m 37 ls [])) → W p l e (rmX 1 80) s m ar below meth c H locs 0 0 Q (F0 m 12 ls []) := by
    intro n
    induction n with
    | zero =>
      intro y4 y6 p0_0 H locs ls hP hD hS hl hok
      rw [fX9_common_L12] at hok
      cases hok
    | succ n ih =>
      intro y4 y6 p0_0 H locs ls hP hD hS hl hok K
      rw [fX9_common_L12] at hok
      refine lv_lload hx hb dX9_common_12 (lv_at hl 1 rfl) ?_
      refine lv_lconst (v := 0) hx hb dX9_common_14 (by decide) ?_
      refine W.lcmp hx hb dX9_common_15 ?_
      refine lv_if_eq (tgt := 37) hx hb dX9_common_16 (by decide) (fun c => ?_) (fun c => ?_)
      · replace hok := g_pos hok c
        cases hok
        exact K _ _ _ hP hD hS (lv_sub hl [0] rfl)
      replace hok := g_neg hok c
      refine lv_lload hx hb dX9_common_19 (lv_at hl 0 rfl) ?_
      refine lv_lload hx hb dX9_common_21 (lv_at hl 1 rfl) ?_
      obtain ⟨hin, hok⟩ := g_no hok
      refine lv_lrem hx hb dX9_common_23 hin ?_
      refine lv_lstore (lv' := [(8, .long (y4 - y4 / y6 * y6)), (4, .long y4), (6, .long y6)]) hx hb dX9_common_24 hl (by decide) rfl (fun ls hl => ?_)
      refine lv_lload hx hb dX9_common_26 (lv_at hl 2 rfl) ?_
      refine lv_lstore (lv' := [(4, .long y6), (8, .long (y4 - y4 / y6 * y6)), (6, .long y6)]) hx hb dX9_common_28 hl (by decide) rfl (fun ls hl => ?_)
      refine lv_lload hx hb dX9_common_30 (lv_at hl 1 rfl) ?_
      refine lv_lstore (lv' := [(6, .long (y4 - y4 / y6 * y6)), (4, .long y6), (8, .long (y4 - y4 / y6 * y6))]) hx hb dX9_common_32 hl (by decide) rfl (fun ls hl => ?_)
      refine lv_goto (tgt := 12) hx hb dX9_common_34 (by decide) ?_
      exact ih y6 (y4 - y4 / y6 * y6) p0_0 _ _ _ hP hD hS (lv_sub hl [1, 0] rfl) hok K
  unfold fX9_common at hok
  refine lv_lload_n hx hb dX9_common_0 rfl (lv_at hl 0 rfl) ?_
  refine va_mabs_long hx hb (hml.trans hl.1.symm) hown (hts _ (List.mem_of_getElem? (i := 1) rfl)) (hts _ (List.mem_of_getElem? (i := 2) rfl)) (hts _ (List.mem_of_getElem? (i := 3) rfl)) (hts _ (List.mem_of_getElem? (i := 4) rfl)) (Nat.le_of_ble_eq_true rfl) (Nat.le_of_ble_eq_true rfl) (Nat.zero_le _) (Nat.zero_le _) dX9_common_1 ?_
  refine lv_lstore (lv' := [(4, .long (if 0 < x0 then x0 else -x0)), (0, .long x0), (2, .long x1)]) hx hb dX9_common_4 hl (by decide) rfl (fun ls hl => ?_)
  refine lv_lload_n hx hb dX9_common_6 rfl (lv_at hl 2 rfl) ?_
  refine va_mabs_long hx hb (hml.trans hl.1.symm) hown (hts _ (List.mem_of_getElem? (i := 1) rfl)) (hts _ (List.mem_of_getElem? (i := 2) rfl)) (hts _ (List.mem_of_getElem? (i := 3) rfl)) (hts _ (List.mem_of_getElem? (i := 4) rfl)) (Nat.le_of_ble_eq_true rfl) (Nat.le_of_ble_eq_true rfl) (Nat.zero_le _) (Nat.zero_le _) dX9_common_7 ?_
  refine lv_lstore (lv' := [(6, .long (if 0 < x1 then x1 else -x1)), (4, .long (if 0 < x0 then x0 else -x0)), (0, .long x0), (2, .long x1)]) hx hb dX9_common_10 hl (by decide) rfl (fun ls hl => ?_)
  obtain ⟨o1, hq, hok⟩ := g_bnd1 hok
  refine L_12 FUEL (if 0 < x0 then x0 else -x0) (if 0 < x1 then x1 else -x1) o1 _ _ _ hP hD hS (lv_sub hl [1, 0] rfl) hq (fun H locs ls hP hD hS hl => ?_)
  refine lv_lload hx hb dX9_common_37 (lv_at hl 0 rfl) ?_
  cases hok
  exact cr_l hx hb hr hlocks hQ dX9_common_39 hP hS
set_option maxHeartbeats 40000000 in
set_option maxRecDepth 100000 in
theorem c_X9_lowest (l : Launch) (G : va_G) (cA : Nat → ClassId) (ts : Nat → Nat) (x0 : Int64) (x1 : Int64) (x2 : Int32) (r : Int64) (hok : fX9_lowest x0 x1 x2 = some r) : Ct l G cA ts yX9_lowest wsX9_lowest 2 109 [.long x0, .long x1, .int x2] (wm_X0_find cA) (wm_X0_find cA) (some (.long r)) := by
  refine Ct.intro (cc := cX9_lowest) (maxL := 5) (ret := some .long) (by decide +kernel) rfl (Nat.le_of_ble_eq_true rfl) ?_
  intro p e s m ar below meth c A Q hx hb hr hml hown hlocks hts hK hZ hA hQ hP hD hS ls hl
  have hown : s.vm.findClass RX9 = some m.cls := hown
  have hl : lv_has ls 5 [(0, .long x0), (2, .long x1), (4, .int x2)] := hl
  have hP : va_P G vwCl (wm_X0_find cA) s.heap := hP
  have hD : va_D A (wm_X0_find cA) := hD
  unfold fX9_lowest at hok
  refine lv_iload hx hb dX9_lowest_0 (lv_at hl 2 rfl) ?_
  refine lv_if_ne (tgt := 9) hx hb dX9_lowest_2 (by decide) (fun c => ?_) (fun c => ?_)
  · replace hok := g_neg hok c
    refine lv_lload_n hx hb dX9_lowest_9 rfl (lv_at hl 1 rfl) ?_
    refine lv_lload_n hx hb dX9_lowest_10 rfl (lv_at hl 0 rfl) ?_
    refine lv_lload_n hx hb dX9_lowest_11 rfl (lv_at hl 1 rfl) ?_
    obtain ⟨r1, hq, hok⟩ := g_bnd1 hok
    refine cG (is := []) (wc := (wm_X0_find cA)) (w1 := (wm_X0_find cA)) (rv := (some (.long r1))) (st1 := [.long r1, .long x1]) (va_runS (Ts := wsX9_lowest) (As := [.long x0, .long x1]) (rest := [.long x1]) ⟨hx, hb, hml, hown, hts⟩ (c_X9_common l G cA ts x0 x1 r1 hq s.heap.size) (va_cwS 2 hts gX9_lowest_X9_common rfl rfl rfl (by decide +kernel) ⟨Nat.le_of_ble_eq_true rfl, Nat.le_of_ble_eq_true rfl⟩) (pre_S (is := []) hP hD hS hA hK hZ (by decide +kernel) (by rfl)) rfl rfl hl.1 rfl (by exact lv_room (Nat.le_of_ble_eq_true rfl)) dX9_lowest_12 ⟨Nat.le_refl _, Nat.le_refl _⟩) hP hD hS hA (by decide +kernel) (by rfl) (by rfl) rfl (fun H locs hP hD hS => ?_)
    have hP : va_P G vwCl (wm_X0_find cA) H := hP
    have hD : va_D A (wm_X0_find cA) := hD
    obtain ⟨hin, hok⟩ := g_no hok
    refine lv_ldiv hx hb dX9_lowest_15 hin ?_
    cases hok
    exact cr_l hx hb hr hlocks hQ dX9_lowest_16 hP hS
  replace hok := g_pos hok c
  refine lv_lload_n hx hb dX9_lowest_5 rfl (lv_at hl 0 rfl) ?_
  refine lv_goto (tgt := 10) hx hb dX9_lowest_6 (by decide) ?_
  refine lv_lload_n hx hb dX9_lowest_10 rfl (lv_at hl 0 rfl) ?_
  refine lv_lload_n hx hb dX9_lowest_11 rfl (lv_at hl 1 rfl) ?_
  obtain ⟨r2, hq, hok⟩ := g_bnd1 hok
  refine cG (is := []) (wc := (wm_X0_find cA)) (w1 := (wm_X0_find cA)) (rv := (some (.long r2))) (st1 := [.long r2, .long x0]) (va_runS (Ts := wsX9_lowest) (As := [.long x0, .long x1]) (rest := [.long x0]) ⟨hx, hb, hml, hown, hts⟩ (c_X9_common l G cA ts x0 x1 r2 hq s.heap.size) (va_cwS 2 hts gX9_lowest_X9_common rfl rfl rfl (by decide +kernel) ⟨Nat.le_of_ble_eq_true rfl, Nat.le_of_ble_eq_true rfl⟩) (pre_S (is := []) hP hD hS hA hK hZ (by decide +kernel) (by rfl)) rfl rfl hl.1 rfl (by exact lv_room (Nat.le_of_ble_eq_true rfl)) dX9_lowest_12 ⟨Nat.le_refl _, Nat.le_refl _⟩) hP hD hS hA (by decide +kernel) (by rfl) (by rfl) rfl (fun H locs hP hD hS => ?_)
  have hP : va_P G vwCl (wm_X0_find cA) H := hP
  have hD : va_D A (wm_X0_find cA) := hD
  obtain ⟨hin, hok⟩ := g_no hok
  refine lv_ldiv hx hb dX9_lowest_15 hin ?_
  cases hok
  exact cr_l hx hb hr hlocks hQ dX9_lowest_16 hP hS
set_option maxHeartbeats 40000000 in
set_option maxRecDepth 100000 in
theorem c_X9_isThere (l : Launch) (G : va_G) (cA : Nat → ClassId) (ts : Nat → Nat) (h0 : Nat) (h0_sorts : Nat) (h0_g : Nat) (h0_kept : Nat) (h0_changed : Nat) (h0_p : Nat) (h0_causes : Nat) (h0_rows : Nat) (h0_sizes : Nat) (h0_moved : Nat) (h0_outs : Nat) (h0_losses : Nat) (h0_levelOf : Nat) (h0_levelOften : Nat) (h0_to : Nat) (h0_round : Nat) (h0_tail : Nat) (h0_path : Nat) (h0_leastOn : Nat) (h0_period : Nat) (h0_amplitude : Nat) (h0_basin : Nat) (h0_numbered : Nat) (h0_isReached : Nat) (h0_tape : Nat) (h0_told : Nat) (h0_traced : Nat) (x1 : Int32) (s0__isKept : Int32) (s0__done : Int32) (s0__undoable : Int32) (s0__redoable : Int32) (s0__all : Int32) (s0__v : Int32) (s0__loss : Int32) (s0__isOver : Int32) (s0__hasCauses : Int32) (s0__outMany : Int32) (s0__overMany : Int32) (s0__isHalted : Int32) (s0__levelMany : Int32) (s0__rounds : Int32) (s0__stuck : Int32) (s0__onRounds : Int32) (s0__longest : Int32) (s0__loudest : Int32) (s0__reached : Int32) (s0__isAnyOver : Int32) (s0__taped : Int32) (s0__at : Int32) (s0__ran : Int32) (s0_sorts : Nat → Int32) (r : Int32) (hok : fX9_isThere x1 s0_sorts = some r) : Ct l G cA ts yX9_isThere wsX9_isThere 3 85 [.ref h0, .int x1] (wm_X9_isThere cA h0 h0_sorts h0_g h0_kept h0_changed h0_p h0_causes h0_rows h0_sizes h0_moved h0_outs h0_losses h0_levelOf h0_levelOften h0_to h0_round h0_tail h0_path h0_leastOn h0_period h0_amplitude h0_basin h0_numbered h0_isReached h0_tape h0_told h0_traced s0__isKept s0__done s0__undoable s0__redoable s0__all s0__v s0__loss s0__isOver s0__hasCauses s0__outMany s0__overMany s0__isHalted s0__levelMany s0__rounds s0__stuck s0__onRounds s0__longest s0__loudest s0__reached s0__isAnyOver s0__taped s0__at s0__ran s0_sorts) (wm_X9_isThere cA h0 h0_sorts h0_g h0_kept h0_changed h0_p h0_causes h0_rows h0_sizes h0_moved h0_outs h0_losses h0_levelOf h0_levelOften h0_to h0_round h0_tail h0_path h0_leastOn h0_period h0_amplitude h0_basin h0_numbered h0_isReached h0_tape h0_told h0_traced s0__isKept s0__done s0__undoable s0__redoable s0__all s0__v s0__loss s0__isOver s0__hasCauses s0__outMany s0__overMany s0__isHalted s0__levelMany s0__rounds s0__stuck s0__onRounds s0__longest s0__loudest s0__reached s0__isAnyOver s0__taped s0__at s0__ran s0_sorts) (some (.int r)) := by
  refine Ct.intro (cc := cX9_isThere) (maxL := 2) (ret := some .boolean) (by decide +kernel) rfl (Nat.le_of_ble_eq_true rfl) ?_
  intro p e s m ar below meth c A Q hx hb hr hml hown hlocks hts hK hZ hA hQ hP hD hS ls hl
  have hown : s.vm.findClass RX9 = some m.cls := hown
  have hinX9 : ∀ w ∈ wsX90, w ∈ wsX9_isThere := fun _ h => List.mem_cons_of_mem _ (List.mem_append_right _ (h))
  have hl : lv_has ls 2 [(0, .ref h0), (1, .int x1)] := hl
  have hP : va_P G vwCl (wm_X9_isThere cA h0 h0_sorts h0_g h0_kept h0_changed h0_p h0_causes h0_rows h0_sizes h0_moved h0_outs h0_losses h0_levelOf h0_levelOften h0_to h0_round h0_tail h0_path h0_leastOn h0_period h0_amplitude h0_basin h0_numbered h0_isReached h0_tape h0_told h0_traced s0__isKept s0__done s0__undoable s0__redoable s0__all s0__v s0__loss s0__isOver s0__hasCauses s0__outMany s0__overMany s0__isHalted s0__levelMany s0__rounds s0__stuck s0__onRounds s0__longest s0__loudest s0__reached s0__isAnyOver s0__taped s0__at s0__ran s0_sorts) s.heap := hP
  have hD : va_D A (wm_X9_isThere cA h0 h0_sorts h0_g h0_kept h0_changed h0_p h0_causes h0_rows h0_sizes h0_moved h0_outs h0_losses h0_levelOf h0_levelOften h0_to h0_round h0_tail h0_path h0_leastOn h0_period h0_amplitude h0_basin h0_numbered h0_isReached h0_tape h0_told h0_traced s0__isKept s0__done s0__undoable s0__redoable s0__all s0__v s0__loss s0__isOver s0__hasCauses s0__outMany s0__overMany s0__isHalted s0__levelMany s0__rounds s0__stuck s0__onRounds s0__longest s0__loudest s0__reached s0__isAnyOver s0__taped s0__at s0__ran s0_sorts) := hD
  unfold fX9_isThere at hok
  refine lv_iload_n hx hb dX9_isThere_0 rfl (lv_at hl 1 rfl) ?_
  obtain ⟨r1, hq, hok⟩ := g_bnd1 hok
  refine cG (is := []) (wc := (wm_X0_find cA)) (w1 := (wm_X0_find cA)) (rv := (some (.int r1))) (st1 := [.int r1]) (va_runS (Ts := wsX9_isThere) (As := [.int x1]) (rest := []) ⟨hx, hb, hml, hown, hts⟩ (c_X9_isRow l G cA ts x1 r1 hq s.heap.size) (va_cwS 1 hts gX9_isThere_X9_isRow rfl rfl rfl (by decide +kernel) ⟨Nat.le_of_ble_eq_true rfl, Nat.le_of_ble_eq_true rfl⟩) (pre_S (is := []) hP hD hS hA hK hZ (by decide +kernel) (by rfl)) rfl rfl hl.1 rfl (by exact lv_room (Nat.le_of_ble_eq_true rfl)) dX9_isThere_1 ⟨Nat.le_refl _, Nat.le_refl _⟩) hP hD hS hA (by decide +kernel) (by rfl) (by rfl) rfl (fun H locs hP hD hS => ?_)
  have hP : va_P G vwCl (wm_X9_isThere cA h0 h0_sorts h0_g h0_kept h0_changed h0_p h0_causes h0_rows h0_sizes h0_moved h0_outs h0_losses h0_levelOf h0_levelOften h0_to h0_round h0_tail h0_path h0_leastOn h0_period h0_amplitude h0_basin h0_numbered h0_isReached h0_tape h0_told h0_traced s0__isKept s0__done s0__undoable s0__redoable s0__all s0__v s0__loss s0__isOver s0__hasCauses s0__outMany s0__overMany s0__isHalted s0__levelMany s0__rounds s0__stuck s0__onRounds s0__longest s0__loudest s0__reached s0__isAnyOver s0__taped s0__at s0__ran s0_sorts) H := hP
  have hD : va_D A (wm_X9_isThere cA h0 h0_sorts h0_g h0_kept h0_changed h0_p h0_causes h0_rows h0_sizes h0_moved h0_outs h0_losses h0_levelOf h0_levelOften h0_to h0_round h0_tail h0_path h0_leastOn h0_period h0_amplitude h0_basin h0_numbered h0_isReached h0_tape h0_told h0_traced s0__isKept s0__done s0__undoable s0__redoable s0__all s0__v s0__loss s0__isOver s0__hasCauses s0__outMany s0__overMany s0__isHalted s0__levelMany s0__rounds s0__stuck s0__onRounds s0__longest s0__loudest s0__reached s0__isAnyOver s0__taped s0__at s0__ran s0_sorts) := hD
  refine lv_if_eq (tgt := 20) hx hb dX9_isThere_4 (by decide) (fun c => ?_) (fun c => ?_)
  · replace hok := g_pos hok c
    refine lv_iconst (v := 0) hx hb dX9_isThere_20 (by decide) ?_
    cases hok
    exact cr_z (ty := .boolean) (by decide +kernel) hx hb hr hlocks hQ dX9_isThere_21 hP hS
  replace hok := g_neg hok c
  refine lv_aload_n hx hb dX9_isThere_7 rfl (lv_at hl 0 rfl) ?_
  refine va_get (ci := 9) (v := .ref h0_sorts) (C := RX9) (T := TX9) (N := 49) hx hb hts hinX9 hown hK hP 0 rfl rfl 15 (by decide) (hts _ (List.mem_of_getElem? (i := 1) rfl)) (fun _ h9 => h9) rfl dX9_isThere_8 ?_
  refine lv_iload_n hx hb dX9_isThere_11 rfl (lv_at hl 1 rfl) ?_
  obtain ⟨hin, hok⟩ := g_no hok
  refine x_iald (k := x1.toNatClampNeg) hx hb hK hP 1 0 rfl rfl hin rfl dX9_isThere_12 ?_
  refine lv_if_lt (tgt := 20) hx hb dX9_isThere_13 (by decide) (fun c => ?_) (fun c => ?_)
  · replace hok := g_pos hok c
    refine lv_iconst (v := 0) hx hb dX9_isThere_20 (by decide) ?_
    cases hok
    exact cr_z (ty := .boolean) (by decide +kernel) hx hb hr hlocks hQ dX9_isThere_21 hP hS
  replace hok := g_neg hok c
  refine lv_iconst (v := 1) hx hb dX9_isThere_16 (by decide) ?_
  refine lv_goto (tgt := 21) hx hb dX9_isThere_17 (by decide) ?_
  cases hok
  exact cr_z (ty := .boolean) (by decide +kernel) hx hb hr hlocks hQ dX9_isThere_21 hP hS
set_option maxHeartbeats 40000000 in
set_option maxRecDepth 100000 in
theorem c_X9_noise (l : Launch) (G : va_G) (cA : Nat → ClassId) (ts : Nat → Nat) (h0 : Nat) (h0_g : Nat) (h0_p : Nat) (h0_rows : Nat) (h0_rows_e : Nat → Nat) (h0_sorts : Nat) (h0_sizes : Nat) (h0_outs : Nat) (h0_losses : Nat) (h0_kept : Nat) (h0_changed : Nat) (h0_causes : Nat) (h0_moved : Nat) (h0_levelOf : Nat) (h0_levelOften : Nat) (h0_to : Nat) (h0_round : Nat) (h0_tail : Nat) (h0_path : Nat) (h0_leastOn : Nat) (h0_period : Nat) (h0_amplitude : Nat) (h0_basin : Nat) (h0_numbered : Nat) (h0_isReached : Nat) (h0_tape : Nat) (h0_told : Nat) (h0_traced : Nat) (x1 : Int32) (x2 : Int32) (s0__isKept : Int32) (s0__done : Int32) (s0__undoable : Int32) (s0__redoable : Int32) (s0__all : Int32) (s0__v : Int32) (s0__loss : Int32) (s0__isOver : Int32) (s0__hasCauses : Int32) (s0__outMany : Int32) (s0__overMany : Int32) (s0__isHalted : Int32) (s0__levelMany : Int32) (s0__rounds : Int32) (s0__stuck : Int32) (s0__onRounds : Int32) (s0__longest : Int32) (s0__loudest : Int32) (s0__reached : Int32) (s0__isAnyOver : Int32) (s0__taped : Int32) (s0__at : Int32) (s0__ran : Int32) (s0_g : Nat → Int32) (s0_p : Nat → Int32) (s0_rows_e : Nat → Nat → Int64) (s0_sorts : Nat → Int32) (s0_sizes : Nat → Int32) (s0_outs : Nat → Int32) (s0_losses : Nat → Int32) (r : Int64) (o0__all : Int32) (o0__v : Int32) (o0__loss : Int32) (o0__isOver : Int32) (o0__outMany : Int32) (o0__overMany : Int32) (o0__isHalted : Int32) (o0_p : Nat → Int32) (o0_outs : Nat → Int32) (o0_losses : Nat → Int32) (hok : fX9_noise x1 x2 s0__all s0__v s0__loss s0__isOver s0__outMany s0__overMany s0__isHalted s0_g s0_p s0_rows_e s0_sorts s0_sizes s0_outs s0_losses = some (r, o0__all, o0__v, o0__loss, o0__isOver, o0__outMany, o0__overMany, o0__isHalted, o0_p, o0_outs, o0_losses)) : Ct l G cA ts yX9_noise wsX9_noise 5 134 [.ref h0, .int x1, .int x2] (wm_X9_output cA h0 h0_g h0_p h0_rows h0_rows_e h0_sorts h0_sizes h0_outs h0_losses h0_kept h0_changed h0_causes h0_moved h0_levelOf h0_levelOften h0_to h0_round h0_tail h0_path h0_leastOn h0_period h0_amplitude h0_basin h0_numbered h0_isReached h0_tape h0_told h0_traced s0__isKept s0__done s0__undoable s0__redoable s0__all s0__v s0__loss s0__isOver s0__hasCauses s0__outMany s0__overMany s0__isHalted s0__levelMany s0__rounds s0__stuck s0__onRounds s0__longest s0__loudest s0__reached s0__isAnyOver s0__taped s0__at s0__ran s0_g s0_p s0_rows_e s0_sorts s0_sizes s0_outs s0_losses) (wm_X9_output cA h0 h0_g h0_p h0_rows h0_rows_e h0_sorts h0_sizes h0_outs h0_losses h0_kept h0_changed h0_causes h0_moved h0_levelOf h0_levelOften h0_to h0_round h0_tail h0_path h0_leastOn h0_period h0_amplitude h0_basin h0_numbered h0_isReached h0_tape h0_told h0_traced s0__isKept s0__done s0__undoable s0__redoable o0__all o0__v o0__loss o0__isOver s0__hasCauses o0__outMany o0__overMany o0__isHalted s0__levelMany s0__rounds s0__stuck s0__onRounds s0__longest s0__loudest s0__reached s0__isAnyOver s0__taped s0__at s0__ran s0_g o0_p s0_rows_e s0_sorts s0_sizes o0_outs o0_losses) (some (.long r)) := by
  refine Ct.intro (cc := cX9_noise) (maxL := 6) (ret := some .long) (by decide +kernel) rfl (Nat.le_of_ble_eq_true rfl) ?_
  intro p e s m ar below meth c A Q hx hb hr hml hown hlocks hts hK hZ hA hQ hP hD hS ls hl
  have hown : s.vm.findClass RX9 = some m.cls := hown
  have hinX9 : ∀ w ∈ wsX90, w ∈ wsX9_noise := fun _ h => List.mem_cons_of_mem _ (List.mem_append_right _ (h))
  have hl : lv_has ls 6 [(0, .ref h0), (1, .int x1), (2, .int x2)] := hl
  have hP : va_P G vwCl (wm_X9_output cA h0 h0_g h0_p h0_rows h0_rows_e h0_sorts h0_sizes h0_outs h0_losses h0_kept h0_changed h0_causes h0_moved h0_levelOf h0_levelOften h0_to h0_round h0_tail h0_path h0_leastOn h0_period h0_amplitude h0_basin h0_numbered h0_isReached h0_tape h0_told h0_traced s0__isKept s0__done s0__undoable s0__redoable s0__all s0__v s0__loss s0__isOver s0__hasCauses s0__outMany s0__overMany s0__isHalted s0__levelMany s0__rounds s0__stuck s0__onRounds s0__longest s0__loudest s0__reached s0__isAnyOver s0__taped s0__at s0__ran s0_g s0_p s0_rows_e s0_sorts s0_sizes s0_outs s0_losses) s.heap := hP
  have hD : va_D A (wm_X9_output cA h0 h0_g h0_p h0_rows h0_rows_e h0_sorts h0_sizes h0_outs h0_losses h0_kept h0_changed h0_causes h0_moved h0_levelOf h0_levelOften h0_to h0_round h0_tail h0_path h0_leastOn h0_period h0_amplitude h0_basin h0_numbered h0_isReached h0_tape h0_told h0_traced s0__isKept s0__done s0__undoable s0__redoable s0__all s0__v s0__loss s0__isOver s0__hasCauses s0__outMany s0__overMany s0__isHalted s0__levelMany s0__rounds s0__stuck s0__onRounds s0__longest s0__loudest s0__reached s0__isAnyOver s0__taped s0__at s0__ran s0_g s0_p s0_rows_e s0_sorts s0_sizes s0_outs s0_losses) := hD
  have L_32 : ∀ (n : Nat) (y3 : Int64) (y5 : Int32) (c0__all : Int32) (c0__v : Int32) (c0__loss : Int32) (c0__isOver : Int32) (c0__outMany : Int32) (c0__overMany : Int32) (c0__isHalted : Int32) (c0_p : Nat → Int32) (c0_outs : Nat → Int32) (c0_losses : Nat → Int32) (p0_0 : Int64) (H : Heap) (locs : List Loc) (ls : Array Slot), va_P G vwCl (wm_X9_output cA h0 h0_g h0_p h0_rows h0_rows_e h0_sorts h0_sizes h0_outs h0_losses h0_kept h0_changed h0_causes h0_moved h0_levelOf h0_levelOften h0_to h0_round h0_tail h0_path h0_leastOn h0_period h0_amplitude h0_basin h0_numbered h0_isReached h0_tape h0_told h0_traced s0__isKept s0__done s0__undoable s0__redoable c0__all c0__v c0__loss c0__isOver s0__hasCauses c0__outMany c0__overMany c0__isHalted s0__levelMany s0__rounds s0__stuck s0__onRounds s0__longest s0__loudest s0__reached s0__isAnyOver s0__taped s0__at s0__ran s0_g c0_p s0_rows_e s0_sorts s0_sizes c0_outs c0_losses) H → va_D A (wm_X9_output cA h0 h0_g h0_p h0_rows h0_rows_e h0_sorts h0_sizes h0_outs h0_losses h0_kept h0_changed h0_causes h0_moved h0_levelOf h0_levelOften h0_to h0_round h0_tail h0_path h0_leastOn h0_period h0_amplitude h0_basin h0_numbered h0_isReached h0_tape h0_told h0_traced s0__isKept s0__done s0__undoable s0__redoable c0__all c0__v c0__loss c0__isOver s0__hasCauses c0__outMany c0__overMany c0__isHalted s0__levelMany s0__rounds s0__stuck s0__onRounds s0__longest s0__loudest s0__reached s0__isAnyOver s0__taped s0__at s0__ran s0_g c0_p s0_rows_e s0_sorts s0_sizes c0_outs c0_losses) → va_S A s.heap H locs → lv_has ls 6 [(0, .ref h0), (2, .int x2), (3, .long y3), (5, .int y5)] → fX9_noise_L32 x1 x2 s0_g s0_rows_e s0_sorts s0_sizes n y3 y5 c0__all c0__v c0__loss c0__isOver c0__outMany c0__overMany c0__isHalted c0_p c0_outs c0_losses = some p0_0 → (∀ (H : Heap) (locs : List Loc) (ls : Array Slot), va_P G vwCl (wm_X9_output cA h0 h0_g h0_p h0_rows h0_rows_e h0_sorts h0_sizes h0_outs h0_losses h0_kept h0_changed h0_causes h0_moved h0_levelOf h0_levelOften h0_to h0_round h0_tail h0_path h0_leastOn h0_period h0_amplitude h0_basin h0_numbered h0_isReached h0_tape h0_told h0_traced s0__isKept s0__done s0__undoable s0__redoable c0__all c0__v c0__loss c0__isOver s0__hasCauses c0__outMany c0__overMany c0__isHalted s0__levelMany s0__rounds s0__stuck s0__onRounds s0__longest s0__loudest s0__reached s0__isAnyOver s0__taped s0__at s0__ran s0_g c0_p s0_rows_e s0_sorts s0_sizes c0_outs c0_losses) H → va_D A (wm_X9_output cA h0 h0_g h0_p h0_rows h0_rows_e h0_sorts h0_sizes h0_outs h0_losses h0_kept h0_changed h0_causes h0_moved h0_levelOf h0_levelOften h0_to h0_round h0_tail h0_path h0_leastOn h0_period h0_amplitude h0_basin h0_numbered h0_isReached h0_tape h0_told h0_traced s0__isKept s0__done s0__undoable s0__redoable c0__all c0__v c0__loss c0__isOver s0__hasCauses c0__outMany c0__overMany c0__isHalted s0__levelMany s0__rounds s0__stuck s0__onRounds s0__longest s0__loudest s0__reached s0__isAnyOver s0__taped s0__at s0__ran s0_g c0_p s0_rows_e s0_sorts s0_sizes c0_outs c0_losses) → va_S A s.heap H locs → lv_has ls 6 [(0, .ref h0), (2, .int x2), (3, .long p0_0)] → W p l e (rmX 5 134) s m ar below meth c H locs 0 0 Q (F0 m 61 ls [])) → W p l e (rmX 5 134) s m ar below meth c H locs 0 0 Q (F0 m 32 ls []) := by
    intro n
    induction n with
    | zero =>
      intro y3 y5 c0__all c0__v c0__loss c0__isOver c0__outMany c0__overMany c0__isHalted c0_p c0_outs c0_losses p0_0 H locs ls hP hD hS hl hok
      rw [fX9_noise_L32] at hok
      cases hok
    | succ n ih =>
      intro y3 y5 c0__all c0__v c0__loss c0__isOver c0__outMany c0__overMany c0__isHalted c0_p c0_outs c0_losses p0_0 H locs ls hP hD hS hl hok K
      rw [fX9_noise_L32] at hok
      refine lv_iload hx hb dX9_noise_32 (lv_at hl 3 rfl) ?_
      refine lv_aload_n hx hb dX9_noise_34 rfl (lv_at hl 0 rfl) ?_
      refine va_get (ci := 9) (v := .int c0__outMany) (C := RX9) (T := TX9) (N := 49) hx hb hts hinX9 hown hK hP 0 rfl rfl 20 (by decide) (hts _ (List.mem_of_getElem? (i := 2) rfl)) (fun _ h9 => h9) rfl dX9_noise_35 ?_
      refine lv_icmp_ge (tgt := 61) hx hb dX9_noise_38 (by decide) (fun c => ?_) (fun c => ?_)
      · replace hok := g_pos hok c
        cases hok
        exact K _ _ _ hP hD hS (lv_sub hl [0, 1, 2] rfl)
      replace hok := g_neg hok c
      refine lv_lload_n hx hb dX9_noise_41 rfl (lv_at hl 2 rfl) ?_
      refine lv_aload_n hx hb dX9_noise_42 rfl (lv_at hl 0 rfl) ?_
      refine va_get (ci := 9) (v := .ref h0_losses) (C := RX9) (T := TX9) (N := 49) hx hb hts hinX9 hown hK hP 0 rfl rfl 19 (by decide) (hts _ (List.mem_of_getElem? (i := 3) rfl)) (fun _ h9 => h9) rfl dX9_noise_43 ?_
      refine lv_iload hx hb dX9_noise_46 (lv_at hl 3 rfl) ?_
      obtain ⟨hin, hok⟩ := g_no hok
      refine x_iald (k := y5.toNatClampNeg) hx hb hK hP 11 0 rfl rfl hin rfl dX9_noise_48 ?_
      refine va_mabs hx hb (hml.trans hl.1.symm) hown (hts _ (List.mem_of_getElem? (i := 4) rfl)) (hts _ (List.mem_of_getElem? (i := 5) rfl)) (hts _ (List.mem_of_getElem? (i := 6) rfl)) (hts _ (List.mem_of_getElem? (i := 7) rfl)) (Nat.le_of_ble_eq_true rfl) (Nat.le_of_ble_eq_true rfl) (Nat.zero_le _) (Nat.zero_le _) dX9_noise_49 ?_
      refine lv_i2l (v := ((if 0 ≤ (c0_losses y5.toNatClampNeg) then (c0_losses y5.toNatClampNeg) else 0 - (c0_losses y5.toNatClampNeg)).toInt64)) hx hb dX9_noise_52 rfl ?_
      refine lv_ladd hx hb dX9_noise_53 ?_
      refine lv_lstore_n (lv' := [(3, .long (y3 + ((if 0 ≤ (c0_losses y5.toNatClampNeg) then (c0_losses y5.toNatClampNeg) else 0 - (c0_losses y5.toNatClampNeg)).toInt64))), (0, .ref h0), (2, .int x2), (5, .int y5)]) hx hb dX9_noise_54 rfl hl (by decide) rfl (fun ls hl => ?_)
      refine lv_iinc (v := (y5 + 1)) (lv' := [(5, .int (y5 + 1)), (3, .long (y3 + ((if 0 ≤ (c0_losses y5.toNatClampNeg) then (c0_losses y5.toNatClampNeg) else 0 - (c0_losses y5.toNatClampNeg)).toInt64))), (0, .ref h0), (2, .int x2)]) hx hb dX9_noise_55 hl (k := 3) rfl rfl (by decide) rfl (fun ls hl => ?_)
      refine lv_goto (tgt := 32) hx hb dX9_noise_58 (by decide) ?_
      exact ih (y3 + ((if 0 ≤ (c0_losses y5.toNatClampNeg) then (c0_losses y5.toNatClampNeg) else 0 - (c0_losses y5.toNatClampNeg)).toInt64)) (y5 + 1) c0__all c0__v c0__loss c0__isOver c0__outMany c0__overMany c0__isHalted c0_p c0_outs c0_losses p0_0 _ _ _ hP hD hS (lv_sub hl [2, 3, 1, 0] rfl) hok K
  unfold fX9_noise at hok
  refine lv_aload_n hx hb dX9_noise_0 rfl (lv_at hl 0 rfl) ?_
  refine lv_iload_n hx hb dX9_noise_1 rfl (lv_at hl 1 rfl) ?_
  obtain ⟨r1, hq, hok⟩ := g_bnd1 hok
  refine cG (is := [0, 8]) (wc := (wm_X9_isThere cA h0 h0_sorts h0_g h0_kept h0_changed h0_p h0_causes h0_rows h0_sizes h0_moved h0_outs h0_losses h0_levelOf h0_levelOften h0_to h0_round h0_tail h0_path h0_leastOn h0_period h0_amplitude h0_basin h0_numbered h0_isReached h0_tape h0_told h0_traced s0__isKept s0__done s0__undoable s0__redoable s0__all s0__v s0__loss s0__isOver s0__hasCauses s0__outMany s0__overMany s0__isHalted s0__levelMany s0__rounds s0__stuck s0__onRounds s0__longest s0__loudest s0__reached s0__isAnyOver s0__taped s0__at s0__ran s0_sorts)) (w1 := (wm_X9_isThere cA h0 h0_sorts h0_g h0_kept h0_changed h0_p h0_causes h0_rows h0_sizes h0_moved h0_outs h0_losses h0_levelOf h0_levelOften h0_to h0_round h0_tail h0_path h0_leastOn h0_period h0_amplitude h0_basin h0_numbered h0_isReached h0_tape h0_told h0_traced s0__isKept s0__done s0__undoable s0__redoable s0__all s0__v s0__loss s0__isOver s0__hasCauses s0__outMany s0__overMany s0__isHalted s0__levelMany s0__rounds s0__stuck s0__onRounds s0__longest s0__loudest s0__reached s0__isAnyOver s0__taped s0__at s0__ran s0_sorts)) (rv := (some (.int r1))) (st1 := [.int r1]) (va_runV (Ts := wsX9_noise) (As := [.int x1]) (rest := []) ⟨hx, hb, hml, hown, hts⟩ (c_X9_isThere l G cA ts h0 h0_sorts h0_g h0_kept h0_changed h0_p h0_causes h0_rows h0_sizes h0_moved h0_outs h0_losses h0_levelOf h0_levelOften h0_to h0_round h0_tail h0_path h0_leastOn h0_period h0_amplitude h0_basin h0_numbered h0_isReached h0_tape h0_told h0_traced x1 s0__isKept s0__done s0__undoable s0__redoable s0__all s0__v s0__loss s0__isOver s0__hasCauses s0__outMany s0__overMany s0__isHalted s0__levelMany s0__rounds s0__stuck s0__onRounds s0__longest s0__loudest s0__reached s0__isAnyOver s0__taped s0__at s0__ran s0_sorts r1 hq s.heap.size) (cwV 1 hts gX9_noise_X9_isThere rfl rfl rfl (by decide +kernel) ⟨Nat.le_of_ble_eq_true rfl, Nat.le_of_ble_eq_true rfl⟩) (pre_V (ci := 9) (q0 := 0) (is := [0, 8]) rfl rfl hP hD hS hA hK hZ (by decide +kernel) (by rfl)) rfl rfl hl.1 rfl (by exact lv_room (Nat.le_of_ble_eq_true rfl)) dX9_noise_2 ⟨Nat.le_refl _, Nat.le_refl _⟩) hP hD hS hA (by decide +kernel) (by rfl) (by rfl) rfl (fun H locs hP hD hS => ?_)
  have hP : va_P G vwCl (wm_X9_output cA h0 h0_g h0_p h0_rows h0_rows_e h0_sorts h0_sizes h0_outs h0_losses h0_kept h0_changed h0_causes h0_moved h0_levelOf h0_levelOften h0_to h0_round h0_tail h0_path h0_leastOn h0_period h0_amplitude h0_basin h0_numbered h0_isReached h0_tape h0_told h0_traced s0__isKept s0__done s0__undoable s0__redoable s0__all s0__v s0__loss s0__isOver s0__hasCauses s0__outMany s0__overMany s0__isHalted s0__levelMany s0__rounds s0__stuck s0__onRounds s0__longest s0__loudest s0__reached s0__isAnyOver s0__taped s0__at s0__ran s0_g s0_p s0_rows_e s0_sorts s0_sizes s0_outs s0_losses) H := hP
  have hD : va_D A (wm_X9_output cA h0 h0_g h0_p h0_rows h0_rows_e h0_sorts h0_sizes h0_outs h0_losses h0_kept h0_changed h0_causes h0_moved h0_levelOf h0_levelOften h0_to h0_round h0_tail h0_path h0_leastOn h0_period h0_amplitude h0_basin h0_numbered h0_isReached h0_tape h0_told h0_traced s0__isKept s0__done s0__undoable s0__redoable s0__all s0__v s0__loss s0__isOver s0__hasCauses s0__outMany s0__overMany s0__isHalted s0__levelMany s0__rounds s0__stuck s0__onRounds s0__longest s0__loudest s0__reached s0__isAnyOver s0__taped s0__at s0__ran s0_g s0_p s0_rows_e s0_sorts s0_sizes s0_outs s0_losses) := hD
  refine lv_if_eq (tgt := 18) hx hb dX9_noise_5 (by decide) (fun c => ?_) (fun c => ?_)
  · replace hok := g_pos hok c
    refine lv_ldc2 (v := -9223372036854775808) hx hb hown (hts _ (List.mem_of_getElem? (i := 1) rfl)) dX9_noise_18 ?_
    obtain ⟨e, hok⟩ := g_pr hok
    try subst e
    obtain ⟨e, hok⟩ := g_pr hok
    try subst e
    obtain ⟨e, hok⟩ := g_pr hok
    try subst e
    obtain ⟨e, hok⟩ := g_pr hok
    try subst e
    obtain ⟨e, hok⟩ := g_pr hok
    try subst e
    obtain ⟨e, hok⟩ := g_pr hok
    try subst e
    obtain ⟨e, hok⟩ := g_pr hok
    try subst e
    obtain ⟨e, hok⟩ := g_pr hok
    try subst e
    obtain ⟨e, hok⟩ := g_pr hok
    try subst e
    obtain ⟨e, hok⟩ := g_pr hok
    try subst e
    cases hok
    exact cr_l hx hb hr hlocks hQ dX9_noise_21 hP hS
  replace hok := g_neg hok c
  refine lv_iload_n hx hb dX9_noise_8 rfl (lv_at hl 2 rfl) ?_
  refine lv_i2l (v := (x2.toInt64)) hx hb dX9_noise_9 rfl ?_
  refine lv_lconst (v := 0) hx hb dX9_noise_10 (by decide) ?_
  refine lv_lconst (v := 1) hx hb dX9_noise_11 (by decide) ?_
  obtain ⟨r2, hq, hok⟩ := g_bnd1 hok
  refine cG (is := []) (wc := (wm_X0_find cA)) (w1 := (wm_X0_find cA)) (rv := (some (.int r2))) (st1 := [.int r2]) (va_runS (Ts := wsX9_noise) (As := [.long (x2.toInt64), .long (0:Int64), .long (1:Int64)]) (rest := []) ⟨hx, hb, hml, hown, hts⟩ (c_X9_in l G cA ts (x2.toInt64) (0:Int64) (1:Int64) r2 hq H.size) (va_cwS 3 hts gX9_noise_X9_in rfl rfl rfl (by decide +kernel) ⟨Nat.le_of_ble_eq_true rfl, Nat.le_of_ble_eq_true rfl⟩) (pre_S (is := []) hP hD hS hA hK hZ (by decide +kernel) (by rfl)) rfl rfl hl.1 rfl (by exact lv_room (Nat.le_of_ble_eq_true rfl)) dX9_noise_12 ⟨Nat.le_refl _, Nat.le_refl _⟩) hP hD hS hA (by decide +kernel) (by rfl) (by rfl) rfl (fun H locs hP hD hS => ?_)
  have hP : va_P G vwCl (wm_X9_output cA h0 h0_g h0_p h0_rows h0_rows_e h0_sorts h0_sizes h0_outs h0_losses h0_kept h0_changed h0_causes h0_moved h0_levelOf h0_levelOften h0_to h0_round h0_tail h0_path h0_leastOn h0_period h0_amplitude h0_basin h0_numbered h0_isReached h0_tape h0_told h0_traced s0__isKept s0__done s0__undoable s0__redoable s0__all s0__v s0__loss s0__isOver s0__hasCauses s0__outMany s0__overMany s0__isHalted s0__levelMany s0__rounds s0__stuck s0__onRounds s0__longest s0__loudest s0__reached s0__isAnyOver s0__taped s0__at s0__ran s0_g s0_p s0_rows_e s0_sorts s0_sizes s0_outs s0_losses) H := hP
  have hD : va_D A (wm_X9_output cA h0 h0_g h0_p h0_rows h0_rows_e h0_sorts h0_sizes h0_outs h0_losses h0_kept h0_changed h0_causes h0_moved h0_levelOf h0_levelOften h0_to h0_round h0_tail h0_path h0_leastOn h0_period h0_amplitude h0_basin h0_numbered h0_isReached h0_tape h0_told h0_traced s0__isKept s0__done s0__undoable s0__redoable s0__all s0__v s0__loss s0__isOver s0__hasCauses s0__outMany s0__overMany s0__isHalted s0__levelMany s0__rounds s0__stuck s0__onRounds s0__longest s0__loudest s0__reached s0__isAnyOver s0__taped s0__at s0__ran s0_g s0_p s0_rows_e s0_sorts s0_sizes s0_outs s0_losses) := hD
  refine lv_if_ne (tgt := 22) hx hb dX9_noise_15 (by decide) (fun c => ?_) (fun c => ?_)
  · replace hok := g_neg hok c
    refine lv_aload_n hx hb dX9_noise_22 rfl (lv_at hl 0 rfl) ?_
    refine lv_iload_n hx hb dX9_noise_23 rfl (lv_at hl 1 rfl) ?_
    obtain ⟨o3, o4, o5, o6, o7, o8, o9, o10, o11, o12, hq, hok⟩ := g_bnd10 hok
    refine cG (is := [0, 1, 2, 3, 4, 5, 6, 7, 9, 10, 11]) (wc := (wm_X9_runs cA h0 h0_g h0_p h0_rows h0_rows_e h0_sizes h0_outs h0_losses h0_kept h0_changed h0_causes h0_sorts h0_moved h0_levelOf h0_levelOften h0_to h0_round h0_tail h0_path h0_leastOn h0_period h0_amplitude h0_basin h0_numbered h0_isReached h0_tape h0_told h0_traced s0__isKept s0__done s0__undoable s0__redoable s0__all s0__v s0__loss s0__isOver s0__hasCauses s0__outMany s0__overMany s0__isHalted s0__levelMany s0__rounds s0__stuck s0__onRounds s0__longest s0__loudest s0__reached s0__isAnyOver s0__taped s0__at s0__ran s0_g s0_p s0_rows_e s0_sizes s0_outs s0_losses)) (w1 := (wm_X9_runs cA h0 h0_g h0_p h0_rows h0_rows_e h0_sizes h0_outs h0_losses h0_kept h0_changed h0_causes h0_sorts h0_moved h0_levelOf h0_levelOften h0_to h0_round h0_tail h0_path h0_leastOn h0_period h0_amplitude h0_basin h0_numbered h0_isReached h0_tape h0_told h0_traced s0__isKept s0__done s0__undoable s0__redoable o3 o4 o5 o6 s0__hasCauses o7 o8 o9 s0__levelMany s0__rounds s0__stuck s0__onRounds s0__longest s0__loudest s0__reached s0__isAnyOver s0__taped s0__at s0__ran s0_g o10 s0_rows_e s0_sizes o11 o12)) (rv := none) (st1 := []) (va_runV (Ts := wsX9_noise) (As := [.int x1]) (rest := []) ⟨hx, hb, hml, hown, hts⟩ (c_X9_runs l G cA ts h0 h0_g h0_p h0_rows h0_rows_e h0_sizes h0_outs h0_losses h0_kept h0_changed h0_causes h0_sorts h0_moved h0_levelOf h0_levelOften h0_to h0_round h0_tail h0_path h0_leastOn h0_period h0_amplitude h0_basin h0_numbered h0_isReached h0_tape h0_told h0_traced x1 s0__isKept s0__done s0__undoable s0__redoable s0__all s0__v s0__loss s0__isOver s0__hasCauses s0__outMany s0__overMany s0__isHalted s0__levelMany s0__rounds s0__stuck s0__onRounds s0__longest s0__loudest s0__reached s0__isAnyOver s0__taped s0__at s0__ran s0_g s0_p s0_rows_e s0_sizes s0_outs s0_losses o3 o4 o5 o6 o7 o8 o9 o10 o11 o12 hq H.size) (cwV 1 hts gX9_noise_X9_runs rfl rfl rfl (by decide +kernel) ⟨Nat.le_of_ble_eq_true rfl, Nat.le_of_ble_eq_true rfl⟩) (pre_V (ci := 9) (q0 := 0) (is := [0, 1, 2, 3, 4, 5, 6, 7, 9, 10, 11]) rfl rfl hP hD hS hA hK hZ (by decide +kernel) (by rfl)) rfl rfl hl.1 rfl (by exact lv_room (Nat.le_of_ble_eq_true rfl)) dX9_noise_24 ⟨Nat.le_refl _, Nat.le_refl _⟩) hP hD hS hA (by decide +kernel) (by rfl) (by rfl) rfl (fun H locs hP hD hS => ?_)
    obtain ⟨hP, hD⟩ : va_P G vwCl (wm_X9_output cA h0 h0_g h0_p h0_rows h0_rows_e h0_sorts h0_sizes h0_outs h0_losses h0_kept h0_changed h0_causes h0_moved h0_levelOf h0_levelOften h0_to h0_round h0_tail h0_path h0_leastOn h0_period h0_amplitude h0_basin h0_numbered h0_isReached h0_tape h0_told h0_traced s0__isKept s0__done s0__undoable s0__redoable o3 o4 o5 o6 s0__hasCauses o7 o8 o9 s0__levelMany s0__rounds s0__stuck s0__onRounds s0__longest s0__loudest s0__reached s0__isAnyOver s0__taped s0__at s0__ran s0_g o10 s0_rows_e s0_sorts s0_sizes o11 o12) H ∧ va_D A (wm_X9_output cA h0 h0_g h0_p h0_rows h0_rows_e h0_sorts h0_sizes h0_outs h0_losses h0_kept h0_changed h0_causes h0_moved h0_levelOf h0_levelOften h0_to h0_round h0_tail h0_path h0_leastOn h0_period h0_amplitude h0_basin h0_numbered h0_isReached h0_tape h0_told h0_traced s0__isKept s0__done s0__undoable s0__redoable o3 o4 o5 o6 s0__hasCauses o7 o8 o9 s0__levelMany s0__rounds s0__stuck s0__onRounds s0__longest s0__loudest s0__reached s0__isAnyOver s0__taped s0__at s0__ran s0_g o10 s0_rows_e s0_sorts s0_sizes o11 o12) := PD_eq hP hD (rp_eq (js := [8]) 12 (by decide +kernel) rfl rfl (by rfl) (by rfl) (by decide +kernel))
    refine lv_lconst (v := 0) hx hb dX9_noise_27 (by decide) ?_
    refine lv_lstore_n (lv' := [(3, .long (0:Int64)), (0, .ref h0), (1, .int x1), (2, .int x2)]) hx hb dX9_noise_28 rfl hl (by decide) rfl (fun ls hl => ?_)
    refine lv_iconst (v := 0) hx hb dX9_noise_29 (by decide) ?_
    refine lv_istore (lv' := [(5, .int (0:Int32)), (3, .long (0:Int64)), (0, .ref h0), (1, .int x1), (2, .int x2)]) hx hb dX9_noise_30 hl (by decide) rfl (fun ls hl => ?_)
    obtain ⟨o13, hq, hok⟩ := g_bnd1 hok
    refine L_32 FUEL (0:Int64) (0:Int32) o3 o4 o5 o6 o7 o8 o9 o10 o11 o12 o13 _ _ _ hP hD hS (lv_sub hl [2, 4, 1, 0] rfl) hq (fun H locs ls hP hD hS hl => ?_)
    refine lv_lload_n hx hb dX9_noise_61 rfl (lv_at hl 2 rfl) ?_
    refine lv_lconst (v := 1) hx hb dX9_noise_62 (by decide) ?_
    refine lv_aload_n hx hb dX9_noise_63 rfl (lv_at hl 0 rfl) ?_
    refine va_get (ci := 9) (v := .ref h0_g) (C := RX9) (T := TX9) (N := 49) hx hb hts hinX9 hown hK hP 0 rfl rfl 0 (by decide) (hts _ (List.mem_of_getElem? (i := 8) rfl)) (fun _ h9 => h9) rfl dX9_noise_64 ?_
    refine lv_bipush (v := 6) hx hb dX9_noise_67 (by decide) ?_
    refine x_iald (k := 6) hx hb hK hP 1 0 rfl rfl (show ¬ ((6:Int32) < 0 ∨ 13 ≤ (6:Int32).toNatClampNeg) by decide) (by decide) dX9_noise_69 ?_
    refine lv_lshl (v := ((1:Int64) <<< ((s0_g 6).toInt64 &&& 63))) hx hb dX9_noise_70 rfl ?_
    refine lv_iload_n hx hb dX9_noise_71 rfl (lv_at hl 1 rfl) ?_
    obtain ⟨r14, hq, hok⟩ := g_bnd1 hok
    refine cG (is := []) (wc := (wm_X0_find cA)) (w1 := (wm_X0_find cA)) (rv := (some (.long r14))) (st1 := [.long r14]) (va_runS (Ts := wsX9_noise) (As := [.long o13, .long ((1:Int64) <<< ((s0_g 6).toInt64 &&& 63)), .int x2]) (rest := []) ⟨hx, hb, hml, hown, hts⟩ (c_X9_lowest l G cA ts o13 ((1:Int64) <<< ((s0_g 6).toInt64 &&& 63)) x2 r14 hq H.size) (va_cwS 3 hts gX9_noise_X9_lowest rfl rfl rfl (by decide +kernel) ⟨Nat.le_of_ble_eq_true rfl, Nat.le_of_ble_eq_true rfl⟩) (pre_S (is := []) hP hD hS hA hK hZ (by decide +kernel) (by rfl)) rfl rfl hl.1 rfl (by exact lv_room (Nat.le_of_ble_eq_true rfl)) dX9_noise_72 ⟨Nat.le_refl _, Nat.le_refl _⟩) hP hD hS hA (by decide +kernel) (by rfl) (by rfl) rfl (fun H locs hP hD hS => ?_)
    have hP : va_P G vwCl (wm_X9_output cA h0 h0_g h0_p h0_rows h0_rows_e h0_sorts h0_sizes h0_outs h0_losses h0_kept h0_changed h0_causes h0_moved h0_levelOf h0_levelOften h0_to h0_round h0_tail h0_path h0_leastOn h0_period h0_amplitude h0_basin h0_numbered h0_isReached h0_tape h0_told h0_traced s0__isKept s0__done s0__undoable s0__redoable o3 o4 o5 o6 s0__hasCauses o7 o8 o9 s0__levelMany s0__rounds s0__stuck s0__onRounds s0__longest s0__loudest s0__reached s0__isAnyOver s0__taped s0__at s0__ran s0_g o10 s0_rows_e s0_sorts s0_sizes o11 o12) H := hP
    have hD : va_D A (wm_X9_output cA h0 h0_g h0_p h0_rows h0_rows_e h0_sorts h0_sizes h0_outs h0_losses h0_kept h0_changed h0_causes h0_moved h0_levelOf h0_levelOften h0_to h0_round h0_tail h0_path h0_leastOn h0_period h0_amplitude h0_basin h0_numbered h0_isReached h0_tape h0_told h0_traced s0__isKept s0__done s0__undoable s0__redoable o3 o4 o5 o6 s0__hasCauses o7 o8 o9 s0__levelMany s0__rounds s0__stuck s0__onRounds s0__longest s0__loudest s0__reached s0__isAnyOver s0__taped s0__at s0__ran s0_g o10 s0_rows_e s0_sorts s0_sizes o11 o12) := hD
    obtain ⟨e, hok⟩ := g_pr hok
    try subst e
    obtain ⟨e, hok⟩ := g_pr hok
    try subst e
    obtain ⟨e, hok⟩ := g_pr hok
    try subst e
    obtain ⟨e, hok⟩ := g_pr hok
    try subst e
    obtain ⟨e, hok⟩ := g_pr hok
    try subst e
    obtain ⟨e, hok⟩ := g_pr hok
    try subst e
    obtain ⟨e, hok⟩ := g_pr hok
    try subst e
    obtain ⟨e, hok⟩ := g_pr hok
    try subst e
    obtain ⟨e, hok⟩ := g_pr hok
    try subst e
    obtain ⟨e, hok⟩ := g_pr hok
    try subst e
    cases hok
    exact cr_l hx hb hr hlocks hQ dX9_noise_75 hP hS
  replace hok := g_pos hok c
  refine lv_ldc2 (v := -9223372036854775808) hx hb hown (hts _ (List.mem_of_getElem? (i := 1) rfl)) dX9_noise_18 ?_
  obtain ⟨e, hok⟩ := g_pr hok
  try subst e
  obtain ⟨e, hok⟩ := g_pr hok
  try subst e
  obtain ⟨e, hok⟩ := g_pr hok
  try subst e
  obtain ⟨e, hok⟩ := g_pr hok
  try subst e
  obtain ⟨e, hok⟩ := g_pr hok
  try subst e
  obtain ⟨e, hok⟩ := g_pr hok
  try subst e
  obtain ⟨e, hok⟩ := g_pr hok
  try subst e
  obtain ⟨e, hok⟩ := g_pr hok
  try subst e
  obtain ⟨e, hok⟩ := g_pr hok
  try subst e
  obtain ⟨e, hok⟩ := g_pr hok
  try subst e
  cases hok
  exact cr_l hx hb hr hlocks hQ dX9_noise_21 hP hS
set_option maxHeartbeats 40000000 in
set_option maxRecDepth 100000 in
theorem c_X9_findLevels (l : Launch) (G : va_G) (cA : Nat → ClassId) (ts : Nat → Nat) (h0 : Nat) (h0_g : Nat) (h0_p : Nat) (h0_rows : Nat) (h0_rows_e : Nat → Nat) (h0_sizes : Nat) (h0_outs : Nat) (h0_losses : Nat) (h0_levelOf : Nat) (h0_levelOften : Nat) (h0_kept : Nat) (h0_changed : Nat) (h0_causes : Nat) (h0_sorts : Nat) (h0_moved : Nat) (h0_to : Nat) (h0_round : Nat) (h0_tail : Nat) (h0_path : Nat) (h0_leastOn : Nat) (h0_period : Nat) (h0_amplitude : Nat) (h0_basin : Nat) (h0_numbered : Nat) (h0_isReached : Nat) (h0_tape : Nat) (h0_told : Nat) (h0_traced : Nat) (x1 : Int32) (s0__isKept : Int32) (s0__done : Int32) (s0__undoable : Int32) (s0__redoable : Int32) (s0__all : Int32) (s0__v : Int32) (s0__loss : Int32) (s0__isOver : Int32) (s0__hasCauses : Int32) (s0__outMany : Int32) (s0__overMany : Int32) (s0__isHalted : Int32) (s0__levelMany : Int32) (s0__rounds : Int32) (s0__stuck : Int32) (s0__onRounds : Int32) (s0__longest : Int32) (s0__loudest : Int32) (s0__reached : Int32) (s0__isAnyOver : Int32) (s0__taped : Int32) (s0__at : Int32) (s0__ran : Int32) (s0_g : Nat → Int32) (s0_p : Nat → Int32) (s0_rows_e : Nat → Nat → Int64) (s0_sizes : Nat → Int32) (s0_outs : Nat → Int32) (s0_losses : Nat → Int32) (s0_levelOf : Nat → Int32) (s0_levelOften : Nat → Int32) (o0__all : Int32) (o0__v : Int32) (o0__loss : Int32) (o0__isOver : Int32) (o0__outMany : Int32) (o0__overMany : Int32) (o0__isHalted : Int32) (o0__levelMany : Int32) (o0_p : Nat → Int32) (o0_outs : Nat → Int32) (o0_losses : Nat → Int32) (o0_levelOf : Nat → Int32) (o0_levelOften : Nat → Int32) (hok : fX9_findLevels x1 s0__all s0__v s0__loss s0__isOver s0__outMany s0__overMany s0__isHalted s0__levelMany s0_g s0_p s0_rows_e s0_sizes s0_outs s0_losses s0_levelOf s0_levelOften = some (o0__all, o0__v, o0__loss, o0__isOver, o0__outMany, o0__overMany, o0__isHalted, o0__levelMany, o0_p, o0_outs, o0_losses, o0_levelOf, o0_levelOften)) : Ct l G cA ts yX9_findLevels wsX9_findLevels 5 134 [.ref h0, .int x1] (wm_X9_findLevels cA h0 h0_g h0_p h0_rows h0_rows_e h0_sizes h0_outs h0_losses h0_levelOf h0_levelOften h0_kept h0_changed h0_causes h0_sorts h0_moved h0_to h0_round h0_tail h0_path h0_leastOn h0_period h0_amplitude h0_basin h0_numbered h0_isReached h0_tape h0_told h0_traced s0__isKept s0__done s0__undoable s0__redoable s0__all s0__v s0__loss s0__isOver s0__hasCauses s0__outMany s0__overMany s0__isHalted s0__levelMany s0__rounds s0__stuck s0__onRounds s0__longest s0__loudest s0__reached s0__isAnyOver s0__taped s0__at s0__ran s0_g s0_p s0_rows_e s0_sizes s0_outs s0_losses s0_levelOf s0_levelOften) (wm_X9_findLevels cA h0 h0_g h0_p h0_rows h0_rows_e h0_sizes h0_outs h0_losses h0_levelOf h0_levelOften h0_kept h0_changed h0_causes h0_sorts h0_moved h0_to h0_round h0_tail h0_path h0_leastOn h0_period h0_amplitude h0_basin h0_numbered h0_isReached h0_tape h0_told h0_traced s0__isKept s0__done s0__undoable s0__redoable o0__all o0__v o0__loss o0__isOver s0__hasCauses o0__outMany o0__overMany o0__isHalted o0__levelMany s0__rounds s0__stuck s0__onRounds s0__longest s0__loudest s0__reached s0__isAnyOver s0__taped s0__at s0__ran s0_g o0_p s0_rows_e s0_sizes o0_outs o0_losses o0_levelOf o0_levelOften) none := by
  refine Ct.intro (cc := cX9_findLevels) (maxL := 4) (ret := none) (by decide +kernel) rfl (Nat.le_of_ble_eq_true rfl) ?_
  intro p e s m ar below meth c A Q hx hb hr hml hown hlocks hts hK hZ hA hQ hP hD hS ls hl
  have hown : s.vm.findClass RX9 = some m.cls := hown
  have hinX9 : ∀ w ∈ wsX90, w ∈ wsX9_findLevels := fun _ h => List.mem_cons_of_mem _ (List.mem_append_right _ (h))
  have hl : lv_has ls 4 [(0, .ref h0), (1, .int x1)] := hl
  have hP : va_P G vwCl (wm_X9_findLevels cA h0 h0_g h0_p h0_rows h0_rows_e h0_sizes h0_outs h0_losses h0_levelOf h0_levelOften h0_kept h0_changed h0_causes h0_sorts h0_moved h0_to h0_round h0_tail h0_path h0_leastOn h0_period h0_amplitude h0_basin h0_numbered h0_isReached h0_tape h0_told h0_traced s0__isKept s0__done s0__undoable s0__redoable s0__all s0__v s0__loss s0__isOver s0__hasCauses s0__outMany s0__overMany s0__isHalted s0__levelMany s0__rounds s0__stuck s0__onRounds s0__longest s0__loudest s0__reached s0__isAnyOver s0__taped s0__at s0__ran s0_g s0_p s0_rows_e s0_sizes s0_outs s0_losses s0_levelOf s0_levelOften) s.heap := hP
  have hD : va_D A (wm_X9_findLevels cA h0 h0_g h0_p h0_rows h0_rows_e h0_sizes h0_outs h0_losses h0_levelOf h0_levelOften h0_kept h0_changed h0_causes h0_sorts h0_moved h0_to h0_round h0_tail h0_path h0_leastOn h0_period h0_amplitude h0_basin h0_numbered h0_isReached h0_tape h0_told h0_traced s0__isKept s0__done s0__undoable s0__redoable s0__all s0__v s0__loss s0__isOver s0__hasCauses s0__outMany s0__overMany s0__isHalted s0__levelMany s0__rounds s0__stuck s0__onRounds s0__longest s0__loudest s0__reached s0__isAnyOver s0__taped s0__at s0__ran s0_g s0_p s0_rows_e s0_sizes s0_outs s0_losses s0_levelOf s0_levelOften) := hD
  have L_22 : ∀ (n : Nat) (y2 : Int32) (y3 : Int32) (c0__all : Int32) (c0__v : Int32) (c0__loss : Int32) (c0__isOver : Int32) (c0__outMany : Int32) (c0__overMany : Int32) (c0__isHalted : Int32) (c0__levelMany : Int32) (c0_p : Nat → Int32) (c0_outs : Nat → Int32) (c0_losses : Nat → Int32) (c0_levelOf : Nat → Int32) (c0_levelOften : Nat → Int32) (p0_0 : Int32) (H : Heap) (locs : List Loc) (ls : Array Slot), va_P G vwCl (wm_X9_findLevels cA h0 h0_g h0_p h0_rows h0_rows_e h0_sizes h0_outs h0_losses h0_levelOf h0_levelOften h0_kept h0_changed h0_causes h0_sorts h0_moved h0_to h0_round h0_tail h0_path h0_leastOn h0_period h0_amplitude h0_basin h0_numbered h0_isReached h0_tape h0_told h0_traced s0__isKept s0__done s0__undoable s0__redoable c0__all c0__v c0__loss c0__isOver s0__hasCauses c0__outMany c0__overMany c0__isHalted c0__levelMany s0__rounds s0__stuck s0__onRounds s0__longest s0__loudest s0__reached s0__isAnyOver s0__taped s0__at s0__ran s0_g c0_p s0_rows_e s0_sizes c0_outs c0_losses c0_levelOf c0_levelOften) H → va_D A (wm_X9_findLevels cA h0 h0_g h0_p h0_rows h0_rows_e h0_sizes h0_outs h0_losses h0_levelOf h0_levelOften h0_kept h0_changed h0_causes h0_sorts h0_moved h0_to h0_round h0_tail h0_path h0_leastOn h0_period h0_amplitude h0_basin h0_numbered h0_isReached h0_tape h0_told h0_traced s0__isKept s0__done s0__undoable s0__redoable c0__all c0__v c0__loss c0__isOver s0__hasCauses c0__outMany c0__overMany c0__isHalted c0__levelMany s0__rounds s0__stuck s0__onRounds s0__longest s0__loudest s0__reached s0__isAnyOver s0__taped s0__at s0__ran s0_g c0_p s0_rows_e s0_sizes c0_outs c0_losses c0_levelOf c0_levelOften) → va_S A s.heap H locs → lv_has ls 4 [(0, .ref h0), (2, .int y2), (3, .int y3)] → fX9_findLevels_L22 x1 s0_g s0_rows_e s0_sizes n y2 y3 c0__all c0__v c0__loss c0__isOver c0__outMany c0__overMany c0__isHalted c0__levelMany c0_p c0_outs c0_losses c0_levelOf c0_levelOften = some p0_0 → (∀ (H : Heap) (locs : List Loc) (ls : Array Slot), va_P G vwCl (wm_X9_findLevels cA h0 h0_g h0_p h0_rows h0_rows_e h0_sizes h0_outs h0_losses h0_levelOf h0_levelOften h0_kept h0_changed h0_causes h0_sorts h0_moved h0_to h0_round h0_tail h0_path h0_leastOn h0_period h0_amplitude h0_basin h0_numbered h0_isReached h0_tape h0_told h0_traced s0__isKept s0__done s0__undoable s0__redoable c0__all c0__v c0__loss c0__isOver s0__hasCauses c0__outMany c0__overMany c0__isHalted c0__levelMany s0__rounds s0__stuck s0__onRounds s0__longest s0__loudest s0__reached s0__isAnyOver s0__taped s0__at s0__ran s0_g c0_p s0_rows_e s0_sizes c0_outs c0_losses c0_levelOf c0_levelOften) H → va_D A (wm_X9_findLevels cA h0 h0_g h0_p h0_rows h0_rows_e h0_sizes h0_outs h0_losses h0_levelOf h0_levelOften h0_kept h0_changed h0_causes h0_sorts h0_moved h0_to h0_round h0_tail h0_path h0_leastOn h0_period h0_amplitude h0_basin h0_numbered h0_isReached h0_tape h0_told h0_traced s0__isKept s0__done s0__undoable s0__redoable c0__all c0__v c0__loss c0__isOver s0__hasCauses c0__outMany c0__overMany c0__isHalted c0__levelMany s0__rounds s0__stuck s0__onRounds s0__longest s0__loudest s0__reached s0__isAnyOver s0__taped s0__at s0__ran s0_g c0_p s0_rows_e s0_sizes c0_outs c0_losses c0_levelOf c0_levelOften) → va_S A s.heap H locs → lv_has ls 4 [(0, .ref h0), (2, .int y2), (3, .int p0_0)] → W p l e (rmX 5 134) s m ar below meth c H locs 0 0 Q (F0 m 51 ls [])) → W p l e (rmX 5 134) s m ar below meth c H locs 0 0 Q (F0 m 22 ls []) := by
    intro n
    induction n with
    | zero =>
      intro y2 y3 c0__all c0__v c0__loss c0__isOver c0__outMany c0__overMany c0__isHalted c0__levelMany c0_p c0_outs c0_losses c0_levelOf c0_levelOften p0_0 H locs ls hP hD hS hl hok
      rw [fX9_findLevels_L22] at hok
      cases hok
    | succ n ih =>
      intro y2 y3 c0__all c0__v c0__loss c0__isOver c0__outMany c0__overMany c0__isHalted c0__levelMany c0_p c0_outs c0_losses c0_levelOf c0_levelOften p0_0 H locs ls hP hD hS hl hok K
      rw [fX9_findLevels_L22] at hok
      refine lv_iload_n hx hb dX9_findLevels_22 rfl (lv_at hl 2 rfl) ?_
      refine lv_aload_n hx hb dX9_findLevels_23 rfl (lv_at hl 0 rfl) ?_
      refine va_get (ci := 9) (v := .int c0__levelMany) (C := RX9) (T := TX9) (N := 49) hx hb hts hinX9 hown hK hP 0 rfl rfl 25 (by decide) (hts _ (List.mem_of_getElem? (i := 1) rfl)) (fun _ h9 => h9) rfl dX9_findLevels_24 ?_
      refine lv_icmp_ge (tgt := 51) hx hb dX9_findLevels_27 (by decide) (fun c => ?_) (fun c => ?_)
      · replace hok := g_pos hok c
        cases hok
        exact K _ _ _ hP hD hS (lv_sub hl [0, 1, 2] rfl)
      replace hok := g_neg hok c
      refine lv_aload_n hx hb dX9_findLevels_30 rfl (lv_at hl 0 rfl) ?_
      refine va_get (ci := 9) (v := .ref h0_levelOf) (C := RX9) (T := TX9) (N := 49) hx hb hts hinX9 hown hK hP 0 rfl rfl 23 (by decide) (hts _ (List.mem_of_getElem? (i := 3) rfl)) (fun _ h9 => h9) rfl dX9_findLevels_31 ?_
      refine lv_iload_n hx hb dX9_findLevels_34 rfl (lv_at hl 2 rfl) ?_
      obtain ⟨hin, hok⟩ := g_no hok
      refine x_iald (k := y3.toNatClampNeg) hx hb hK hP 11 0 rfl rfl hin rfl dX9_findLevels_35 ?_
      refine lv_aload_n hx hb dX9_findLevels_36 rfl (lv_at hl 0 rfl) ?_
      refine va_get (ci := 9) (v := .ref h0_losses) (C := RX9) (T := TX9) (N := 49) hx hb hts hinX9 hown hK hP 0 rfl rfl 19 (by decide) (hts _ (List.mem_of_getElem? (i := 4) rfl)) (fun _ h9 => h9) rfl dX9_findLevels_37 ?_
      refine lv_iload_n hx hb dX9_findLevels_40 rfl (lv_at hl 1 rfl) ?_
      obtain ⟨hin, hok⟩ := g_no hok
      refine x_iald (k := y2.toNatClampNeg) hx hb hK hP 10 0 rfl rfl hin rfl dX9_findLevels_41 ?_
      refine lv_icmp_eq (tgt := 51) hx hb dX9_findLevels_42 (by decide) (fun c => ?_) (fun c => ?_)
      · replace hok := g_pos hok c
        cases hok
        exact K _ _ _ hP hD hS (lv_sub hl [0, 1, 2] rfl)
      replace hok := g_neg hok c
      refine lv_iinc (v := (y3 + 1)) (lv' := [(3, .int (y3 + 1)), (0, .ref h0), (2, .int y2)]) hx hb dX9_findLevels_45 hl (k := 2) rfl rfl (by decide) rfl (fun ls hl => ?_)
      refine lv_goto (tgt := 22) hx hb dX9_findLevels_48 (by decide) ?_
      exact ih y2 (y3 + 1) c0__all c0__v c0__loss c0__isOver c0__outMany c0__overMany c0__isHalted c0__levelMany c0_p c0_outs c0_losses c0_levelOf c0_levelOften p0_0 _ _ _ hP hD hS (lv_sub hl [1, 2, 0] rfl) hok K
  have L_12 : ∀ (n : Nat) (y2 : Int32) (c0__all : Int32) (c0__v : Int32) (c0__loss : Int32) (c0__isOver : Int32) (c0__outMany : Int32) (c0__overMany : Int32) (c0__isHalted : Int32) (c0__levelMany : Int32) (c0_p : Nat → Int32) (c0_outs : Nat → Int32) (c0_losses : Nat → Int32) (c0_levelOf : Nat → Int32) (c0_levelOften : Nat → Int32) (p0_0 : Int32) (p0_1 : Nat → Int32) (p0_2 : Nat → Int32) (H : Heap) (locs : List Loc) (ls : Array Slot), va_P G vwCl (wm_X9_findLevels cA h0 h0_g h0_p h0_rows h0_rows_e h0_sizes h0_outs h0_losses h0_levelOf h0_levelOften h0_kept h0_changed h0_causes h0_sorts h0_moved h0_to h0_round h0_tail h0_path h0_leastOn h0_period h0_amplitude h0_basin h0_numbered h0_isReached h0_tape h0_told h0_traced s0__isKept s0__done s0__undoable s0__redoable c0__all c0__v c0__loss c0__isOver s0__hasCauses c0__outMany c0__overMany c0__isHalted c0__levelMany s0__rounds s0__stuck s0__onRounds s0__longest s0__loudest s0__reached s0__isAnyOver s0__taped s0__at s0__ran s0_g c0_p s0_rows_e s0_sizes c0_outs c0_losses c0_levelOf c0_levelOften) H → va_D A (wm_X9_findLevels cA h0 h0_g h0_p h0_rows h0_rows_e h0_sizes h0_outs h0_losses h0_levelOf h0_levelOften h0_kept h0_changed h0_causes h0_sorts h0_moved h0_to h0_round h0_tail h0_path h0_leastOn h0_period h0_amplitude h0_basin h0_numbered h0_isReached h0_tape h0_told h0_traced s0__isKept s0__done s0__undoable s0__redoable c0__all c0__v c0__loss c0__isOver s0__hasCauses c0__outMany c0__overMany c0__isHalted c0__levelMany s0__rounds s0__stuck s0__onRounds s0__longest s0__loudest s0__reached s0__isAnyOver s0__taped s0__at s0__ran s0_g c0_p s0_rows_e s0_sizes c0_outs c0_losses c0_levelOf c0_levelOften) → va_S A s.heap H locs → lv_has ls 4 [(0, .ref h0), (2, .int y2)] → fX9_findLevels_L12 x1 s0_g s0_rows_e s0_sizes n y2 c0__all c0__v c0__loss c0__isOver c0__outMany c0__overMany c0__isHalted c0__levelMany c0_p c0_outs c0_losses c0_levelOf c0_levelOften = some (p0_0, p0_1, p0_2) → (∀ (H : Heap) (locs : List Loc) (ls : Array Slot), va_P G vwCl (wm_X9_findLevels cA h0 h0_g h0_p h0_rows h0_rows_e h0_sizes h0_outs h0_losses h0_levelOf h0_levelOften h0_kept h0_changed h0_causes h0_sorts h0_moved h0_to h0_round h0_tail h0_path h0_leastOn h0_period h0_amplitude h0_basin h0_numbered h0_isReached h0_tape h0_told h0_traced s0__isKept s0__done s0__undoable s0__redoable c0__all c0__v c0__loss c0__isOver s0__hasCauses c0__outMany c0__overMany c0__isHalted p0_0 s0__rounds s0__stuck s0__onRounds s0__longest s0__loudest s0__reached s0__isAnyOver s0__taped s0__at s0__ran s0_g c0_p s0_rows_e s0_sizes c0_outs c0_losses p0_1 p0_2) H → va_D A (wm_X9_findLevels cA h0 h0_g h0_p h0_rows h0_rows_e h0_sizes h0_outs h0_losses h0_levelOf h0_levelOften h0_kept h0_changed h0_causes h0_sorts h0_moved h0_to h0_round h0_tail h0_path h0_leastOn h0_period h0_amplitude h0_basin h0_numbered h0_isReached h0_tape h0_told h0_traced s0__isKept s0__done s0__undoable s0__redoable c0__all c0__v c0__loss c0__isOver s0__hasCauses c0__outMany c0__overMany c0__isHalted p0_0 s0__rounds s0__stuck s0__onRounds s0__longest s0__loudest s0__reached s0__isAnyOver s0__taped s0__at s0__ran s0_g c0_p s0_rows_e s0_sizes c0_outs c0_losses p0_1 p0_2) → va_S A s.heap H locs → lv_has ls 4 [] → W p l e (rmX 5 134) s m ar below meth c H locs 0 0 Q (F0 m 104 ls [])) → W p l e (rmX 5 134) s m ar below meth c H locs 0 0 Q (F0 m 12 ls []) := by
    intro n
    induction n with
    | zero =>
      intro y2 c0__all c0__v c0__loss c0__isOver c0__outMany c0__overMany c0__isHalted c0__levelMany c0_p c0_outs c0_losses c0_levelOf c0_levelOften p0_0 p0_1 p0_2 H locs ls hP hD hS hl hok
      rw [fX9_findLevels_L12] at hok
      cases hok
    | succ n ih =>
      intro y2 c0__all c0__v c0__loss c0__isOver c0__outMany c0__overMany c0__isHalted c0__levelMany c0_p c0_outs c0_losses c0_levelOf c0_levelOften p0_0 p0_1 p0_2 H locs ls hP hD hS hl hok K
      rw [fX9_findLevels_L12] at hok
      have J_88 : ∀ (y2 : Int32) (y3 : Int32) (c0__levelMany : Int32) (c0_levelOf : Nat → Int32) (c0_levelOften : Nat → Int32) (H : Heap) (locs : List Loc) (ls : Array Slot), va_P G vwCl (wm_X9_findLevels cA h0 h0_g h0_p h0_rows h0_rows_e h0_sizes h0_outs h0_losses h0_levelOf h0_levelOften h0_kept h0_changed h0_causes h0_sorts h0_moved h0_to h0_round h0_tail h0_path h0_leastOn h0_period h0_amplitude h0_basin h0_numbered h0_isReached h0_tape h0_told h0_traced s0__isKept s0__done s0__undoable s0__redoable c0__all c0__v c0__loss c0__isOver s0__hasCauses c0__outMany c0__overMany c0__isHalted c0__levelMany s0__rounds s0__stuck s0__onRounds s0__longest s0__loudest s0__reached s0__isAnyOver s0__taped s0__at s0__ran s0_g c0_p s0_rows_e s0_sizes c0_outs c0_losses c0_levelOf c0_levelOften) H → va_D A (wm_X9_findLevels cA h0 h0_g h0_p h0_rows h0_rows_e h0_sizes h0_outs h0_losses h0_levelOf h0_levelOften h0_kept h0_changed h0_causes h0_sorts h0_moved h0_to h0_round h0_tail h0_path h0_leastOn h0_period h0_amplitude h0_basin h0_numbered h0_isReached h0_tape h0_told h0_traced s0__isKept s0__done s0__undoable s0__redoable c0__all c0__v c0__loss c0__isOver s0__hasCauses c0__outMany c0__overMany c0__isHalted c0__levelMany s0__rounds s0__stuck s0__onRounds s0__longest s0__loudest s0__reached s0__isAnyOver s0__taped s0__at s0__ran s0_g c0_p s0_rows_e s0_sizes c0_outs c0_losses c0_levelOf c0_levelOften) → va_S A s.heap H locs → lv_has ls 4 [(0, .ref h0), (2, .int y2), (3, .int y3)] → fX9_findLevels_j88 x1 s0_g s0_rows_e s0_sizes (fX9_findLevels_L12 x1 s0_g s0_rows_e s0_sizes n) y2 y3 c0__all c0__v c0__loss c0__isOver c0__outMany c0__overMany c0__isHalted c0__levelMany c0_p c0_outs c0_losses c0_levelOf c0_levelOften = some (p0_0, p0_1, p0_2) → W p l e (rmX 5 134) s m ar below meth c H locs 0 0 Q (F0 m 88 ls []) := by
        intro y2 y3 c0__levelMany c0_levelOf c0_levelOften H locs ls hP hD hS hl hok
        unfold fX9_findLevels_j88 at hok
        refine lv_aload_n hx hb dX9_findLevels_88 rfl (lv_at hl 0 rfl) ?_
        refine va_get (ci := 9) (v := .ref h0_levelOften) (C := RX9) (T := TX9) (N := 49) hx hb hts hinX9 hown hK hP 0 rfl rfl 24 (by decide) (hts _ (List.mem_of_getElem? (i := 5) rfl)) (fun _ h9 => h9) rfl dX9_findLevels_89 ?_
        refine lv_iload_n hx hb dX9_findLevels_92 rfl (lv_at hl 2 rfl) ?_
        refine lv_dup2_11 hx hb dX9_findLevels_93 rfl rfl ?_
        obtain ⟨hin, hok⟩ := g_no hok
        refine x_iald (k := y3.toNatClampNeg) hx hb hK hP 12 0 rfl rfl hin rfl dX9_findLevels_94 ?_
        refine lv_iconst (v := 1) hx hb dX9_findLevels_95 (by decide) ?_
        refine lv_iadd hx hb dX9_findLevels_96 ?_
        obtain ⟨hin, hok⟩ := g_no hok
        refine x_iast (k := y3.toNatClampNeg) hx hb hK hP hD hS 12 0 rfl rfl hin rfl dX9_findLevels_97 (fun H locs hP hD hS => ?_)
        have hP : va_P G vwCl (wm_X9_findLevels cA h0 h0_g h0_p h0_rows h0_rows_e h0_sizes h0_outs h0_losses h0_levelOf h0_levelOften h0_kept h0_changed h0_causes h0_sorts h0_moved h0_to h0_round h0_tail h0_path h0_leastOn h0_period h0_amplitude h0_basin h0_numbered h0_isReached h0_tape h0_told h0_traced s0__isKept s0__done s0__undoable s0__redoable c0__all c0__v c0__loss c0__isOver s0__hasCauses c0__outMany c0__overMany c0__isHalted c0__levelMany s0__rounds s0__stuck s0__onRounds s0__longest s0__loudest s0__reached s0__isAnyOver s0__taped s0__at s0__ran s0_g c0_p s0_rows_e s0_sizes c0_outs c0_losses c0_levelOf (upd c0_levelOften y3.toNatClampNeg ((c0_levelOften y3.toNatClampNeg) + (1:Int32)))) H := hP
        have hD : va_D A (wm_X9_findLevels cA h0 h0_g h0_p h0_rows h0_rows_e h0_sizes h0_outs h0_losses h0_levelOf h0_levelOften h0_kept h0_changed h0_causes h0_sorts h0_moved h0_to h0_round h0_tail h0_path h0_leastOn h0_period h0_amplitude h0_basin h0_numbered h0_isReached h0_tape h0_told h0_traced s0__isKept s0__done s0__undoable s0__redoable c0__all c0__v c0__loss c0__isOver s0__hasCauses c0__outMany c0__overMany c0__isHalted c0__levelMany s0__rounds s0__stuck s0__onRounds s0__longest s0__loudest s0__reached s0__isAnyOver s0__taped s0__at s0__ran s0_g c0_p s0_rows_e s0_sizes c0_outs c0_losses c0_levelOf (upd c0_levelOften y3.toNatClampNeg ((c0_levelOften y3.toNatClampNeg) + (1:Int32)))) := hD
        refine lv_iinc (v := (y2 + 1)) (lv' := [(2, .int (y2 + 1)), (0, .ref h0), (3, .int y3)]) hx hb dX9_findLevels_98 hl (k := 1) rfl rfl (by decide) rfl (fun ls hl => ?_)
        refine lv_goto (tgt := 12) hx hb dX9_findLevels_101 (by decide) ?_
        exact ih (y2 + 1) c0__all c0__v c0__loss c0__isOver c0__outMany c0__overMany c0__isHalted c0__levelMany c0_p c0_outs c0_losses c0_levelOf (upd c0_levelOften y3.toNatClampNeg ((c0_levelOften y3.toNatClampNeg) + (1:Int32))) p0_0 p0_1 p0_2 _ _ _ hP hD hS (lv_sub hl [1, 0] rfl) hok K
      have J_51 : ∀ (y2 : Int32) (y3 : Int32) (c0__levelMany : Int32) (c0_levelOf : Nat → Int32) (c0_levelOften : Nat → Int32) (H : Heap) (locs : List Loc) (ls : Array Slot), va_P G vwCl (wm_X9_findLevels cA h0 h0_g h0_p h0_rows h0_rows_e h0_sizes h0_outs h0_losses h0_levelOf h0_levelOften h0_kept h0_changed h0_causes h0_sorts h0_moved h0_to h0_round h0_tail h0_path h0_leastOn h0_period h0_amplitude h0_basin h0_numbered h0_isReached h0_tape h0_told h0_traced s0__isKept s0__done s0__undoable s0__redoable c0__all c0__v c0__loss c0__isOver s0__hasCauses c0__outMany c0__overMany c0__isHalted c0__levelMany s0__rounds s0__stuck s0__onRounds s0__longest s0__loudest s0__reached s0__isAnyOver s0__taped s0__at s0__ran s0_g c0_p s0_rows_e s0_sizes c0_outs c0_losses c0_levelOf c0_levelOften) H → va_D A (wm_X9_findLevels cA h0 h0_g h0_p h0_rows h0_rows_e h0_sizes h0_outs h0_losses h0_levelOf h0_levelOften h0_kept h0_changed h0_causes h0_sorts h0_moved h0_to h0_round h0_tail h0_path h0_leastOn h0_period h0_amplitude h0_basin h0_numbered h0_isReached h0_tape h0_told h0_traced s0__isKept s0__done s0__undoable s0__redoable c0__all c0__v c0__loss c0__isOver s0__hasCauses c0__outMany c0__overMany c0__isHalted c0__levelMany s0__rounds s0__stuck s0__onRounds s0__longest s0__loudest s0__reached s0__isAnyOver s0__taped s0__at s0__ran s0_g c0_p s0_rows_e s0_sizes c0_outs c0_losses c0_levelOf c0_levelOften) → va_S A s.heap H locs → lv_has ls 4 [(0, .ref h0), (2, .int y2), (3, .int y3)] → fX9_findLevels_j51 x1 s0_g s0_rows_e s0_sizes (fX9_findLevels_L12 x1 s0_g s0_rows_e s0_sizes n) y2 y3 c0__all c0__v c0__loss c0__isOver c0__outMany c0__overMany c0__isHalted c0__levelMany c0_p c0_outs c0_losses c0_levelOf c0_levelOften = some (p0_0, p0_1, p0_2) → W p l e (rmX 5 134) s m ar below meth c H locs 0 0 Q (F0 m 51 ls []) := by
        intro y2 y3 c0__levelMany c0_levelOf c0_levelOften H locs ls hP hD hS hl hok
        unfold fX9_findLevels_j51 at hok
        refine lv_iload_n hx hb dX9_findLevels_51 rfl (lv_at hl 2 rfl) ?_
        refine lv_aload_n hx hb dX9_findLevels_52 rfl (lv_at hl 0 rfl) ?_
        refine va_get (ci := 9) (v := .int c0__levelMany) (C := RX9) (T := TX9) (N := 49) hx hb hts hinX9 hown hK hP 0 rfl rfl 25 (by decide) (hts _ (List.mem_of_getElem? (i := 1) rfl)) (fun _ h9 => h9) rfl dX9_findLevels_53 ?_
        refine lv_icmp_ne (tgt := 88) hx hb dX9_findLevels_56 (by decide) (fun c => ?_) (fun c => ?_)
        · replace hok := g_neg hok c
          exact J_88 y2 y3 c0__levelMany c0_levelOf c0_levelOften _ _ _ hP hD hS (lv_sub hl [0, 1, 2] rfl) hok
        replace hok := g_pos hok c
        refine lv_aload_n hx hb dX9_findLevels_59 rfl (lv_at hl 0 rfl) ?_
        refine va_get (ci := 9) (v := .ref h0_levelOf) (C := RX9) (T := TX9) (N := 49) hx hb hts hinX9 hown hK hP 0 rfl rfl 23 (by decide) (hts _ (List.mem_of_getElem? (i := 3) rfl)) (fun _ h9 => h9) rfl dX9_findLevels_60 ?_
        refine lv_iload_n hx hb dX9_findLevels_63 rfl (lv_at hl 2 rfl) ?_
        refine lv_aload_n hx hb dX9_findLevels_64 rfl (lv_at hl 0 rfl) ?_
        refine va_get (ci := 9) (v := .ref h0_losses) (C := RX9) (T := TX9) (N := 49) hx hb hts hinX9 hown hK hP 0 rfl rfl 19 (by decide) (hts _ (List.mem_of_getElem? (i := 4) rfl)) (fun _ h9 => h9) rfl dX9_findLevels_65 ?_
        refine lv_iload_n hx hb dX9_findLevels_68 rfl (lv_at hl 1 rfl) ?_
        obtain ⟨hin, hok⟩ := g_no hok
        refine x_iald (k := y2.toNatClampNeg) hx hb hK hP 10 0 rfl rfl hin rfl dX9_findLevels_69 ?_
        obtain ⟨hin, hok⟩ := g_no hok
        refine x_iast (k := y3.toNatClampNeg) hx hb hK hP hD hS 11 0 rfl rfl hin rfl dX9_findLevels_70 (fun H locs hP hD hS => ?_)
        have hP : va_P G vwCl (wm_X9_findLevels cA h0 h0_g h0_p h0_rows h0_rows_e h0_sizes h0_outs h0_losses h0_levelOf h0_levelOften h0_kept h0_changed h0_causes h0_sorts h0_moved h0_to h0_round h0_tail h0_path h0_leastOn h0_period h0_amplitude h0_basin h0_numbered h0_isReached h0_tape h0_told h0_traced s0__isKept s0__done s0__undoable s0__redoable c0__all c0__v c0__loss c0__isOver s0__hasCauses c0__outMany c0__overMany c0__isHalted c0__levelMany s0__rounds s0__stuck s0__onRounds s0__longest s0__loudest s0__reached s0__isAnyOver s0__taped s0__at s0__ran s0_g c0_p s0_rows_e s0_sizes c0_outs c0_losses (upd c0_levelOf y3.toNatClampNeg (c0_losses y2.toNatClampNeg)) c0_levelOften) H := hP
        have hD : va_D A (wm_X9_findLevels cA h0 h0_g h0_p h0_rows h0_rows_e h0_sizes h0_outs h0_losses h0_levelOf h0_levelOften h0_kept h0_changed h0_causes h0_sorts h0_moved h0_to h0_round h0_tail h0_path h0_leastOn h0_period h0_amplitude h0_basin h0_numbered h0_isReached h0_tape h0_told h0_traced s0__isKept s0__done s0__undoable s0__redoable c0__all c0__v c0__loss c0__isOver s0__hasCauses c0__outMany c0__overMany c0__isHalted c0__levelMany s0__rounds s0__stuck s0__onRounds s0__longest s0__loudest s0__reached s0__isAnyOver s0__taped s0__at s0__ran s0_g c0_p s0_rows_e s0_sizes c0_outs c0_losses (upd c0_levelOf y3.toNatClampNeg (c0_losses y2.toNatClampNeg)) c0_levelOften) := hD
        refine lv_aload_n hx hb dX9_findLevels_71 rfl (lv_at hl 0 rfl) ?_
        refine va_get (ci := 9) (v := .ref h0_levelOften) (C := RX9) (T := TX9) (N := 49) hx hb hts hinX9 hown hK hP 0 rfl rfl 24 (by decide) (hts _ (List.mem_of_getElem? (i := 5) rfl)) (fun _ h9 => h9) rfl dX9_findLevels_72 ?_
        refine lv_iload_n hx hb dX9_findLevels_75 rfl (lv_at hl 2 rfl) ?_
        refine lv_iconst (v := 0) hx hb dX9_findLevels_76 (by decide) ?_
        obtain ⟨hin, hok⟩ := g_no hok
        refine x_iast (k := y3.toNatClampNeg) hx hb hK hP hD hS 12 0 rfl rfl hin rfl dX9_findLevels_77 (fun H locs hP hD hS => ?_)
        have hP : va_P G vwCl (wm_X9_findLevels cA h0 h0_g h0_p h0_rows h0_rows_e h0_sizes h0_outs h0_losses h0_levelOf h0_levelOften h0_kept h0_changed h0_causes h0_sorts h0_moved h0_to h0_round h0_tail h0_path h0_leastOn h0_period h0_amplitude h0_basin h0_numbered h0_isReached h0_tape h0_told h0_traced s0__isKept s0__done s0__undoable s0__redoable c0__all c0__v c0__loss c0__isOver s0__hasCauses c0__outMany c0__overMany c0__isHalted c0__levelMany s0__rounds s0__stuck s0__onRounds s0__longest s0__loudest s0__reached s0__isAnyOver s0__taped s0__at s0__ran s0_g c0_p s0_rows_e s0_sizes c0_outs c0_losses (upd c0_levelOf y3.toNatClampNeg (c0_losses y2.toNatClampNeg)) (upd c0_levelOften y3.toNatClampNeg (0:Int32))) H := hP
        have hD : va_D A (wm_X9_findLevels cA h0 h0_g h0_p h0_rows h0_rows_e h0_sizes h0_outs h0_losses h0_levelOf h0_levelOften h0_kept h0_changed h0_causes h0_sorts h0_moved h0_to h0_round h0_tail h0_path h0_leastOn h0_period h0_amplitude h0_basin h0_numbered h0_isReached h0_tape h0_told h0_traced s0__isKept s0__done s0__undoable s0__redoable c0__all c0__v c0__loss c0__isOver s0__hasCauses c0__outMany c0__overMany c0__isHalted c0__levelMany s0__rounds s0__stuck s0__onRounds s0__longest s0__loudest s0__reached s0__isAnyOver s0__taped s0__at s0__ran s0_g c0_p s0_rows_e s0_sizes c0_outs c0_losses (upd c0_levelOf y3.toNatClampNeg (c0_losses y2.toNatClampNeg)) (upd c0_levelOften y3.toNatClampNeg (0:Int32))) := hD
        refine lv_aload_n hx hb dX9_findLevels_78 rfl (lv_at hl 0 rfl) ?_
        refine lv_dup hx hb dX9_findLevels_79 rfl ?_
        refine va_get (ci := 9) (v := .int c0__levelMany) (C := RX9) (T := TX9) (N := 49) hx hb hts hinX9 hown hK hP 0 rfl rfl 25 (by decide) (hts _ (List.mem_of_getElem? (i := 1) rfl)) (fun _ h9 => h9) rfl dX9_findLevels_80 ?_
        refine lv_iconst (v := 1) hx hb dX9_findLevels_83 (by decide) ?_
        refine lv_iadd hx hb dX9_findLevels_84 ?_
        refine va_put (D := G) (ci := 9) (v := .int (c0__levelMany + (1:Int32))) (ty := .int) (C := RX9) (T := TX9) (N := 49) hx hb hts hinX9 tyX9 tyX9_ok nmX9 hown hK hP hD hS 0 rfl rfl 25 (by decide) (hts _ (List.mem_of_getElem? (i := 1) rfl)) (fun _ h9 => h9) rfl (by decide +kernel) rfl rfl (Nat.le_of_ble_eq_true rfl) dX9_findLevels_85 (fun H locs hP hD hS => ?_)
        have hP : va_P G vwCl (wm_X9_findLevels cA h0 h0_g h0_p h0_rows h0_rows_e h0_sizes h0_outs h0_losses h0_levelOf h0_levelOften h0_kept h0_changed h0_causes h0_sorts h0_moved h0_to h0_round h0_tail h0_path h0_leastOn h0_period h0_amplitude h0_basin h0_numbered h0_isReached h0_tape h0_told h0_traced s0__isKept s0__done s0__undoable s0__redoable c0__all c0__v c0__loss c0__isOver s0__hasCauses c0__outMany c0__overMany c0__isHalted (c0__levelMany + (1:Int32)) s0__rounds s0__stuck s0__onRounds s0__longest s0__loudest s0__reached s0__isAnyOver s0__taped s0__at s0__ran s0_g c0_p s0_rows_e s0_sizes c0_outs c0_losses (upd c0_levelOf y3.toNatClampNeg (c0_losses y2.toNatClampNeg)) (upd c0_levelOften y3.toNatClampNeg (0:Int32))) H := hP
        have hD : va_D A (wm_X9_findLevels cA h0 h0_g h0_p h0_rows h0_rows_e h0_sizes h0_outs h0_losses h0_levelOf h0_levelOften h0_kept h0_changed h0_causes h0_sorts h0_moved h0_to h0_round h0_tail h0_path h0_leastOn h0_period h0_amplitude h0_basin h0_numbered h0_isReached h0_tape h0_told h0_traced s0__isKept s0__done s0__undoable s0__redoable c0__all c0__v c0__loss c0__isOver s0__hasCauses c0__outMany c0__overMany c0__isHalted (c0__levelMany + (1:Int32)) s0__rounds s0__stuck s0__onRounds s0__longest s0__loudest s0__reached s0__isAnyOver s0__taped s0__at s0__ran s0_g c0_p s0_rows_e s0_sizes c0_outs c0_losses (upd c0_levelOf y3.toNatClampNeg (c0_losses y2.toNatClampNeg)) (upd c0_levelOften y3.toNatClampNeg (0:Int32))) := hD
        exact J_88 y2 y3 (c0__levelMany + (1:Int32)) (upd c0_levelOf y3.toNatClampNeg (c0_losses y2.toNatClampNeg)) (upd c0_levelOften y3.toNatClampNeg (0:Int32)) _ _ _ hP hD hS (lv_sub hl [0, 1, 2] rfl) hok
      refine lv_iload_n hx hb dX9_findLevels_12 rfl (lv_at hl 1 rfl) ?_
      refine lv_aload_n hx hb dX9_findLevels_13 rfl (lv_at hl 0 rfl) ?_
      refine va_get (ci := 9) (v := .int c0__outMany) (C := RX9) (T := TX9) (N := 49) hx hb hts hinX9 hown hK hP 0 rfl rfl 20 (by decide) (hts _ (List.mem_of_getElem? (i := 2) rfl)) (fun _ h9 => h9) rfl dX9_findLevels_14 ?_
      refine lv_icmp_ge (tgt := 104) hx hb dX9_findLevels_17 (by decide) (fun c => ?_) (fun c => ?_)
      · replace hok := g_pos hok c
        cases hok
        exact K _ _ _ hP hD hS (lv_sub hl [] rfl)
      replace hok := g_neg hok c
      refine lv_iconst (v := 0) hx hb dX9_findLevels_20 (by decide) ?_
      refine lv_istore_n (lv' := [(3, .int (0:Int32)), (0, .ref h0), (2, .int y2)]) hx hb dX9_findLevels_21 rfl hl (by decide) rfl (fun ls hl => ?_)
      obtain ⟨o11, hq, hok⟩ := g_bnd1 hok
      refine L_22 FUEL y2 (0:Int32) c0__all c0__v c0__loss c0__isOver c0__outMany c0__overMany c0__isHalted c0__levelMany c0_p c0_outs c0_losses c0_levelOf c0_levelOften o11 _ _ _ hP hD hS (lv_sub hl [1, 2, 0] rfl) hq (fun H locs ls hP hD hS hl => ?_)
      exact J_51 y2 o11 c0__levelMany c0_levelOf c0_levelOften _ _ _ hP hD hS (lv_sub hl [0, 1, 2] rfl) hok
  unfold fX9_findLevels at hok
  refine lv_aload_n hx hb dX9_findLevels_0 rfl (lv_at hl 0 rfl) ?_
  refine lv_iload_n hx hb dX9_findLevels_1 rfl (lv_at hl 1 rfl) ?_
  obtain ⟨o1, o2, o3, o4, o5, o6, o7, o8, o9, o10, hq, hok⟩ := g_bnd10 hok
  refine cG (is := [0, 1, 2, 3, 4, 5, 6, 7, 8, 9, 10]) (wc := (wm_X9_runs cA h0 h0_g h0_p h0_rows h0_rows_e h0_sizes h0_outs h0_losses h0_kept h0_changed h0_causes h0_sorts h0_moved h0_levelOf h0_levelOften h0_to h0_round h0_tail h0_path h0_leastOn h0_period h0_amplitude h0_basin h0_numbered h0_isReached h0_tape h0_told h0_traced s0__isKept s0__done s0__undoable s0__redoable s0__all s0__v s0__loss s0__isOver s0__hasCauses s0__outMany s0__overMany s0__isHalted s0__levelMany s0__rounds s0__stuck s0__onRounds s0__longest s0__loudest s0__reached s0__isAnyOver s0__taped s0__at s0__ran s0_g s0_p s0_rows_e s0_sizes s0_outs s0_losses)) (w1 := (wm_X9_runs cA h0 h0_g h0_p h0_rows h0_rows_e h0_sizes h0_outs h0_losses h0_kept h0_changed h0_causes h0_sorts h0_moved h0_levelOf h0_levelOften h0_to h0_round h0_tail h0_path h0_leastOn h0_period h0_amplitude h0_basin h0_numbered h0_isReached h0_tape h0_told h0_traced s0__isKept s0__done s0__undoable s0__redoable o1 o2 o3 o4 s0__hasCauses o5 o6 o7 s0__levelMany s0__rounds s0__stuck s0__onRounds s0__longest s0__loudest s0__reached s0__isAnyOver s0__taped s0__at s0__ran s0_g o8 s0_rows_e s0_sizes o9 o10)) (rv := none) (st1 := []) (va_runV (Ts := wsX9_findLevels) (As := [.int x1]) (rest := []) ⟨hx, hb, hml, hown, hts⟩ (c_X9_runs l G cA ts h0 h0_g h0_p h0_rows h0_rows_e h0_sizes h0_outs h0_losses h0_kept h0_changed h0_causes h0_sorts h0_moved h0_levelOf h0_levelOften h0_to h0_round h0_tail h0_path h0_leastOn h0_period h0_amplitude h0_basin h0_numbered h0_isReached h0_tape h0_told h0_traced x1 s0__isKept s0__done s0__undoable s0__redoable s0__all s0__v s0__loss s0__isOver s0__hasCauses s0__outMany s0__overMany s0__isHalted s0__levelMany s0__rounds s0__stuck s0__onRounds s0__longest s0__loudest s0__reached s0__isAnyOver s0__taped s0__at s0__ran s0_g s0_p s0_rows_e s0_sizes s0_outs s0_losses o1 o2 o3 o4 o5 o6 o7 o8 o9 o10 hq s.heap.size) (cwV 1 hts gX9_findLevels_X9_runs rfl rfl rfl (by decide +kernel) ⟨Nat.le_of_ble_eq_true rfl, Nat.le_of_ble_eq_true rfl⟩) (pre_V (ci := 9) (q0 := 0) (is := [0, 1, 2, 3, 4, 5, 6, 7, 8, 9, 10]) rfl rfl hP hD hS hA hK hZ (by decide +kernel) (by rfl)) rfl rfl hl.1 rfl (by exact lv_room (Nat.le_of_ble_eq_true rfl)) dX9_findLevels_2 ⟨Nat.le_refl _, Nat.le_refl _⟩) hP hD hS hA (by decide +kernel) (by rfl) (by rfl) rfl (fun H locs hP hD hS => ?_)
  obtain ⟨hP, hD⟩ : va_P G vwCl (wm_X9_findLevels cA h0 h0_g h0_p h0_rows h0_rows_e h0_sizes h0_outs h0_losses h0_levelOf h0_levelOften h0_kept h0_changed h0_causes h0_sorts h0_moved h0_to h0_round h0_tail h0_path h0_leastOn h0_period h0_amplitude h0_basin h0_numbered h0_isReached h0_tape h0_told h0_traced s0__isKept s0__done s0__undoable s0__redoable o1 o2 o3 o4 s0__hasCauses o5 o6 o7 s0__levelMany s0__rounds s0__stuck s0__onRounds s0__longest s0__loudest s0__reached s0__isAnyOver s0__taped s0__at s0__ran s0_g o8 s0_rows_e s0_sizes o9 o10 s0_levelOf s0_levelOften) H ∧ va_D A (wm_X9_findLevels cA h0 h0_g h0_p h0_rows h0_rows_e h0_sizes h0_outs h0_losses h0_levelOf h0_levelOften h0_kept h0_changed h0_causes h0_sorts h0_moved h0_to h0_round h0_tail h0_path h0_leastOn h0_period h0_amplitude h0_basin h0_numbered h0_isReached h0_tape h0_told h0_traced s0__isKept s0__done s0__undoable s0__redoable o1 o2 o3 o4 s0__hasCauses o5 o6 o7 s0__levelMany s0__rounds s0__stuck s0__onRounds s0__longest s0__loudest s0__reached s0__isAnyOver s0__taped s0__at s0__ran s0_g o8 s0_rows_e s0_sizes o9 o10 s0_levelOf s0_levelOften) := PD_eq hP hD (rp_eq (js := [11, 12]) 13 (by decide +kernel) rfl rfl (by rfl) (by rfl) (by decide +kernel))
  refine lv_aload_n hx hb dX9_findLevels_5 rfl (lv_at hl 0 rfl) ?_
  refine lv_iconst (v := 0) hx hb dX9_findLevels_6 (by decide) ?_
  refine va_put (D := G) (ci := 9) (v := .int (0:Int32)) (ty := .int) (C := RX9) (T := TX9) (N := 49) hx hb hts hinX9 tyX9 tyX9_ok nmX9 hown hK hP hD hS 0 rfl rfl 25 (by decide) (hts _ (List.mem_of_getElem? (i := 1) rfl)) (fun _ h9 => h9) rfl (by decide +kernel) rfl rfl (Nat.le_of_ble_eq_true rfl) dX9_findLevels_7 (fun H locs hP hD hS => ?_)
  have hP : va_P G vwCl (wm_X9_findLevels cA h0 h0_g h0_p h0_rows h0_rows_e h0_sizes h0_outs h0_losses h0_levelOf h0_levelOften h0_kept h0_changed h0_causes h0_sorts h0_moved h0_to h0_round h0_tail h0_path h0_leastOn h0_period h0_amplitude h0_basin h0_numbered h0_isReached h0_tape h0_told h0_traced s0__isKept s0__done s0__undoable s0__redoable o1 o2 o3 o4 s0__hasCauses o5 o6 o7 (0:Int32) s0__rounds s0__stuck s0__onRounds s0__longest s0__loudest s0__reached s0__isAnyOver s0__taped s0__at s0__ran s0_g o8 s0_rows_e s0_sizes o9 o10 s0_levelOf s0_levelOften) H := hP
  have hD : va_D A (wm_X9_findLevels cA h0 h0_g h0_p h0_rows h0_rows_e h0_sizes h0_outs h0_losses h0_levelOf h0_levelOften h0_kept h0_changed h0_causes h0_sorts h0_moved h0_to h0_round h0_tail h0_path h0_leastOn h0_period h0_amplitude h0_basin h0_numbered h0_isReached h0_tape h0_told h0_traced s0__isKept s0__done s0__undoable s0__redoable o1 o2 o3 o4 s0__hasCauses o5 o6 o7 (0:Int32) s0__rounds s0__stuck s0__onRounds s0__longest s0__loudest s0__reached s0__isAnyOver s0__taped s0__at s0__ran s0_g o8 s0_rows_e s0_sizes o9 o10 s0_levelOf s0_levelOften) := hD
  refine lv_iconst (v := 0) hx hb dX9_findLevels_10 (by decide) ?_
  refine lv_istore_n (lv' := [(2, .int (0:Int32)), (0, .ref h0), (1, .int x1)]) hx hb dX9_findLevels_11 rfl hl (by decide) rfl (fun ls hl => ?_)
  obtain ⟨o12, o13, o14, hq, hok⟩ := g_bnd3 hok
  refine L_12 FUEL (0:Int32) o1 o2 o3 o4 o5 o6 o7 (0:Int32) o8 o9 o10 s0_levelOf s0_levelOften o12 o13 o14 _ _ _ hP hD hS (lv_sub hl [1, 0] rfl) hq (fun H locs ls hP hD hS hl => ?_)
  obtain ⟨e, hok⟩ := g_pr hok
  try subst e
  obtain ⟨e, hok⟩ := g_pr hok
  try subst e
  obtain ⟨e, hok⟩ := g_pr hok
  try subst e
  obtain ⟨e, hok⟩ := g_pr hok
  try subst e
  obtain ⟨e, hok⟩ := g_pr hok
  try subst e
  obtain ⟨e, hok⟩ := g_pr hok
  try subst e
  obtain ⟨e, hok⟩ := g_pr hok
  try subst e
  obtain ⟨e, hok⟩ := g_pr hok
  try subst e
  obtain ⟨e, hok⟩ := g_pr hok
  try subst e
  obtain ⟨e, hok⟩ := g_pr hok
  try subst e
  obtain ⟨e, hok⟩ := g_pr hok
  try subst e
  obtain ⟨e, hok⟩ := g_pr hok
  try subst e
  cases hok
  exact cr_v hx hb hr hlocks hQ dX9_findLevels_104 hP hS
set_option maxHeartbeats 40000000 in
set_option maxRecDepth 100000 in
theorem c_X9_levels (l : Launch) (G : va_G) (cA : Nat → ClassId) (ts : Nat → Nat) (h0 : Nat) (h0_g : Nat) (h0_p : Nat) (h0_rows : Nat) (h0_rows_e : Nat → Nat) (h0_sorts : Nat) (h0_sizes : Nat) (h0_outs : Nat) (h0_losses : Nat) (h0_levelOf : Nat) (h0_levelOften : Nat) (h0_kept : Nat) (h0_changed : Nat) (h0_causes : Nat) (h0_moved : Nat) (h0_to : Nat) (h0_round : Nat) (h0_tail : Nat) (h0_path : Nat) (h0_leastOn : Nat) (h0_period : Nat) (h0_amplitude : Nat) (h0_basin : Nat) (h0_numbered : Nat) (h0_isReached : Nat) (h0_tape : Nat) (h0_told : Nat) (h0_traced : Nat) (x1 : Int32) (s0__isKept : Int32) (s0__done : Int32) (s0__undoable : Int32) (s0__redoable : Int32) (s0__all : Int32) (s0__v : Int32) (s0__loss : Int32) (s0__isOver : Int32) (s0__hasCauses : Int32) (s0__outMany : Int32) (s0__overMany : Int32) (s0__isHalted : Int32) (s0__levelMany : Int32) (s0__rounds : Int32) (s0__stuck : Int32) (s0__onRounds : Int32) (s0__longest : Int32) (s0__loudest : Int32) (s0__reached : Int32) (s0__isAnyOver : Int32) (s0__taped : Int32) (s0__at : Int32) (s0__ran : Int32) (s0_g : Nat → Int32) (s0_p : Nat → Int32) (s0_rows_e : Nat → Nat → Int64) (s0_sorts : Nat → Int32) (s0_sizes : Nat → Int32) (s0_outs : Nat → Int32) (s0_losses : Nat → Int32) (s0_levelOf : Nat → Int32) (s0_levelOften : Nat → Int32) (r : Int32) (o0__all : Int32) (o0__v : Int32) (o0__loss : Int32) (o0__isOver : Int32) (o0__outMany : Int32) (o0__overMany : Int32) (o0__isHalted : Int32) (o0__levelMany : Int32) (o0_p : Nat → Int32) (o0_outs : Nat → Int32) (o0_losses : Nat → Int32) (o0_levelOf : Nat → Int32) (o0_levelOften : Nat → Int32) (hok : fX9_levels x1 s0__all s0__v s0__loss s0__isOver s0__outMany s0__overMany s0__isHalted s0__levelMany s0_g s0_p s0_rows_e s0_sorts s0_sizes s0_outs s0_losses s0_levelOf s0_levelOften = some (r, o0__all, o0__v, o0__loss, o0__isOver, o0__outMany, o0__overMany, o0__isHalted, o0__levelMany, o0_p, o0_outs, o0_losses, o0_levelOf, o0_levelOften)) : Ct l G cA ts yX9_levels wsX9_levels 6 157 [.ref h0, .int x1] (wm_X9_levels cA h0 h0_g h0_p h0_rows h0_rows_e h0_sorts h0_sizes h0_outs h0_losses h0_levelOf h0_levelOften h0_kept h0_changed h0_causes h0_moved h0_to h0_round h0_tail h0_path h0_leastOn h0_period h0_amplitude h0_basin h0_numbered h0_isReached h0_tape h0_told h0_traced s0__isKept s0__done s0__undoable s0__redoable s0__all s0__v s0__loss s0__isOver s0__hasCauses s0__outMany s0__overMany s0__isHalted s0__levelMany s0__rounds s0__stuck s0__onRounds s0__longest s0__loudest s0__reached s0__isAnyOver s0__taped s0__at s0__ran s0_g s0_p s0_rows_e s0_sorts s0_sizes s0_outs s0_losses s0_levelOf s0_levelOften) (wm_X9_levels cA h0 h0_g h0_p h0_rows h0_rows_e h0_sorts h0_sizes h0_outs h0_losses h0_levelOf h0_levelOften h0_kept h0_changed h0_causes h0_moved h0_to h0_round h0_tail h0_path h0_leastOn h0_period h0_amplitude h0_basin h0_numbered h0_isReached h0_tape h0_told h0_traced s0__isKept s0__done s0__undoable s0__redoable o0__all o0__v o0__loss o0__isOver s0__hasCauses o0__outMany o0__overMany o0__isHalted o0__levelMany s0__rounds s0__stuck s0__onRounds s0__longest s0__loudest s0__reached s0__isAnyOver s0__taped s0__at s0__ran s0_g o0_p s0_rows_e s0_sorts s0_sizes o0_outs o0_losses o0_levelOf o0_levelOften) (some (.int r)) := by
  refine Ct.intro (cc := cX9_levels) (maxL := 2) (ret := some .int) (by decide +kernel) rfl (Nat.le_of_ble_eq_true rfl) ?_
  intro p e s m ar below meth c A Q hx hb hr hml hown hlocks hts hK hZ hA hQ hP hD hS ls hl
  have hown : s.vm.findClass RX9 = some m.cls := hown
  have hinX9 : ∀ w ∈ wsX90, w ∈ wsX9_levels := fun _ h => List.mem_cons_of_mem _ (List.mem_append_right _ (h))
  have hl : lv_has ls 2 [(0, .ref h0), (1, .int x1)] := hl
  have hP : va_P G vwCl (wm_X9_levels cA h0 h0_g h0_p h0_rows h0_rows_e h0_sorts h0_sizes h0_outs h0_losses h0_levelOf h0_levelOften h0_kept h0_changed h0_causes h0_moved h0_to h0_round h0_tail h0_path h0_leastOn h0_period h0_amplitude h0_basin h0_numbered h0_isReached h0_tape h0_told h0_traced s0__isKept s0__done s0__undoable s0__redoable s0__all s0__v s0__loss s0__isOver s0__hasCauses s0__outMany s0__overMany s0__isHalted s0__levelMany s0__rounds s0__stuck s0__onRounds s0__longest s0__loudest s0__reached s0__isAnyOver s0__taped s0__at s0__ran s0_g s0_p s0_rows_e s0_sorts s0_sizes s0_outs s0_losses s0_levelOf s0_levelOften) s.heap := hP
  have hD : va_D A (wm_X9_levels cA h0 h0_g h0_p h0_rows h0_rows_e h0_sorts h0_sizes h0_outs h0_losses h0_levelOf h0_levelOften h0_kept h0_changed h0_causes h0_moved h0_to h0_round h0_tail h0_path h0_leastOn h0_period h0_amplitude h0_basin h0_numbered h0_isReached h0_tape h0_told h0_traced s0__isKept s0__done s0__undoable s0__redoable s0__all s0__v s0__loss s0__isOver s0__hasCauses s0__outMany s0__overMany s0__isHalted s0__levelMany s0__rounds s0__stuck s0__onRounds s0__longest s0__loudest s0__reached s0__isAnyOver s0__taped s0__at s0__ran s0_g s0_p s0_rows_e s0_sorts s0_sizes s0_outs s0_losses s0_levelOf s0_levelOften) := hD
  unfold fX9_levels at hok
  refine lv_iload_n hx hb dX9_levels_0 rfl (lv_at hl 1 rfl) ?_
  obtain ⟨r1, hq, hok⟩ := g_bnd1 hok
  refine cG (is := []) (wc := (wm_X0_find cA)) (w1 := (wm_X0_find cA)) (rv := (some (.int r1))) (st1 := [.int r1]) (va_runS (Ts := wsX9_levels) (As := [.int x1]) (rest := []) ⟨hx, hb, hml, hown, hts⟩ (c_X9_isRow l G cA ts x1 r1 hq s.heap.size) (va_cwS 1 hts gX9_levels_X9_isRow rfl rfl rfl (by decide +kernel) ⟨Nat.le_of_ble_eq_true rfl, Nat.le_of_ble_eq_true rfl⟩) (pre_S (is := []) hP hD hS hA hK hZ (by decide +kernel) (by rfl)) rfl rfl hl.1 rfl (by exact lv_room (Nat.le_of_ble_eq_true rfl)) dX9_levels_1 ⟨Nat.le_refl _, Nat.le_refl _⟩) hP hD hS hA (by decide +kernel) (by rfl) (by rfl) rfl (fun H locs hP hD hS => ?_)
  have hP : va_P G vwCl (wm_X9_levels cA h0 h0_g h0_p h0_rows h0_rows_e h0_sorts h0_sizes h0_outs h0_losses h0_levelOf h0_levelOften h0_kept h0_changed h0_causes h0_moved h0_to h0_round h0_tail h0_path h0_leastOn h0_period h0_amplitude h0_basin h0_numbered h0_isReached h0_tape h0_told h0_traced s0__isKept s0__done s0__undoable s0__redoable s0__all s0__v s0__loss s0__isOver s0__hasCauses s0__outMany s0__overMany s0__isHalted s0__levelMany s0__rounds s0__stuck s0__onRounds s0__longest s0__loudest s0__reached s0__isAnyOver s0__taped s0__at s0__ran s0_g s0_p s0_rows_e s0_sorts s0_sizes s0_outs s0_losses s0_levelOf s0_levelOften) H := hP
  have hD : va_D A (wm_X9_levels cA h0 h0_g h0_p h0_rows h0_rows_e h0_sorts h0_sizes h0_outs h0_losses h0_levelOf h0_levelOften h0_kept h0_changed h0_causes h0_moved h0_to h0_round h0_tail h0_path h0_leastOn h0_period h0_amplitude h0_basin h0_numbered h0_isReached h0_tape h0_told h0_traced s0__isKept s0__done s0__undoable s0__redoable s0__all s0__v s0__loss s0__isOver s0__hasCauses s0__outMany s0__overMany s0__isHalted s0__levelMany s0__rounds s0__stuck s0__onRounds s0__longest s0__loudest s0__reached s0__isAnyOver s0__taped s0__at s0__ran s0_g s0_p s0_rows_e s0_sorts s0_sizes s0_outs s0_losses s0_levelOf s0_levelOften) := hD
  refine lv_if_ne (tgt := 9) hx hb dX9_levels_4 (by decide) (fun c => ?_) (fun c => ?_)
  · replace hok := g_neg hok c
    refine lv_aload_n hx hb dX9_levels_9 rfl (lv_at hl 0 rfl) ?_
    refine va_get (ci := 9) (v := .ref h0_sorts) (C := RX9) (T := TX9) (N := 49) hx hb hts hinX9 hown hK hP 0 rfl rfl 15 (by decide) (hts _ (List.mem_of_getElem? (i := 1) rfl)) (fun _ h9 => h9) rfl dX9_levels_10 ?_
    refine lv_iload_n hx hb dX9_levels_13 rfl (lv_at hl 1 rfl) ?_
    obtain ⟨hin, hok⟩ := g_no hok
    refine x_iald (k := x1.toNatClampNeg) hx hb hK hP 8 0 rfl rfl hin rfl dX9_levels_14 ?_
    refine lv_if_ge (tgt := 21) hx hb dX9_levels_15 (by decide) (fun c => ?_) (fun c => ?_)
    · replace hok := g_pos hok c
      refine lv_aload_n hx hb dX9_levels_21 rfl (lv_at hl 0 rfl) ?_
      refine lv_iload_n hx hb dX9_levels_22 rfl (lv_at hl 1 rfl) ?_
      obtain ⟨o2, o3, o4, o5, o6, o7, o8, o9, o10, o11, o12, o13, o14, hq, hok⟩ := g_bnd13 hok
      refine cG (is := [0, 1, 2, 3, 4, 5, 6, 7, 9, 10, 11, 12, 13]) (wc := (wm_X9_findLevels cA h0 h0_g h0_p h0_rows h0_rows_e h0_sizes h0_outs h0_losses h0_levelOf h0_levelOften h0_kept h0_changed h0_causes h0_sorts h0_moved h0_to h0_round h0_tail h0_path h0_leastOn h0_period h0_amplitude h0_basin h0_numbered h0_isReached h0_tape h0_told h0_traced s0__isKept s0__done s0__undoable s0__redoable s0__all s0__v s0__loss s0__isOver s0__hasCauses s0__outMany s0__overMany s0__isHalted s0__levelMany s0__rounds s0__stuck s0__onRounds s0__longest s0__loudest s0__reached s0__isAnyOver s0__taped s0__at s0__ran s0_g s0_p s0_rows_e s0_sizes s0_outs s0_losses s0_levelOf s0_levelOften)) (w1 := (wm_X9_findLevels cA h0 h0_g h0_p h0_rows h0_rows_e h0_sizes h0_outs h0_losses h0_levelOf h0_levelOften h0_kept h0_changed h0_causes h0_sorts h0_moved h0_to h0_round h0_tail h0_path h0_leastOn h0_period h0_amplitude h0_basin h0_numbered h0_isReached h0_tape h0_told h0_traced s0__isKept s0__done s0__undoable s0__redoable o2 o3 o4 o5 s0__hasCauses o6 o7 o8 o9 s0__rounds s0__stuck s0__onRounds s0__longest s0__loudest s0__reached s0__isAnyOver s0__taped s0__at s0__ran s0_g o10 s0_rows_e s0_sizes o11 o12 o13 o14)) (rv := none) (st1 := []) (va_runV (Ts := wsX9_levels) (As := [.int x1]) (rest := []) ⟨hx, hb, hml, hown, hts⟩ (c_X9_findLevels l G cA ts h0 h0_g h0_p h0_rows h0_rows_e h0_sizes h0_outs h0_losses h0_levelOf h0_levelOften h0_kept h0_changed h0_causes h0_sorts h0_moved h0_to h0_round h0_tail h0_path h0_leastOn h0_period h0_amplitude h0_basin h0_numbered h0_isReached h0_tape h0_told h0_traced x1 s0__isKept s0__done s0__undoable s0__redoable s0__all s0__v s0__loss s0__isOver s0__hasCauses s0__outMany s0__overMany s0__isHalted s0__levelMany s0__rounds s0__stuck s0__onRounds s0__longest s0__loudest s0__reached s0__isAnyOver s0__taped s0__at s0__ran s0_g s0_p s0_rows_e s0_sizes s0_outs s0_losses s0_levelOf s0_levelOften o2 o3 o4 o5 o6 o7 o8 o9 o10 o11 o12 o13 o14 hq H.size) (cwV 1 hts gX9_levels_X9_findLevels rfl rfl rfl (by decide +kernel) ⟨Nat.le_of_ble_eq_true rfl, Nat.le_of_ble_eq_true rfl⟩) (pre_V (ci := 9) (q0 := 0) (is := [0, 1, 2, 3, 4, 5, 6, 7, 9, 10, 11, 12, 13]) rfl rfl hP hD hS hA hK hZ (by decide +kernel) (by rfl)) rfl rfl hl.1 rfl (by exact lv_room (Nat.le_of_ble_eq_true rfl)) dX9_levels_23 ⟨Nat.le_refl _, Nat.le_refl _⟩) hP hD hS hA (by decide +kernel) (by rfl) (by rfl) rfl (fun H locs hP hD hS => ?_)
      obtain ⟨hP, hD⟩ : va_P G vwCl (wm_X9_levels cA h0 h0_g h0_p h0_rows h0_rows_e h0_sorts h0_sizes h0_outs h0_losses h0_levelOf h0_levelOften h0_kept h0_changed h0_causes h0_moved h0_to h0_round h0_tail h0_path h0_leastOn h0_period h0_amplitude h0_basin h0_numbered h0_isReached h0_tape h0_told h0_traced s0__isKept s0__done s0__undoable s0__redoable o2 o3 o4 o5 s0__hasCauses o6 o7 o8 o9 s0__rounds s0__stuck s0__onRounds s0__longest s0__loudest s0__reached s0__isAnyOver s0__taped s0__at s0__ran s0_g o10 s0_rows_e s0_sorts s0_sizes o11 o12 o13 o14) H ∧ va_D A (wm_X9_levels cA h0 h0_g h0_p h0_rows h0_rows_e h0_sorts h0_sizes h0_outs h0_losses h0_levelOf h0_levelOften h0_kept h0_changed h0_causes h0_moved h0_to h0_round h0_tail h0_path h0_leastOn h0_period h0_amplitude h0_basin h0_numbered h0_isReached h0_tape h0_told h0_traced s0__isKept s0__done s0__undoable s0__redoable o2 o3 o4 o5 s0__hasCauses o6 o7 o8 o9 s0__rounds s0__stuck s0__onRounds s0__longest s0__loudest s0__reached s0__isAnyOver s0__taped s0__at s0__ran s0_g o10 s0_rows_e s0_sorts s0_sizes o11 o12 o13 o14) := PD_eq hP hD (rp_eq (js := [8]) 14 (by decide +kernel) rfl rfl (by rfl) (by rfl) (by decide +kernel))
      refine lv_aload_n hx hb dX9_levels_26 rfl (lv_at hl 0 rfl) ?_
      refine va_get (ci := 9) (v := .int o9) (C := RX9) (T := TX9) (N := 49) hx hb hts hinX9 hown hK hP 0 rfl rfl 25 (by decide) (hts _ (List.mem_of_getElem? (i := 2) rfl)) (fun _ h9 => h9) rfl dX9_levels_27 ?_
      obtain ⟨e, hok⟩ := g_pr hok
      try subst e
      obtain ⟨e, hok⟩ := g_pr hok
      try subst e
      obtain ⟨e, hok⟩ := g_pr hok
      try subst e
      obtain ⟨e, hok⟩ := g_pr hok
      try subst e
      obtain ⟨e, hok⟩ := g_pr hok
      try subst e
      obtain ⟨e, hok⟩ := g_pr hok
      try subst e
      obtain ⟨e, hok⟩ := g_pr hok
      try subst e
      obtain ⟨e, hok⟩ := g_pr hok
      try subst e
      obtain ⟨e, hok⟩ := g_pr hok
      try subst e
      obtain ⟨e, hok⟩ := g_pr hok
      try subst e
      obtain ⟨e, hok⟩ := g_pr hok
      try subst e
      obtain ⟨e, hok⟩ := g_pr hok
      try subst e
      obtain ⟨e, hok⟩ := g_pr hok
      try subst e
      cases hok
      exact cr_i hx hb hr hlocks hQ dX9_levels_30 hP hS
    replace hok := g_neg hok c
    refine lv_bipush (v := -11) hx hb dX9_levels_18 (by decide) ?_
    obtain ⟨e, hok⟩ := g_pr hok
    try subst e
    obtain ⟨e, hok⟩ := g_pr hok
    try subst e
    obtain ⟨e, hok⟩ := g_pr hok
    try subst e
    obtain ⟨e, hok⟩ := g_pr hok
    try subst e
    obtain ⟨e, hok⟩ := g_pr hok
    try subst e
    obtain ⟨e, hok⟩ := g_pr hok
    try subst e
    obtain ⟨e, hok⟩ := g_pr hok
    try subst e
    obtain ⟨e, hok⟩ := g_pr hok
    try subst e
    obtain ⟨e, hok⟩ := g_pr hok
    try subst e
    obtain ⟨e, hok⟩ := g_pr hok
    try subst e
    obtain ⟨e, hok⟩ := g_pr hok
    try subst e
    obtain ⟨e, hok⟩ := g_pr hok
    try subst e
    obtain ⟨e, hok⟩ := g_pr hok
    try subst e
    cases hok
    exact cr_i hx hb hr hlocks hQ dX9_levels_20 hP hS
  replace hok := g_pos hok c
  refine lv_iconst (v := -1) hx hb dX9_levels_7 (by decide) ?_
  obtain ⟨e, hok⟩ := g_pr hok
  try subst e
  obtain ⟨e, hok⟩ := g_pr hok
  try subst e
  obtain ⟨e, hok⟩ := g_pr hok
  try subst e
  obtain ⟨e, hok⟩ := g_pr hok
  try subst e
  obtain ⟨e, hok⟩ := g_pr hok
  try subst e
  obtain ⟨e, hok⟩ := g_pr hok
  try subst e
  obtain ⟨e, hok⟩ := g_pr hok
  try subst e
  obtain ⟨e, hok⟩ := g_pr hok
  try subst e
  obtain ⟨e, hok⟩ := g_pr hok
  try subst e
  obtain ⟨e, hok⟩ := g_pr hok
  try subst e
  obtain ⟨e, hok⟩ := g_pr hok
  try subst e
  obtain ⟨e, hok⟩ := g_pr hok
  try subst e
  obtain ⟨e, hok⟩ := g_pr hok
  try subst e
  cases hok
  exact cr_i hx hb hr hlocks hQ dX9_levels_8 hP hS
