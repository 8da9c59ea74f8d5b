set_option maxHeartbeats 40000000 in
set_option maxRecDepth 100000 in
theorem c_X8_act (l : Launch) (G : va_G) (cA : Nat → ClassId) (ts : Nat → Nat) (h0 : Nat) (h0_bodies : Nat) (h0_bodies_trace : Nat) (h0_filter : Nat) (h0_trial : Nat) (h0_kept : Nat) (h0_ways : Nat) (h0_spread : Nat) (h0_course : Nat) (h0_rows : Nat) (h0_changes : Nat) (h0_tape : Nat) (h0_causes : Nat) (x1 : Int32) (x2 : Int32) (x3 : Int32) (s0__hasImage : Int32) (s0__hasCauses : Int32) (s0__stepsDone : Int32) (s0_bodies__ran : Int32) (s0_bodies_trace : Nat → Int32) (r : Int32) (o0_bodies__ran : Int32) (o0_bodies_trace : Nat → Int32) (hok : fX8_act x1 x2 x3 s0_bodies__ran s0_bodies_trace = some (r, o0_bodies__ran, o0_bodies_trace)) : Ct l G cA ts yX8_act wsX8_act 34 928 [.ref h0, .int x1, .int x2, .int x3] (wm_X8_act cA h0 h0_bodies h0_bodies_trace h0_filter h0_trial h0_kept h0_ways h0_spread h0_course h0_rows h0_changes h0_tape h0_causes s0__hasImage s0__hasCauses s0__stepsDone s0_bodies__ran s0_bodies_trace) (wm_X8_act cA h0 h0_bodies h0_bodies_trace h0_filter h0_trial h0_kept h0_ways h0_spread h0_course h0_rows h0_changes h0_tape h0_causes s0__hasImage s0__hasCauses s0__stepsDone o0_bodies__ran o0_bodies_trace) (some (.int r)) := by
  refine Ct.intro (cc := cX8_act) (maxL := 4) (ret := some .int) (by decide +kernel) rfl (Nat.le_of_ble_eq_true rfl) ?_
  intro p e s m ar below meth c A Q hx hb hr hml hown hlocks hts hK hZ hA hQ hP hD hS ls hl
  have hown : s.vm.findClass RX8 = some m.cls := hown
  have hinX0 : ∀ w ∈ wsX00, w ∈ wsX8_act := fun _ h => List.mem_cons_of_mem _ (List.mem_append_right _ (h))
  have hinX8 : ∀ w ∈ wsX80, w ∈ wsX8_act := fun _ h => List.mem_cons_of_mem _ (List.mem_append_left _ (List.mem_append_right _ (h)))
  have hl : lv_has ls 4 [(0, .ref h0), (1, .int x1), (2, .int x2), (3, .int x3)] := hl
  have hP : va_P G vwCl (wm_X8_act cA h0 h0_bodies h0_bodies_trace h0_filter h0_trial h0_kept h0_ways h0_spread h0_course h0_rows h0_changes h0_tape h0_causes s0__hasImage s0__hasCauses s0__stepsDone s0_bodies__ran s0_bodies_trace) s.heap := hP
  have hD : va_D A (wm_X8_act cA h0 h0_bodies h0_bodies_trace h0_filter h0_trial h0_kept h0_ways h0_spread h0_course h0_rows h0_changes h0_tape h0_causes s0__hasImage s0__hasCauses s0__stepsDone s0_bodies__ran s0_bodies_trace) := hD
  unfold fX8_act at hok
  refine lv_iload_n hx hb dX8_act_0 rfl (lv_at hl 1 rfl) ?_
  obtain ⟨r1, hq, hok⟩ := g_bnd1 hok
  refine cG (is := []) (wc := (wm_X0_find cA)) (w1 := (wm_X0_find cA)) (rv := (some (.int r1))) (st1 := [.int r1]) (va_runS (Ts := wsX8_act) (As := [.int x1]) (rest := []) ⟨hx, hb, hml, hown, hts⟩ (c_X8_isKind l G cA ts x1 r1 hq s.heap.size) (va_cwS 1 hts gX8_act_X8_isKind rfl rfl rfl (by decide +kernel) ⟨Nat.le_of_ble_eq_true rfl, Nat.le_of_ble_eq_true rfl⟩) (pre_S (is := []) hP hD hS hA hK hZ (by decide +kernel) (by rfl)) rfl rfl hl.1 rfl (by exact lv_room (Nat.le_of_ble_eq_true rfl)) dX8_act_1 ⟨Nat.le_refl _, Nat.le_refl _⟩) hP hD hS hA (by decide +kernel) (by rfl) (by rfl) rfl (fun H locs hP hD hS => ?_)
  have hP : va_P G vwCl (wm_X8_act cA h0 h0_bodies h0_bodies_trace h0_filter h0_trial h0_kept h0_ways h0_spread h0_course h0_rows h0_changes h0_tape h0_causes s0__hasImage s0__hasCauses s0__stepsDone s0_bodies__ran s0_bodies_trace) H := hP
  have hD : va_D A (wm_X8_act cA h0 h0_bodies h0_bodies_trace h0_filter h0_trial h0_kept h0_ways h0_spread h0_course h0_rows h0_changes h0_tape h0_causes s0__hasImage s0__hasCauses s0__stepsDone s0_bodies__ran s0_bodies_trace) := hD
  refine lv_if_eq (tgt := 16) hx hb dX8_act_4 (by decide) (fun c => ?_) (fun c => ?_)
  · replace hok := g_pos hok c
    refine lv_iconst (v := 0) hx hb dX8_act_16 (by decide) ?_
    cases hok
    exact cr_i hx hb hr hlocks hQ dX8_act_17 hP hS
  replace hok := g_neg hok c
  refine lv_iload_n hx hb dX8_act_7 rfl (lv_at hl 2 rfl) ?_
  refine lv_if_lt (tgt := 16) hx hb dX8_act_8 (by decide) (fun c => ?_) (fun c => ?_)
  · replace hok := g_pos hok c
    refine lv_iconst (v := 0) hx hb dX8_act_16 (by decide) ?_
    cases hok
    exact cr_i hx hb hr hlocks hQ dX8_act_17 hP hS
  replace hok := g_neg hok c
  refine lv_iload_n hx hb dX8_act_11 rfl (lv_at hl 2 rfl) ?_
  refine lv_iconst (v := 2) hx hb dX8_act_12 (by decide) ?_
  refine lv_icmp_le (tgt := 18) hx hb dX8_act_13 (by decide) (fun c => ?_) (fun c => ?_)
  · replace hok := g_pos hok c
    refine lv_aload_n hx hb dX8_act_18 rfl (lv_at hl 0 rfl) ?_
    refine va_get (ci := 8) (v := .ref h0_bodies) (C := RX8) (T := TX8) (N := 14) hx hb hts hinX8 hown hK hP 0 rfl rfl 10 (by decide) (hts _ (List.mem_of_getElem? (i := 1) rfl)) (fun _ h9 => h9) rfl dX8_act_19 ?_
    refine lv_iconst (v := 0) hx hb dX8_act_22 (by decide) ?_
    refine va_put (D := G) (ci := 0) (v := .int (0:Int32)) (ty := .int) (C := RX0) (T := TX0) (N := 2) hx hb hts hinX0 tyX0 tyX0_ok nmX0 hown hK hP hD hS 1 rfl rfl 1 (by decide) (hts _ (List.mem_of_getElem? (i := 2) rfl)) (fun _ h9 => h9) rfl (by decide +kernel) rfl rfl (Nat.le_of_ble_eq_true rfl) dX8_act_23 (fun H locs hP hD hS => ?_)
    have hP : va_P G vwCl (wm_X8_act cA h0 h0_bodies h0_bodies_trace h0_filter h0_trial h0_kept h0_ways h0_spread h0_course h0_rows h0_changes h0_tape h0_causes s0__hasImage s0__hasCauses s0__stepsDone (0:Int32) s0_bodies_trace) H := hP
    have hD : va_D A (wm_X8_act cA h0 h0_bodies h0_bodies_trace h0_filter h0_trial h0_kept h0_ways h0_spread h0_course h0_rows h0_changes h0_tape h0_causes s0__hasImage s0__hasCauses s0__stepsDone (0:Int32) s0_bodies_trace) := hD
    refine lv_aload_n hx hb dX8_act_26 rfl (lv_at hl 0 rfl) ?_
    refine va_get (ci := 8) (v := .ref h0_bodies) (C := RX8) (T := TX8) (N := 14) hx hb hts hinX8 hown hK hP 0 rfl rfl 10 (by decide) (hts _ (List.mem_of_getElem? (i := 1) rfl)) (fun _ h9 => h9) rfl dX8_act_27 ?_
    refine lv_iload_n hx hb dX8_act_30 rfl (lv_at hl 1 rfl) ?_
    refine lv_iload_n hx hb dX8_act_31 rfl (lv_at hl 1 rfl) ?_
    refine lv_iload_n hx hb dX8_act_32 rfl (lv_at hl 2 rfl) ?_
    refine lv_iload_n hx hb dX8_act_33 rfl (lv_at hl 3 rfl) ?_
    refine lv_iconst (v := 0) hx hb dX8_act_34 (by decide) ?_
    obtain ⟨r2, o3, o4, hq, hok⟩ := g_bnd3 hok
    refine cG (is := [1, 2]) (wc := (wm_X0_keep cA h0_bodies h0_bodies_trace (0:Int32) s0_bodies_trace)) (w1 := (wm_X0_keep cA h0_bodies h0_bodies_trace o3 o4)) (rv := (some (.int r2))) (st1 := [.int r2]) (va_runSN (Ts := wsX8_act) (As := [.ref h0_bodies, .int x1, .int x1, .int x2, .int x3, .int (0:Int32)]) (rest := []) ⟨hx, hb, hml, hown, hts⟩ (c_X0_answer l G cA ts h0_bodies h0_bodies_trace 30 x1 x1 x2 x3 (0:Int32) (0:Int32) s0_bodies_trace r2 o3 o4 hq H.size) ⟨va_cnB 6 hts gX8_act_X0_answer_n362 rfl rfl rfl hZ.2.2.1 (hts _ (List.mem_of_getElem? (i := 8) rfl)) (by decide +kernel) ⟨Nat.le_of_ble_eq_true rfl, Nat.le_of_ble_eq_true rfl⟩, (hts _ (List.mem_of_getElem? (i := 7) rfl)), trivial⟩ (pre_S (is := [1, 2]) hP hD hS hA hK hZ (by decide +kernel) (by rfl)) rfl rfl hl.1 rfl (by exact lv_room (Nat.le_of_ble_eq_true rfl)) dX8_act_35 ⟨Nat.le_refl _, Nat.le_refl _⟩) hP hD hS hA (by decide +kernel) (by rfl) (by rfl) rfl (fun H locs hP hD hS => ?_)
    have hP : va_P G vwCl (wm_X8_act cA h0 h0_bodies h0_bodies_trace h0_filter h0_trial h0_kept h0_ways h0_spread h0_course h0_rows h0_changes h0_tape h0_causes s0__hasImage s0__hasCauses s0__stepsDone o3 o4) H := hP
    have hD : va_D A (wm_X8_act cA h0 h0_bodies h0_bodies_trace h0_filter h0_trial h0_kept h0_ways h0_spread h0_course h0_rows h0_changes h0_tape h0_causes s0__hasImage s0__hasCauses s0__stepsDone o3 o4) := hD
    cases hok
    exact cr_i hx hb hr hlocks hQ dX8_act_38 hP hS
  replace hok := g_neg hok c
  refine lv_iconst (v := 0) hx hb dX8_act_16 (by decide) ?_
  cases hok
  exact cr_i hx hb hr hlocks hQ dX8_act_17 hP hS
set_option maxHeartbeats 40000000 in
set_option maxRecDepth 100000 in
theorem c_X8_trace (l : Launch) (G : va_G) (cA : Nat → ClassId) (ts : Nat → Nat) (h0 : Nat) (h0_bodies : Nat) (h0_bodies_trace : Nat) (h0_filter : Nat) (h0_trial : Nat) (h0_kept : Nat) (h0_ways : Nat) (h0_spread : Nat) (h0_course : Nat) (h0_rows : Nat) (h0_changes : Nat) (h0_tape : Nat) (h0_causes : Nat) (x1 : Int32) (s0__hasImage : Int32) (s0__hasCauses : Int32) (s0__stepsDone : Int32) (s0_bodies__ran : Int32) (s0_bodies_trace : Nat → Int32) (r : Int32) (hok : fX8_trace x1 s0_bodies__ran s0_bodies_trace = some r) : Ct l G cA ts yX8_trace wsX8_trace 1 40 [.ref h0, .int x1] (wm_X8_act cA h0 h0_bodies h0_bodies_trace h0_filter h0_trial h0_kept h0_ways h0_spread h0_course h0_rows h0_changes h0_tape h0_causes s0__hasImage s0__hasCauses s0__stepsDone s0_bodies__ran s0_bodies_trace) (wm_X8_act cA h0 h0_bodies h0_bodies_trace h0_filter h0_trial h0_kept h0_ways h0_spread h0_course h0_rows h0_changes h0_tape h0_causes s0__hasImage s0__hasCauses s0__stepsDone s0_bodies__ran s0_bodies_trace) (some (.int r)) := by
  refine Ct.intro (cc := cX8_trace) (maxL := 2) (ret := some .int) (by decide +kernel) rfl (Nat.le_of_ble_eq_true rfl) ?_
  intro p e s m ar below meth c A Q hx hb hr hml hown hlocks hts hK hZ hA hQ hP hD hS ls hl
  have hown : s.vm.findClass RX8 = some m.cls := hown
  have hinX0 : ∀ w ∈ wsX00, w ∈ wsX8_trace := fun _ h => List.mem_cons_of_mem _ (List.mem_append_right _ (h))
  have hinX8 : ∀ w ∈ wsX80, w ∈ wsX8_trace := fun _ h => List.mem_cons_of_mem _ (List.mem_append_left _ (List.mem_append_right _ (h)))
  have hl : lv_has ls 2 [(0, .ref h0), (1, .int x1)] := hl
  have hP : va_P G vwCl (wm_X8_act cA h0 h0_bodies h0_bodies_trace h0_filter h0_trial h0_kept h0_ways h0_spread h0_course h0_rows h0_changes h0_tape h0_causes s0__hasImage s0__hasCauses s0__stepsDone s0_bodies__ran s0_bodies_trace) s.heap := hP
  have hD : va_D A (wm_X8_act cA h0 h0_bodies h0_bodies_trace h0_filter h0_trial h0_kept h0_ways h0_spread h0_course h0_rows h0_changes h0_tape h0_causes s0__hasImage s0__hasCauses s0__stepsDone s0_bodies__ran s0_bodies_trace) := hD
  unfold fX8_trace at hok
  refine lv_iload_n hx hb dX8_trace_0 rfl (lv_at hl 1 rfl) ?_
  refine lv_if_lt (tgt := 21) hx hb dX8_trace_1 (by decide) (fun c => ?_) (fun c => ?_)
  · replace hok := g_pos hok c
    refine lv_bipush (v := -2) hx hb dX8_trace_21 (by decide) ?_
    refine lv_goto (tgt := 35) hx hb dX8_trace_23 (by decide) ?_
    cases hok
    exact cr_i hx hb hr hlocks hQ dX8_trace_35 hP hS
  replace hok := g_neg hok c
  refine lv_iload_n hx hb dX8_trace_4 rfl (lv_at hl 1 rfl) ?_
  refine lv_aload_n hx hb dX8_trace_5 rfl (lv_at hl 0 rfl) ?_
  refine va_get (ci := 8) (v := .ref h0_bodies) (C := RX8) (T := TX8) (N := 14) hx hb hts hinX8 hown hK hP 0 rfl rfl 10 (by decide) (hts _ (List.mem_of_getElem? (i := 1) rfl)) (fun _ h9 => h9) rfl dX8_trace_6 ?_
  refine va_get (ci := 0) (v := .int s0_bodies__ran) (C := RX0) (T := TX0) (N := 2) hx hb hts hinX0 hown hK hP 1 rfl rfl 1 (by decide) (hts _ (List.mem_of_getElem? (i := 2) rfl)) (fun _ h9 => h9) rfl dX8_trace_9 ?_
  refine lv_icmp_ge (tgt := 21) hx hb dX8_trace_12 (by decide) (fun c => ?_) (fun c => ?_)
  · replace hok := g_pos hok c
    refine lv_bipush (v := -2) hx hb dX8_trace_21 (by decide) ?_
    refine lv_goto (tgt := 35) hx hb dX8_trace_23 (by decide) ?_
    cases hok
    exact cr_i hx hb hr hlocks hQ dX8_trace_35 hP hS
  replace hok := g_neg hok c
  refine lv_iload_n hx hb dX8_trace_15 rfl (lv_at hl 1 rfl) ?_
  refine lv_bipush (v := 24) hx hb dX8_trace_16 (by decide) ?_
  refine lv_icmp_lt (tgt := 26) hx hb dX8_trace_18 (by decide) (fun c => ?_) (fun c => ?_)
  · replace hok := g_pos hok c
    refine lv_aload_n hx hb dX8_trace_26 rfl (lv_at hl 0 rfl) ?_
    refine va_get (ci := 8) (v := .ref h0_bodies) (C := RX8) (T := TX8) (N := 14) hx hb hts hinX8 hown hK hP 0 rfl rfl 10 (by decide) (hts _ (List.mem_of_getElem? (i := 1) rfl)) (fun _ h9 => h9) rfl dX8_trace_27 ?_
    refine va_get (ci := 0) (v := .ref h0_bodies_trace) (C := RX0) (T := TX0) (N := 2) hx hb hts hinX0 hown hK hP 1 rfl rfl 0 (by decide) (hts _ (List.mem_of_getElem? (i := 3) rfl)) (fun _ h9 => h9) rfl dX8_trace_30 ?_
    refine lv_iload_n hx hb dX8_trace_33 rfl (lv_at hl 1 rfl) ?_
    obtain ⟨hin, hok⟩ := g_no hok
    refine x_iald (k := x1.toNatClampNeg) hx hb hK hP 2 0 rfl rfl hin rfl dX8_trace_34 ?_
    cases hok
    exact cr_i hx hb hr hlocks hQ dX8_trace_35 hP hS
  replace hok := g_neg hok c
  refine lv_bipush (v := -2) hx hb dX8_trace_21 (by decide) ?_
  refine lv_goto (tgt := 35) hx hb dX8_trace_23 (by decide) ?_
  cases hok
  exact cr_i hx hb hr hlocks hQ dX8_trace_35 hP hS
set_option maxHeartbeats 40000000 in
set_option maxRecDepth 100000 in
theorem c_X8_isUnder (l : Launch) (G : va_G) (cA : Nat → ClassId) (ts : Nat → Nat) (h0 : Nat) (x1 : Int32) (x2 : Int32) (r : Int32) (hok : fX8_isUnder x1 x2 = some r) : Ct l G cA ts yX8_isUnder wsX8_isUnder 2 60 [.ref h0, .int x1, .int x2] (wm_X8_rounded cA h0) (wm_X8_rounded cA h0) (some (.int r)) := by
  refine Ct.intro (cc := cX8_isUnder) (maxL := 5) (ret := some .int) (by decide +kernel) rfl (Nat.le_of_ble_eq_true rfl) ?_
  intro p e s m ar below meth c A Q hx hb hr hml hown hlocks hts hK hZ hA hQ hP hD hS ls hl
  have hown : s.vm.findClass RX8 = some m.cls := hown
  have hl : lv_has ls 5 [(0, .ref h0), (1, .int x1), (2, .int x2)] := hl
  have hP : va_P G vwCl (wm_X8_rounded cA h0) s.heap := hP
  have hD : va_D A (wm_X8_rounded cA h0) := hD
  have L_21 : ∀ (n : Nat) (y3 : Int32) (y4 : Int32) (oE : (Unit) ⊕ (Unit)) (H : Heap) (locs : List Loc) (ls : Array Slot), va_P G vwCl (wm_X8_rounded cA h0) H → va_D A (wm_X8_rounded cA h0) → va_S A s.heap H locs → lv_has ls 5 [(2, .int x2), (3, .int y3), (4, .int y4)] → fX8_isUnder_L21 x1 x2 n y3 y4 = some oE → (∀ (_ : Unit), oE = .inl () → ∀ (H : Heap) (locs : List Loc) (ls : Array Slot), va_P G vwCl (wm_X8_rounded cA h0) H → va_D A (wm_X8_rounded cA h0) → va_S A s.heap H locs → lv_has ls 5 [] → W p l e (rmX 2 60) s m ar below meth c H locs 0 0 Q (F0 m 39 ls [])) → (∀ (_ : Unit), oE = .inr (()) → ∀ (H : Heap) (locs : List Loc) (ls : Array Slot), va_P G vwCl (wm_X8_rounded cA h0) H → va_D A (wm_X8_rounded cA h0) → va_S A s.heap H locs → lv_has ls 5 [] → W p l e (rmX 2 60) s m ar below meth c H locs 0 0 Q (F0 m 53 ls [])) → W p l e (rmX 2 60) s m ar below meth c H locs 0 0 Q (F0 m 21 ls []) := by
    intro n
    induction n with
    | zero =>
      intro y3 y4 oE H locs ls hP hD hS hl hok
      rw [fX8_isUnder_L21] at hok
      cases hok
    | succ n ih =>
      intro y3 y4 oE H locs ls hP hD hS hl hok  K0 K1
      rw [fX8_isUnder_L21] at hok
      refine lv_iload hx hb dX8_isUnder_21 (lv_at hl 2 rfl) ?_
      refine lv_iconst (v := 5) hx hb dX8_isUnder_23 (by decide) ?_
      refine lv_icmp_ge (tgt := 53) hx hb dX8_isUnder_24 (by decide) (fun c => ?_) (fun c => ?_)
      · replace hok := g_pos hok c
        cases hok
        exact K1 () rfl _ _ _ hP hD hS (lv_sub hl [] rfl)
      replace hok := g_neg hok c
      refine lv_iload_n hx hb dX8_isUnder_27 rfl (lv_at hl 1 rfl) ?_
      obtain ⟨r3, hq, hok⟩ := g_bnd1 hok
      refine cG (is := []) (wc := (wm_X0_find cA)) (w1 := (wm_X0_find cA)) (rv := (some (.int r3))) (st1 := [.int r3]) (va_runS (Ts := wsX8_isUnder) (As := [.int y3]) (rest := []) ⟨hx, hb, hml, hown, hts⟩ (c_X8_isKind l G cA ts y3 r3 hq H.size) (va_cwS 1 hts gX8_isUnder_X8_isKind rfl rfl rfl (by decide +kernel) ⟨Nat.le_of_ble_eq_true rfl, Nat.le_of_ble_eq_true rfl⟩) (pre_S (is := []) hP hD hS hA hK hZ (by decide +kernel) (by rfl)) rfl rfl hl.1 rfl (by exact lv_room (Nat.le_of_ble_eq_true rfl)) dX8_isUnder_28 ⟨Nat.le_refl _, Nat.le_refl _⟩) hP hD hS hA (by decide +kernel) (by rfl) (by rfl) rfl (fun H locs hP hD hS => ?_)
      have hP : va_P G vwCl (wm_X8_rounded cA h0) H := hP
      have hD : va_D A (wm_X8_rounded cA h0) := hD
      refine lv_if_eq (tgt := 53) hx hb dX8_isUnder_31 (by decide) (fun c => ?_) (fun c => ?_)
      · replace hok := g_pos hok c
        cases hok
        exact K1 () rfl _ _ _ hP hD hS (lv_sub hl [] rfl)
      replace hok := g_neg hok c
      refine lv_iload_n hx hb dX8_isUnder_34 rfl (lv_at hl 1 rfl) ?_
      refine lv_iload_n hx hb dX8_isUnder_35 rfl (lv_at hl 0 rfl) ?_
      refine lv_icmp_ne (tgt := 41) hx hb dX8_isUnder_36 (by decide) (fun c => ?_) (fun c => ?_)
      · replace hok := g_neg hok c
        refine va_gets hx hb hZ.1.1.2.2.2.2.2.1 hS hown (hts _ (List.mem_of_getElem? (i := 1) rfl)) (fun _ h9 => h9) dX8_isUnder_41 ?_
        refine lv_iload_n hx hb dX8_isUnder_44 rfl (lv_at hl 1 rfl) ?_
        obtain ⟨hin, hok⟩ := g_no hok
        refine va_ti (v := .int (tb tOA y3.toNatClampNeg)) hx hb hZ.1.1.2.2.2.2.2.2 hS hin rfl dX8_isUnder_45 ?_
        refine lv_istore_n (lv' := [(3, .int (tb tOA y3.toNatClampNeg)), (2, .int x2), (4, .int y4)]) hx hb dX8_isUnder_46 rfl hl (by decide) rfl (fun ls hl => ?_)
        refine lv_iinc (v := (y4 + 1)) (lv' := [(4, .int (y4 + 1)), (3, .int (tb tOA y3.toNatClampNeg)), (2, .int x2)]) hx hb dX8_isUnder_47 hl (k := 2) rfl rfl (by decide) rfl (fun ls hl => ?_)
        refine lv_goto (tgt := 21) hx hb dX8_isUnder_50 (by decide) ?_
        exact ih (tb tOA y3.toNatClampNeg) (y4 + 1) oE _ _ _ hP hD hS (lv_sub hl [2, 1, 0] rfl) hok K0 K1
      replace hok := g_pos hok c
      cases hok
      exact K0 () rfl _ _ _ hP hD hS (lv_sub hl [] rfl)
  unfold fX8_isUnder at hok
  refine lv_iload_n hx hb dX8_isUnder_0 rfl (lv_at hl 1 rfl) ?_
  obtain ⟨r1, hq, hok⟩ := g_bnd1 hok
  refine cG (is := []) (wc := (wm_X0_find cA)) (w1 := (wm_X0_find cA)) (rv := (some (.int r1))) (st1 := [.int r1]) (va_runS (Ts := wsX8_isUnder) (As := [.int x1]) (rest := []) ⟨hx, hb, hml, hown, hts⟩ (c_X8_isKind l G cA ts x1 r1 hq s.heap.size) (va_cwS 1 hts gX8_isUnder_X8_isKind rfl rfl rfl (by decide +kernel) ⟨Nat.le_of_ble_eq_true rfl, Nat.le_of_ble_eq_true rfl⟩) (pre_S (is := []) hP hD hS hA hK hZ (by decide +kernel) (by rfl)) rfl rfl hl.1 rfl (by exact lv_room (Nat.le_of_ble_eq_true rfl)) dX8_isUnder_1 ⟨Nat.le_refl _, Nat.le_refl _⟩) hP hD hS hA (by decide +kernel) (by rfl) (by rfl) rfl (fun H locs hP hD hS => ?_)
  have hP : va_P G vwCl (wm_X8_rounded cA h0) H := hP
  have hD : va_D A (wm_X8_rounded cA h0) := hD
  refine lv_if_eq (tgt := 14) hx hb dX8_isUnder_4 (by decide) (fun c => ?_) (fun c => ?_)
  · replace hok := g_pos hok c
    refine lv_iconst (v := -1) hx hb dX8_isUnder_14 (by decide) ?_
    cases hok
    exact cr_i hx hb hr hlocks hQ dX8_isUnder_15 hP hS
  replace hok := g_neg hok c
  refine lv_iload_n hx hb dX8_isUnder_7 rfl (lv_at hl 2 rfl) ?_
  obtain ⟨r2, hq, hok⟩ := g_bnd1 hok
  refine cG (is := []) (wc := (wm_X0_find cA)) (w1 := (wm_X0_find cA)) (rv := (some (.int r2))) (st1 := [.int r2]) (va_runS (Ts := wsX8_isUnder) (As := [.int x2]) (rest := []) ⟨hx, hb, hml, hown, hts⟩ (c_X8_isKind l G cA ts x2 r2 hq H.size) (va_cwS 1 hts gX8_isUnder_X8_isKind rfl rfl rfl (by decide +kernel) ⟨Nat.le_of_ble_eq_true rfl, Nat.le_of_ble_eq_true rfl⟩) (pre_S (is := []) hP hD hS hA hK hZ (by decide +kernel) (by rfl)) rfl rfl hl.1 rfl (by exact lv_room (Nat.le_of_ble_eq_true rfl)) dX8_isUnder_8 ⟨Nat.le_refl _, Nat.le_refl _⟩) hP hD hS hA (by decide +kernel) (by rfl) (by rfl) rfl (fun H locs hP hD hS => ?_)
  have hP : va_P G vwCl (wm_X8_rounded cA h0) H := hP
  have hD : va_D A (wm_X8_rounded cA h0) := hD
  refine lv_if_ne (tgt := 16) hx hb dX8_isUnder_11 (by decide) (fun c => ?_) (fun c => ?_)
  · replace hok := g_neg hok c
    refine lv_iload_n hx hb dX8_isUnder_16 rfl (lv_at hl 1 rfl) ?_
    refine lv_istore_n (lv' := [(3, .int x1), (0, .ref h0), (1, .int x1), (2, .int x2)]) hx hb dX8_isUnder_17 rfl hl (by decide) rfl (fun ls hl => ?_)
    refine lv_iconst (v := 0) hx hb dX8_isUnder_18 (by decide) ?_
    refine lv_istore (lv' := [(4, .int (0:Int32)), (3, .int x1), (0, .ref h0), (1, .int x1), (2, .int x2)]) hx hb dX8_isUnder_19 hl (by decide) rfl (fun ls hl => ?_)
    obtain ⟨o4, hq, hok⟩ := g_bnd1 hok
    refine L_21 FUEL x1 (0:Int32) o4 _ _ _ hP hD hS (lv_sub hl [4, 1, 0] rfl) hq (fun _ ho H locs ls hP hD hS hl => ?_) (fun _ ho H locs ls hP hD hS hl => ?_)
    · subst ho
      replace hok := g_inl hok
      replace hok := g_c0 hok
      refine lv_iconst (v := 1) hx hb dX8_isUnder_39 (by decide) ?_
      cases hok
      exact cr_i hx hb hr hlocks hQ dX8_isUnder_40 hP hS
    subst ho
    replace hok := g_inr hok
    replace hok := g_c0 hok
    refine lv_iconst (v := 0) hx hb dX8_isUnder_53 (by decide) ?_
    cases hok
    exact cr_i hx hb hr hlocks hQ dX8_isUnder_54 hP hS
  replace hok := g_pos hok c
  refine lv_iconst (v := -1) hx hb dX8_isUnder_14 (by decide) ?_
  cases hok
  exact cr_i hx hb hr hlocks hQ dX8_isUnder_15 hP hS
set_option maxHeartbeats 40000000 in
set_option maxRecDepth 100000 in
theorem c_X8_undo (l : Launch) (G : va_G) (cA : Nat → ClassId) (ts : Nat → Nat) (h0 : Nat) (h0_filter : Nat) (h0_filter_numbers : Nat) (h0_filter_words : Nat) (h0_changes : Nat) (h0_changes_slots : Nat) (h0_changes_olds : Nat) (h0_trial : Nat) (h0_kept : Nat) (h0_ways : Nat) (h0_spread : Nat) (h0_course : Nat) (h0_rows : Nat) (h0_tape : Nat) (h0_bodies : Nat) (h0_causes : Nat) (h0_changes_news : Nat) (s0__hasImage : Int32) (s0__hasCauses : Int32) (s0__stepsDone : Int32) (s0_filter__all : Int32) (s0_filter__v : Int32) (s0_filter__loss : Int32) (s0_filter__result : Int32) (s0_filter__over : Int32) (s0_filter__heldAll : Int32) (s0_filter__heldRounded : Int32) (s0_filter_numbers : Nat → Int32) (s0_filter_words : Nat → Int32) (s0_changes__done : Int32) (s0_changes__undone : Int32) (s0_changes_slots : Nat → Int32) (s0_changes_olds : Nat → Int32) (r : Int32) (o0_filter_numbers : Nat → Int32) (o0_filter_words : Nat → Int32) (o0_changes__done : Int32) (o0_changes__undone : Int32) (hok : fX8_undo s0_filter_numbers s0_filter_words s0_changes__done s0_changes__undone s0_changes_slots s0_changes_olds = some (r, o0_filter_numbers, o0_filter_words, o0_changes__done, o0_changes__undone)) : Ct l G cA ts yX8_undo wsX8_undo 2 63 [.ref h0] (wm_X8_undo cA h0 h0_filter h0_filter_numbers h0_filter_words h0_changes h0_changes_slots h0_changes_olds h0_trial h0_kept h0_ways h0_spread h0_course h0_rows h0_tape h0_bodies h0_causes h0_changes_news s0__hasImage s0__hasCauses s0__stepsDone s0_filter__all s0_filter__v s0_filter__loss s0_filter__result s0_filter__over s0_filter__heldAll s0_filter__heldRounded s0_filter_numbers s0_filter_words s0_changes__done s0_changes__undone s0_changes_slots s0_changes_olds) (wm_X8_undo cA h0 h0_filter h0_filter_numbers h0_filter_words h0_changes h0_changes_slots h0_changes_olds h0_trial h0_kept h0_ways h0_spread h0_course h0_rows h0_tape h0_bodies h0_causes h0_changes_news s0__hasImage s0__hasCauses s0__stepsDone s0_filter__all s0_filter__v s0_filter__loss s0_filter__result s0_filter__over s0_filter__heldAll s0_filter__heldRounded o0_filter_numbers o0_filter_words o0_changes__done o0_changes__undone s0_changes_slots s0_changes_olds) (some (.int r)) := by
  refine Ct.intro (cc := cX8_undo) (maxL := 2) (ret := some .int) (by decide +kernel) rfl (Nat.le_of_ble_eq_true rfl) ?_
  intro p e s m ar below meth c A Q hx hb hr hml hown hlocks hts hK hZ hA hQ hP hD hS ls hl
  have hown : s.vm.findClass RX8 = some m.cls := hown
  have hinX1 : ∀ w ∈ wsX10, w ∈ wsX8_undo := fun _ h => List.mem_cons_of_mem _ (List.mem_append_left _ (List.mem_append_right _ (h)))
  have hinX8 : ∀ w ∈ wsX80, w ∈ wsX8_undo := fun _ h => List.mem_cons_of_mem _ (List.mem_append_left _ (List.mem_append_left _ (List.mem_append_right _ (h))))
  have hl : lv_has ls 2 [(0, .ref h0)] := hl
  have hP : va_P G vwCl (wm_X8_undo cA h0 h0_filter h0_filter_numbers h0_filter_words h0_changes h0_changes_slots h0_changes_olds h0_trial h0_kept h0_ways h0_spread h0_course h0_rows h0_tape h0_bodies h0_causes h0_changes_news s0__hasImage s0__hasCauses s0__stepsDone s0_filter__all s0_filter__v s0_filter__loss s0_filter__result s0_filter__over s0_filter__heldAll s0_filter__heldRounded s0_filter_numbers s0_filter_words s0_changes__done s0_changes__undone s0_changes_slots s0_changes_olds) s.heap := hP
  have hD : va_D A (wm_X8_undo cA h0 h0_filter h0_filter_numbers h0_filter_words h0_changes h0_changes_slots h0_changes_olds h0_trial h0_kept h0_ways h0_spread h0_course h0_rows h0_tape h0_bodies h0_causes h0_changes_news s0__hasImage s0__hasCauses s0__stepsDone s0_filter__all s0_filter__v s0_filter__loss s0_filter__result s0_filter__over s0_filter__heldAll s0_filter__heldRounded s0_filter_numbers s0_filter_words s0_changes__done s0_changes__undone s0_changes_slots s0_changes_olds) := hD
  unfold fX8_undo at hok
  refine lv_aload_n hx hb dX8_undo_0 rfl (lv_at hl 0 rfl) ?_
  refine va_get (ci := 8) (v := .ref h0_changes) (C := RX8) (T := TX8) (N := 14) hx hb hts hinX8 hown hK hP 0 rfl rfl 8 (by decide) (hts _ (List.mem_of_getElem? (i := 1) rfl)) (fun _ h9 => h9) rfl dX8_undo_1 ?_
  obtain ⟨r1, o2, o3, hq, hok⟩ := g_bnd3 hok
  refine cG (is := [4]) (wc := (wm_X1_stepBack cA h0_changes h0_changes_slots h0_changes_olds h0_changes_news s0_changes__done s0_changes__undone)) (w1 := (wm_X1_stepBack cA h0_changes h0_changes_slots h0_changes_olds h0_changes_news o2 o3)) (rv := (some (.int r1))) (st1 := [.int r1]) (va_runV (Ts := wsX8_undo) (As := []) (rest := []) ⟨hx, hb, hml, hown, hts⟩ (c_X1_stepBack l G cA ts h0_changes h0_changes_slots h0_changes_olds h0_changes_news s0_changes__done s0_changes__undone r1 o2 o3 hq s.heap.size) (cwV 0 hts gX8_undo_X1_stepBack rfl rfl rfl (by decide +kernel) ⟨Nat.le_of_ble_eq_true rfl, Nat.le_of_ble_eq_true rfl⟩) (pre_V (ci := 1) (q0 := 4) (is := [4]) rfl rfl hP hD hS hA hK hZ (by decide +kernel) (by rfl)) rfl rfl hl.1 rfl (by exact lv_room (Nat.le_of_ble_eq_true rfl)) dX8_undo_4 ⟨Nat.le_refl _, Nat.le_refl _⟩) hP hD hS hA (by decide +kernel) (by rfl) (by rfl) rfl (fun H locs hP hD hS => ?_)
  have hP : va_P G vwCl (wm_X8_undo cA h0 h0_filter h0_filter_numbers h0_filter_words h0_changes h0_changes_slots h0_changes_olds h0_trial h0_kept h0_ways h0_spread h0_course h0_rows h0_tape h0_bodies h0_causes h0_changes_news s0__hasImage s0__hasCauses s0__stepsDone s0_filter__all s0_filter__v s0_filter__loss s0_filter__result s0_filter__over s0_filter__heldAll s0_filter__heldRounded s0_filter_numbers s0_filter_words o2 o3 s0_changes_slots s0_changes_olds) H := hP
  have hD : va_D A (wm_X8_undo cA h0 h0_filter h0_filter_numbers h0_filter_words h0_changes h0_changes_slots h0_changes_olds h0_trial h0_kept h0_ways h0_spread h0_course h0_rows h0_tape h0_bodies h0_causes h0_changes_news s0__hasImage s0__hasCauses s0__stepsDone s0_filter__all s0_filter__v s0_filter__loss s0_filter__result s0_filter__over s0_filter__heldAll s0_filter__heldRounded s0_filter_numbers s0_filter_words o2 o3 s0_changes_slots s0_changes_olds) := hD
  refine lv_istore_n (lv' := [(1, .int r1), (0, .ref h0)]) hx hb dX8_undo_7 rfl hl (by decide) rfl (fun ls hl => ?_)
  refine lv_iload_n hx hb dX8_undo_8 rfl (lv_at hl 0 rfl) ?_
  refine lv_if_lt (tgt := 18) hx hb dX8_undo_9 (by decide) (fun c => ?_) (fun c => ?_)
  · replace hok := g_pos hok c
    refine lv_bipush (v := -5) hx hb dX8_undo_18 (by decide) ?_
    cases hok
    exact cr_i hx hb hr hlocks hQ dX8_undo_20 hP hS
  replace hok := g_neg hok c
  refine lv_iload_n hx hb dX8_undo_12 rfl (lv_at hl 0 rfl) ?_
  refine lv_bipush (v := 12) hx hb dX8_undo_13 (by decide) ?_
  refine lv_icmp_lt (tgt := 21) hx hb dX8_undo_15 (by decide) (fun c => ?_) (fun c => ?_)
  · replace hok := g_pos hok c
    refine lv_aload_n hx hb dX8_undo_21 rfl (lv_at hl 1 rfl) ?_
    refine va_get (ci := 8) (v := .ref h0_filter) (C := RX8) (T := TX8) (N := 14) hx hb hts hinX8 hown hK hP 0 rfl rfl 0 (by decide) (hts _ (List.mem_of_getElem? (i := 2) rfl)) (fun _ h9 => h9) rfl dX8_undo_22 ?_
    refine lv_aload_n hx hb dX8_undo_25 rfl (lv_at hl 1 rfl) ?_
    refine va_get (ci := 8) (v := .ref h0_changes) (C := RX8) (T := TX8) (N := 14) hx hb hts hinX8 hown hK hP 0 rfl rfl 8 (by decide) (hts _ (List.mem_of_getElem? (i := 1) rfl)) (fun _ h9 => h9) rfl dX8_undo_26 ?_
    refine va_get (ci := 1) (v := .ref h0_changes_slots) (C := RX1) (T := TX1) (N := 5) hx hb hts hinX1 hown hK hP 4 rfl rfl 0 (by decide) (hts _ (List.mem_of_getElem? (i := 3) rfl)) (fun _ h9 => h9) rfl dX8_undo_29 ?_
    refine lv_iload_n hx hb dX8_undo_32 rfl (lv_at hl 0 rfl) ?_
    obtain ⟨hin, hok⟩ := g_no hok
    refine x_iald (k := r1.toNatClampNeg) hx hb hK hP 5 0 rfl rfl hin rfl dX8_undo_33 ?_
    refine lv_aload_n hx hb dX8_undo_34 rfl (lv_at hl 1 rfl) ?_
    refine va_get (ci := 8) (v := .ref h0_changes) (C := RX8) (T := TX8) (N := 14) hx hb hts hinX8 hown hK hP 0 rfl rfl 8 (by decide) (hts _ (List.mem_of_getElem? (i := 1) rfl)) (fun _ h9 => h9) rfl dX8_undo_35 ?_
    refine va_get (ci := 1) (v := .ref h0_changes_olds) (C := RX1) (T := TX1) (N := 5) hx hb hts hinX1 hown hK hP 4 rfl rfl 1 (by decide) (hts _ (List.mem_of_getElem? (i := 4) rfl)) (fun _ h9 => h9) rfl dX8_undo_38 ?_
    refine lv_iload_n hx hb dX8_undo_41 rfl (lv_at hl 0 rfl) ?_
    obtain ⟨hin, hok⟩ := g_no hok
    refine x_iald (k := r1.toNatClampNeg) hx hb hK hP 6 0 rfl rfl hin rfl dX8_undo_42 ?_
    obtain ⟨o4, o5, hq, hok⟩ := g_bnd2 hok
    refine cG (is := [1, 2, 3]) (wc := (wm_X3_gather cA h0_filter h0_filter_numbers h0_filter_words s0_filter__all s0_filter__v s0_filter__loss s0_filter__result s0_filter__over s0_filter__heldAll s0_filter__heldRounded s0_filter_numbers s0_filter_words)) (w1 := (wm_X3_gather cA h0_filter h0_filter_numbers h0_filter_words s0_filter__all s0_filter__v s0_filter__loss s0_filter__result s0_filter__over s0_filter__heldAll s0_filter__heldRounded o4 o5)) (rv := none) (st1 := []) (va_runV (Ts := wsX8_undo) (As := [.int (s0_changes_slots r1.toNatClampNeg), .int (s0_changes_olds r1.toNatClampNeg)]) (rest := []) ⟨hx, hb, hml, hown, hts⟩ (c_X3_become l G cA ts h0_filter h0_filter_numbers h0_filter_words (s0_changes_slots r1.toNatClampNeg) (s0_changes_olds r1.toNatClampNeg) s0_filter__all s0_filter__v s0_filter__loss s0_filter__result s0_filter__over s0_filter__heldAll s0_filter__heldRounded s0_filter_numbers s0_filter_words o4 o5 hq H.size) (cwV 2 hts gX8_undo_X3_become rfl rfl rfl (by decide +kernel) ⟨Nat.le_of_ble_eq_true rfl, Nat.le_of_ble_eq_true rfl⟩) (pre_V (ci := 3) (q0 := 1) (is := [1, 2, 3]) rfl rfl hP hD hS hA hK hZ (by decide +kernel) (by rfl)) rfl rfl hl.1 rfl (by exact lv_room (Nat.le_of_ble_eq_true rfl)) dX8_undo_43 ⟨Nat.le_refl _, Nat.le_refl _⟩) hP hD hS hA (by decide +kernel) (by rfl) (by rfl) rfl (fun H locs hP hD hS => ?_)
    have hP : va_P G vwCl (wm_X8_undo cA h0 h0_filter h0_filter_numbers h0_filter_words h0_changes h0_changes_slots h0_changes_olds h0_trial h0_kept h0_ways h0_spread h0_course h0_rows h0_tape h0_bodies h0_causes h0_changes_news s0__hasImage s0__hasCauses s0__stepsDone s0_filter__all s0_filter__v s0_filter__loss s0_filter__result s0_filter__over s0_filter__heldAll s0_filter__heldRounded o4 o5 o2 o3 s0_changes_slots s0_changes_olds) H := hP
    have hD : va_D A (wm_X8_undo cA h0 h0_filter h0_filter_numbers h0_filter_words h0_changes h0_changes_slots h0_changes_olds h0_trial h0_kept h0_ways h0_spread h0_course h0_rows h0_tape h0_bodies h0_causes h0_changes_news s0__hasImage s0__hasCauses s0__stepsDone s0_filter__all s0_filter__v s0_filter__loss s0_filter__result s0_filter__over s0_filter__heldAll s0_filter__heldRounded o4 o5 o2 o3 s0_changes_slots s0_changes_olds) := hD
    refine lv_aload_n hx hb dX8_undo_46 rfl (lv_at hl 1 rfl) ?_
    refine va_get (ci := 8) (v := .ref h0_changes) (C := RX8) (T := TX8) (N := 14) hx hb hts hinX8 hown hK hP 0 rfl rfl 8 (by decide) (hts _ (List.mem_of_getElem? (i := 1) rfl)) (fun _ h9 => h9) rfl dX8_undo_47 ?_
    refine va_get (ci := 1) (v := .int o2) (C := RX1) (T := TX1) (N := 5) hx hb hts hinX1 hown hK hP 4 rfl rfl 3 (by decide) (hts _ (List.mem_of_getElem? (i := 5) rfl)) (fun _ h9 => h9) rfl dX8_undo_50 ?_
    cases hok
    exact cr_i hx hb hr hlocks hQ dX8_undo_53 hP hS
  replace hok := g_neg hok c
  refine lv_bipush (v := -5) hx hb dX8_undo_18 (by decide) ?_
  cases hok
  exact cr_i hx hb hr hlocks hQ dX8_undo_20 hP hS
set_option maxHeartbeats 40000000 in
set_option maxRecDepth 100000 in
theorem c_X8_redo (l : Launch) (G : va_G) (cA : Nat → ClassId) (ts : Nat → Nat) (h0 : Nat) (h0_filter : Nat) (h0_filter_numbers : Nat) (h0_filter_words : Nat) (h0_changes : Nat) (h0_changes_slots : Nat) (h0_changes_news : Nat) (h0_trial : Nat) (h0_kept : Nat) (h0_ways : Nat) (h0_spread : Nat) (h0_course : Nat) (h0_rows : Nat) (h0_tape : Nat) (h0_bodies : Nat) (h0_causes : Nat) (h0_changes_olds : Nat) (s0__hasImage : Int32) (s0__hasCauses : Int32) (s0__stepsDone : Int32) (s0_filter__all : Int32) (s0_filter__v : Int32) (s0_filter__loss : Int32) (s0_filter__result : Int32) (s0_filter__over : Int32) (s0_filter__heldAll : Int32) (s0_filter__heldRounded : Int32) (s0_filter_numbers : Nat → Int32) (s0_filter_words : Nat → Int32) (s0_changes__done : Int32) (s0_changes__undone : Int32) (s0_changes_slots : Nat → Int32) (s0_changes_news : Nat → Int32) (r : Int32) (o0_filter_numbers : Nat → Int32) (o0_filter_words : Nat → Int32) (o0_changes__done : Int32) (o0_changes__undone : Int32) (hok : fX8_redo s0_filter_numbers s0_filter_words s0_changes__done s0_changes__undone s0_changes_slots s0_changes_news = some (r, o0_filter_numbers, o0_filter_words, o0_changes__done, o0_changes__undone)) : Ct l G cA ts yX8_redo wsX8_redo 2 63 [.ref h0] (wm_X8_redo cA h0 h0_filter h0_filter_numbers h0_filter_words h0_changes h0_changes_slots h0_changes_news h0_trial h0_kept h0_ways h0_spread h0_course h0_rows h0_tape h0_bodies h0_causes h0_changes_olds s0__hasImage s0__hasCauses s0__stepsDone s0_filter__all s0_filter__v s0_filter__loss s0_filter__result s0_filter__over s0_filter__heldAll s0_filter__heldRounded s0_filter_numbers s0_filter_words s0_changes__done s0_changes__undone s0_changes_slots s0_changes_news) (wm_X8_redo cA h0 h0_filter h0_filter_numbers h0_filter_words h0_changes h0_changes_slots h0_changes_news h0_trial h0_kept h0_ways h0_spread h0_course h0_rows h0_tape h0_bodies h0_causes h0_changes_olds s0__hasImage s0__hasCauses s0__stepsDone s0_filter__all s0_filter__v s0_filter__loss s0_filter__result s0_filter__over s0_filter__heldAll s0_filter__heldRounded o0_filter_numbers o0_filter_words o0_changes__done o0_changes__undone s0_changes_slots s0_changes_news) (some (.int r)) := by
  refine Ct.intro (cc := cX8_redo) (maxL := 2) (ret := some .int) (by decide +kernel) rfl (Nat.le_of_ble_eq_true rfl) ?_
  intro p e s m ar below meth c A Q hx hb hr hml hown hlocks hts hK hZ hA hQ hP hD hS ls hl
  have hown : s.vm.findClass RX8 = some m.cls := hown
  have hinX1 : ∀ w ∈ wsX10, w ∈ wsX8_redo := fun _ h => List.mem_cons_of_mem _ (List.mem_append_left _ (List.mem_append_right _ (h)))
  have hinX8 : ∀ w ∈ wsX80, w ∈ wsX8_redo := fun _ h => List.mem_cons_of_mem _ (List.mem_append_left _ (List.mem_append_left _ (List.mem_append_right _ (h))))
  have hl : lv_has ls 2 [(0, .ref h0)] := hl
  have hP : va_P G vwCl (wm_X8_redo cA h0 h0_filter h0_filter_numbers h0_filter_words h0_changes h0_changes_slots h0_changes_news h0_trial h0_kept h0_ways h0_spread h0_course h0_rows h0_tape h0_bodies h0_causes h0_changes_olds s0__hasImage s0__hasCauses s0__stepsDone s0_filter__all s0_filter__v s0_filter__loss s0_filter__result s0_filter__over s0_filter__heldAll s0_filter__heldRounded s0_filter_numbers s0_filter_words s0_changes__done s0_changes__undone s0_changes_slots s0_changes_news) s.heap := hP
  have hD : va_D A (wm_X8_redo cA h0 h0_filter h0_filter_numbers h0_filter_words h0_changes h0_changes_slots h0_changes_news h0_trial h0_kept h0_ways h0_spread h0_course h0_rows h0_tape h0_bodies h0_causes h0_changes_olds s0__hasImage s0__hasCauses s0__stepsDone s0_filter__all s0_filter__v s0_filter__loss s0_filter__result s0_filter__over s0_filter__heldAll s0_filter__heldRounded s0_filter_numbers s0_filter_words s0_changes__done s0_changes__undone s0_changes_slots s0_changes_news) := hD
  unfold fX8_redo at hok
  refine lv_aload_n hx hb dX8_redo_0 rfl (lv_at hl 0 rfl) ?_
  refine va_get (ci := 8) (v := .ref h0_changes) (C := RX8) (T := TX8) (N := 14) hx hb hts hinX8 hown hK hP 0 rfl rfl 8 (by decide) (hts _ (List.mem_of_getElem? (i := 1) rfl)) (fun _ h9 => h9) rfl dX8_redo_1 ?_
  obtain ⟨r1, o2, o3, hq, hok⟩ := g_bnd3 hok
  refine cG (is := [4]) (wc := (wm_X1_stepBack cA h0_changes h0_changes_slots h0_changes_olds h0_changes_news s0_changes__done s0_changes__undone)) (w1 := (wm_X1_stepBack cA h0_changes h0_changes_slots h0_changes_olds h0_changes_news o2 o3)) (rv := (some (.int r1))) (st1 := [.int r1]) (va_runV (Ts := wsX8_redo) (As := []) (rest := []) ⟨hx, hb, hml, hown, hts⟩ (c_X1_stepOn l G cA ts h0_changes h0_changes_slots h0_changes_olds h0_changes_news s0_changes__done s0_changes__undone r1 o2 o3 hq s.heap.size) (cwV 0 hts gX8_redo_X1_stepOn rfl rfl rfl (by decide +kernel) ⟨Nat.le_of_ble_eq_true rfl, Nat.le_of_ble_eq_true rfl⟩) (pre_V (ci := 1) (q0 := 4) (is := [4]) rfl rfl hP hD hS hA hK hZ (by decide +kernel) (by rfl)) rfl rfl hl.1 rfl (by exact lv_room (Nat.le_of_ble_eq_true rfl)) dX8_redo_4 ⟨Nat.le_refl _, Nat.le_refl _⟩) hP hD hS hA (by decide +kernel) (by rfl) (by rfl) rfl (fun H locs hP hD hS => ?_)
  have hP : va_P G vwCl (wm_X8_redo cA h0 h0_filter h0_filter_numbers h0_filter_words h0_changes h0_changes_slots h0_changes_news h0_trial h0_kept h0_ways h0_spread h0_course h0_rows h0_tape h0_bodies h0_causes h0_changes_olds s0__hasImage s0__hasCauses s0__stepsDone s0_filter__all s0_filter__v s0_filter__loss s0_filter__result s0_filter__over s0_filter__heldAll s0_filter__heldRounded s0_filter_numbers s0_filter_words o2 o3 s0_changes_slots s0_changes_news) H := hP
  have hD : va_D A (wm_X8_redo cA h0 h0_filter h0_filter_numbers h0_filter_words h0_changes h0_changes_slots h0_changes_news h0_trial h0_kept h0_ways h0_spread h0_course h0_rows h0_tape h0_bodies h0_causes h0_changes_olds s0__hasImage s0__hasCauses s0__stepsDone s0_filter__all s0_filter__v s0_filter__loss s0_filter__result s0_filter__over s0_filter__heldAll s0_filter__heldRounded s0_filter_numbers s0_filter_words o2 o3 s0_changes_slots s0_changes_news) := hD
  refine lv_istore_n (lv' := [(1, .int r1), (0, .ref h0)]) hx hb dX8_redo_7 rfl hl (by decide) rfl (fun ls hl => ?_)
  refine lv_iload_n hx hb dX8_redo_8 rfl (lv_at hl 0 rfl) ?_
  refine lv_if_lt (tgt := 18) hx hb dX8_redo_9 (by decide) (fun c => ?_) (fun c => ?_)
  · replace hok := g_pos hok c
    refine lv_bipush (v := -5) hx hb dX8_redo_18 (by decide) ?_
    cases hok
    exact cr_i hx hb hr hlocks hQ dX8_redo_20 hP hS
  replace hok := g_neg hok c
  refine lv_iload_n hx hb dX8_redo_12 rfl (lv_at hl 0 rfl) ?_
  refine lv_bipush (v := 12) hx hb dX8_redo_13 (by decide) ?_
  refine lv_icmp_lt (tgt := 21) hx hb dX8_redo_15 (by decide) (fun c => ?_) (fun c => ?_)
  · replace hok := g_pos hok c
    refine lv_aload_n hx hb dX8_redo_21 rfl (lv_at hl 1 rfl) ?_
    refine va_get (ci := 8) (v := .ref h0_filter) (C := RX8) (T := TX8) (N := 14) hx hb hts hinX8 hown hK hP 0 rfl rfl 0 (by decide) (hts _ (List.mem_of_getElem? (i := 2) rfl)) (fun _ h9 => h9) rfl dX8_redo_22 ?_
    refine lv_aload_n hx hb dX8_redo_25 rfl (lv_at hl 1 rfl) ?_
    refine va_get (ci := 8) (v := .ref h0_changes) (C := RX8) (T := TX8) (N := 14) hx hb hts hinX8 hown hK hP 0 rfl rfl 8 (by decide) (hts _ (List.mem_of_getElem? (i := 1) rfl)) (fun _ h9 => h9) rfl dX8_redo_26 ?_
    refine va_get (ci := 1) (v := .ref h0_changes_slots) (C := RX1) (T := TX1) (N := 5) hx hb hts hinX1 hown hK hP 4 rfl rfl 0 (by decide) (hts _ (List.mem_of_getElem? (i := 3) rfl)) (fun _ h9 => h9) rfl dX8_redo_29 ?_
    refine lv_iload_n hx hb dX8_redo_32 rfl (lv_at hl 0 rfl) ?_
    obtain ⟨hin, hok⟩ := g_no hok
    refine x_iald (k := r1.toNatClampNeg) hx hb hK hP 5 0 rfl rfl hin rfl dX8_redo_33 ?_
    refine lv_aload_n hx hb dX8_redo_34 rfl (lv_at hl 1 rfl) ?_
    refine va_get (ci := 8) (v := .ref h0_changes) (C := RX8) (T := TX8) (N := 14) hx hb hts hinX8 hown hK hP 0 rfl rfl 8 (by decide) (hts _ (List.mem_of_getElem? (i := 1) rfl)) (fun _ h9 => h9) rfl dX8_redo_35 ?_
    refine va_get (ci := 1) (v := .ref h0_changes_news) (C := RX1) (T := TX1) (N := 5) hx hb hts hinX1 hown hK hP 4 rfl rfl 2 (by decide) (hts _ (List.mem_of_getElem? (i := 4) rfl)) (fun _ h9 => h9) rfl dX8_redo_38 ?_
    refine lv_iload_n hx hb dX8_redo_41 rfl (lv_at hl 0 rfl) ?_
    obtain ⟨hin, hok⟩ := g_no hok
    refine x_iald (k := r1.toNatClampNeg) hx hb hK hP 6 0 rfl rfl hin rfl dX8_redo_42 ?_
    obtain ⟨o4, o5, hq, hok⟩ := g_bnd2 hok
    refine cG (is := [1, 2, 3]) (wc := (wm_X3_gather cA h0_filter h0_filter_numbers h0_filter_words s0_filter__all s0_filter__v s0_filter__loss s0_filter__result s0_filter__over s0_filter__heldAll s0_filter__heldRounded s0_filter_numbers s0_filter_words)) (w1 := (wm_X3_gather cA h0_filter h0_filter_numbers h0_filter_words s0_filter__all s0_filter__v s0_filter__loss s0_filter__result s0_filter__over s0_filter__heldAll s0_filter__heldRounded o4 o5)) (rv := none) (st1 := []) (va_runV (Ts := wsX8_redo) (As := [.int (s0_changes_slots r1.toNatClampNeg), .int (s0_changes_news r1.toNatClampNeg)]) (rest := []) ⟨hx, hb, hml, hown, hts⟩ (c_X3_become l G cA ts h0_filter h0_filter_numbers h0_filter_words (s0_changes_slots r1.toNatClampNeg) (s0_changes_news r1.toNatClampNeg) s0_filter__all s0_filter__v s0_filter__loss s0_filter__result s0_filter__over s0_filter__heldAll s0_filter__heldRounded s0_filter_numbers s0_filter_words o4 o5 hq H.size) (cwV 2 hts gX8_redo_X3_become rfl rfl rfl (by decide +kernel) ⟨Nat.le_of_ble_eq_true rfl, Nat.le_of_ble_eq_true rfl⟩) (pre_V (ci := 3) (q0 := 1) (is := [1, 2, 3]) rfl rfl hP hD hS hA hK hZ (by decide +kernel) (by rfl)) rfl rfl hl.1 rfl (by exact lv_room (Nat.le_of_ble_eq_true rfl)) dX8_redo_43 ⟨Nat.le_refl _, Nat.le_refl _⟩) hP hD hS hA (by decide +kernel) (by rfl) (by rfl) rfl (fun H locs hP hD hS => ?_)
    have hP : va_P G vwCl (wm_X8_redo cA h0 h0_filter h0_filter_numbers h0_filter_words h0_changes h0_changes_slots h0_changes_news h0_trial h0_kept h0_ways h0_spread h0_course h0_rows h0_tape h0_bodies h0_causes h0_changes_olds s0__hasImage s0__hasCauses s0__stepsDone s0_filter__all s0_filter__v s0_filter__loss s0_filter__result s0_filter__over s0_filter__heldAll s0_filter__heldRounded o4 o5 o2 o3 s0_changes_slots s0_changes_news) H := hP
    have hD : va_D A (wm_X8_redo cA h0 h0_filter h0_filter_numbers h0_filter_words h0_changes h0_changes_slots h0_changes_news h0_trial h0_kept h0_ways h0_spread h0_course h0_rows h0_tape h0_bodies h0_causes h0_changes_olds s0__hasImage s0__hasCauses s0__stepsDone s0_filter__all s0_filter__v s0_filter__loss s0_filter__result s0_filter__over s0_filter__heldAll s0_filter__heldRounded o4 o5 o2 o3 s0_changes_slots s0_changes_news) := hD
    refine lv_aload_n hx hb dX8_redo_46 rfl (lv_at hl 1 rfl) ?_
    refine va_get (ci := 8) (v := .ref h0_changes) (C := RX8) (T := TX8) (N := 14) hx hb hts hinX8 hown hK hP 0 rfl rfl 8 (by decide) (hts _ (List.mem_of_getElem? (i := 1) rfl)) (fun _ h9 => h9) rfl dX8_redo_47 ?_
    refine va_get (ci := 1) (v := .int o3) (C := RX1) (T := TX1) (N := 5) hx hb hts hinX1 hown hK hP 4 rfl rfl 4 (by decide) (hts _ (List.mem_of_getElem? (i := 5) rfl)) (fun _ h9 => h9) rfl dX8_redo_50 ?_
    cases hok
    exact cr_i hx hb hr hlocks hQ dX8_redo_53 hP hS
  replace hok := g_neg hok c
  refine lv_bipush (v := -5) hx hb dX8_redo_18 (by decide) ?_
  cases hok
  exact cr_i hx hb hr hlocks hQ dX8_redo_20 hP hS
set_option maxHeartbeats 40000000 in
set_option maxRecDepth 100000 in
theorem c_X8_image (l : Launch) (G : va_G) (cA : Nat → ClassId) (ts : Nat → Nat) (h0 : Nat) (h0_filter : Nat) (h0_filter_numbers : Nat) (h0_filter_words : Nat) (h0_kept : Nat) (h0_kept_numbers : Nat) (h0_kept_words : Nat) (h0_trial : Nat) (h0_ways : Nat) (h0_spread : Nat) (h0_course : Nat) (h0_rows : Nat) (h0_changes : Nat) (h0_tape : Nat) (h0_bodies : Nat) (h0_causes : Nat) (s0__hasImage : Int32) (s0__hasCauses : Int32) (s0__stepsDone : Int32) (s0_filter__all : Int32) (s0_filter__v : Int32) (s0_filter__loss : Int32) (s0_filter__result : Int32) (s0_filter__over : Int32) (s0_filter__heldAll : Int32) (s0_filter__heldRounded : Int32) (s0_filter_numbers : Nat → Int32) (s0_filter_words : Nat → Int32) (s0_kept__all : Int32) (s0_kept__v : Int32) (s0_kept__loss : Int32) (s0_kept__result : Int32) (s0_kept__over : Int32) (s0_kept__heldAll : Int32) (s0_kept__heldRounded : Int32) (s0_kept_numbers : Nat → Int32) (s0_kept_words : Nat → Int32) (r : Int32) (o0__hasImage : Int32) (o0_kept_numbers : Nat → Int32) (o0_kept_words : Nat → Int32) (hok : fX8_image s0__hasImage s0_filter_numbers s0_filter_words s0_kept_numbers s0_kept_words = some (r, o0__hasImage, o0_kept_numbers, o0_kept_words)) : Ct l G cA ts yX8_image wsX8_image 3 101 [.ref h0] (wm_X8_image cA h0 h0_filter h0_filter_numbers h0_filter_words h0_kept h0_kept_numbers h0_kept_words h0_trial h0_ways h0_spread h0_course h0_rows h0_changes h0_tape h0_bodies h0_causes s0__hasImage s0__hasCauses s0__stepsDone s0_filter__all s0_filter__v s0_filter__loss s0_filter__result s0_filter__over s0_filter__heldAll s0_filter__heldRounded s0_filter_numbers s0_filter_words s0_kept__all s0_kept__v s0_kept__loss s0_kept__result s0_kept__over s0_kept__heldAll s0_kept__heldRounded s0_kept_numbers s0_kept_words) (wm_X8_image cA h0 h0_filter h0_filter_numbers h0_filter_words h0_kept h0_kept_numbers h0_kept_words h0_trial h0_ways h0_spread h0_course h0_rows h0_changes h0_tape h0_bodies h0_causes o0__hasImage s0__hasCauses s0__stepsDone s0_filter__all s0_filter__v s0_filter__loss s0_filter__result s0_filter__over s0_filter__heldAll s0_filter__heldRounded s0_filter_numbers s0_filter_words s0_kept__all s0_kept__v s0_kept__loss s0_kept__result s0_kept__over s0_kept__heldAll s0_kept__heldRounded o0_kept_numbers o0_kept_words) (some (.int r)) := by
  refine Ct.intro (cc := cX8_image) (maxL := 1) (ret := some .int) (by decide +kernel) rfl (Nat.le_of_ble_eq_true rfl) ?_
  intro p e s m ar below meth c A Q hx hb hr hml hown hlocks hts hK hZ hA hQ hP hD hS ls hl
  have hown : s.vm.findClass RX8 = some m.cls := hown
  have hinX8 : ∀ w ∈ wsX80, w ∈ wsX8_image := fun _ h => List.mem_cons_of_mem _ (List.mem_append_left _ (List.mem_append_right _ (h)))
  have hl : lv_has ls 1 [(0, .ref h0)] := hl
  have hP : va_P G vwCl (wm_X8_image cA h0 h0_filter h0_filter_numbers h0_filter_words h0_kept h0_kept_numbers h0_kept_words h0_trial h0_ways h0_spread h0_course h0_rows h0_changes h0_tape h0_bodies h0_causes s0__hasImage s0__hasCauses s0__stepsDone s0_filter__all s0_filter__v s0_filter__loss s0_filter__result s0_filter__over s0_filter__heldAll s0_filter__heldRounded s0_filter_numbers s0_filter_words s0_kept__all s0_kept__v s0_kept__loss s0_kept__result s0_kept__over s0_kept__heldAll s0_kept__heldRounded s0_kept_numbers s0_kept_words) s.heap := hP
  have hD : va_D A (wm_X8_image cA h0 h0_filter h0_filter_numbers h0_filter_words h0_kept h0_kept_numbers h0_kept_words h0_trial h0_ways h0_spread h0_course h0_rows h0_changes h0_tape h0_bodies h0_causes s0__hasImage s0__hasCauses s0__stepsDone s0_filter__all s0_filter__v s0_filter__loss s0_filter__result s0_filter__over s0_filter__heldAll s0_filter__heldRounded s0_filter_numbers s0_filter_words s0_kept__all s0_kept__v s0_kept__loss s0_kept__result s0_kept__over s0_kept__heldAll s0_kept__heldRounded s0_kept_numbers s0_kept_words) := hD
  unfold fX8_image at hok
  refine lv_aload_n hx hb dX8_image_0 rfl (lv_at hl 0 rfl) ?_
  refine va_get (ci := 8) (v := .ref h0_kept) (C := RX8) (T := TX8) (N := 14) hx hb hts hinX8 hown hK hP 0 rfl rfl 2 (by decide) (hts _ (List.mem_of_getElem? (i := 1) rfl)) (fun _ h9 => h9) rfl dX8_image_1 ?_
  refine lv_aload_n hx hb dX8_image_4 rfl (lv_at hl 0 rfl) ?_
  refine va_get (ci := 8) (v := .ref h0_filter) (C := RX8) (T := TX8) (N := 14) hx hb hts hinX8 hown hK hP 0 rfl rfl 0 (by decide) (hts _ (List.mem_of_getElem? (i := 2) rfl)) (fun _ h9 => h9) rfl dX8_image_5 ?_
  obtain ⟨o1, o2, hq, hok⟩ := g_bnd2 hok
  refine cG (is := [4, 5, 6, 1, 2, 3]) (wc := (wm_X3_take cA h0_kept h0_kept_numbers h0_kept_words h0_filter h0_filter_numbers h0_filter_words s0_kept__all s0_kept__v s0_kept__loss s0_kept__result s0_kept__over s0_kept__heldAll s0_kept__heldRounded s0_kept_numbers s0_kept_words s0_filter__all s0_filter__v s0_filter__loss s0_filter__result s0_filter__over s0_filter__heldAll s0_filter__heldRounded s0_filter_numbers s0_filter_words)) (w1 := (wm_X3_take cA h0_kept h0_kept_numbers h0_kept_words h0_filter h0_filter_numbers h0_filter_words s0_kept__all s0_kept__v s0_kept__loss s0_kept__result s0_kept__over s0_kept__heldAll s0_kept__heldRounded o1 o2 s0_filter__all s0_filter__v s0_filter__loss s0_filter__result s0_filter__over s0_filter__heldAll s0_filter__heldRounded s0_filter_numbers s0_filter_words)) (rv := none) (st1 := []) (va_runV (Ts := wsX8_image) (As := [.ref h0_filter]) (rest := []) ⟨hx, hb, hml, hown, hts⟩ (c_X3_take l G cA ts h0_kept h0_kept_numbers h0_kept_words h0_filter h0_filter_numbers h0_filter_words s0_kept__all s0_kept__v s0_kept__loss s0_kept__result s0_kept__over s0_kept__heldAll s0_kept__heldRounded s0_kept_numbers s0_kept_words s0_filter__all s0_filter__v s0_filter__loss s0_filter__result s0_filter__over s0_filter__heldAll s0_filter__heldRounded s0_filter_numbers s0_filter_words o1 o2 hq s.heap.size) (cwV 1 hts gX8_image_X3_take rfl rfl rfl (by decide +kernel) ⟨Nat.le_of_ble_eq_true rfl, Nat.le_of_ble_eq_true rfl⟩) (pre_V (ci := 3) (q0 := 4) (is := [4, 5, 6, 1, 2, 3]) rfl rfl hP hD hS hA hK hZ (by decide +kernel) (by rfl)) rfl rfl hl.1 rfl (by exact lv_room (Nat.le_of_ble_eq_true rfl)) dX8_image_8 ⟨Nat.le_refl _, Nat.le_refl _⟩) hP hD hS hA (by decide +kernel) (by rfl) (by rfl) rfl (fun H locs hP hD hS => ?_)
  have hP : va_P G vwCl (wm_X8_image cA h0 h0_filter h0_filter_numbers h0_filter_words h0_kept h0_kept_numbers h0_kept_words h0_trial h0_ways h0_spread h0_course h0_rows h0_changes h0_tape h0_bodies h0_causes s0__hasImage s0__hasCauses s0__stepsDone s0_filter__all s0_filter__v s0_filter__loss s0_filter__result s0_filter__over s0_filter__heldAll s0_filter__heldRounded s0_filter_numbers s0_filter_words s0_kept__all s0_kept__v s0_kept__loss s0_kept__result s0_kept__over s0_kept__heldAll s0_kept__heldRounded o1 o2) H := hP
  have hD : va_D A (wm_X8_image cA h0 h0_filter h0_filter_numbers h0_filter_words h0_kept h0_kept_numbers h0_kept_words h0_trial h0_ways h0_spread h0_course h0_rows h0_changes h0_tape h0_bodies h0_causes s0__hasImage s0__hasCauses s0__stepsDone s0_filter__all s0_filter__v s0_filter__loss s0_filter__result s0_filter__over s0_filter__heldAll s0_filter__heldRounded s0_filter_numbers s0_filter_words s0_kept__all s0_kept__v s0_kept__loss s0_kept__result s0_kept__over s0_kept__heldAll s0_kept__heldRounded o1 o2) := hD
  refine lv_aload_n hx hb dX8_image_11 rfl (lv_at hl 0 rfl) ?_
  refine lv_iconst (v := 1) hx hb dX8_image_12 (by decide) ?_
  refine va_put (D := G) (ci := 8) (v := .int (1:Int32)) (ty := .boolean) (C := RX8) (T := TX8) (N := 14) hx hb hts hinX8 tyX8 tyX8_ok nmX8 hown hK hP hD hS 0 rfl rfl 3 (by decide) (hts _ (List.mem_of_getElem? (i := 3) rfl)) (fun _ h9 => h9) rfl (by decide +kernel) (by decide +kernel) (by decide +kernel) (Nat.le_of_ble_eq_true rfl) dX8_image_13 (fun H locs hP hD hS => ?_)
  have hP : va_P G vwCl (wm_X8_image cA h0 h0_filter h0_filter_numbers h0_filter_words h0_kept h0_kept_numbers h0_kept_words h0_trial h0_ways h0_spread h0_course h0_rows h0_changes h0_tape h0_bodies h0_causes (1:Int32) s0__hasCauses s0__stepsDone s0_filter__all s0_filter__v s0_filter__loss s0_filter__result s0_filter__over s0_filter__heldAll s0_filter__heldRounded s0_filter_numbers s0_filter_words s0_kept__all s0_kept__v s0_kept__loss s0_kept__result s0_kept__over s0_kept__heldAll s0_kept__heldRounded o1 o2) H := hP
  have hD : va_D A (wm_X8_image cA h0 h0_filter h0_filter_numbers h0_filter_words h0_kept h0_kept_numbers h0_kept_words h0_trial h0_ways h0_spread h0_course h0_rows h0_changes h0_tape h0_bodies h0_causes (1:Int32) s0__hasCauses s0__stepsDone s0_filter__all s0_filter__v s0_filter__loss s0_filter__result s0_filter__over s0_filter__heldAll s0_filter__heldRounded s0_filter_numbers s0_filter_words s0_kept__all s0_kept__v s0_kept__loss s0_kept__result s0_kept__over s0_kept__heldAll s0_kept__heldRounded o1 o2) := hD
  refine lv_aload_n hx hb dX8_image_16 rfl (lv_at hl 0 rfl) ?_
  refine va_get (ci := 8) (v := .ref h0_filter) (C := RX8) (T := TX8) (N := 14) hx hb hts hinX8 hown hK hP 0 rfl rfl 0 (by decide) (hts _ (List.mem_of_getElem? (i := 2) rfl)) (fun _ h9 => h9) rfl dX8_image_17 ?_
  obtain ⟨r3, hq, hok⟩ := g_bnd1 hok
  refine cG (is := [1, 2, 3]) (wc := (wm_X3_gather cA h0_filter h0_filter_numbers h0_filter_words s0_filter__all s0_filter__v s0_filter__loss s0_filter__result s0_filter__over s0_filter__heldAll s0_filter__heldRounded s0_filter_numbers s0_filter_words)) (w1 := (wm_X3_gather cA h0_filter h0_filter_numbers h0_filter_words s0_filter__all s0_filter__v s0_filter__loss s0_filter__result s0_filter__over s0_filter__heldAll s0_filter__heldRounded s0_filter_numbers s0_filter_words)) (rv := (some (.int r3))) (st1 := [.int r3]) (va_runV (Ts := wsX8_image) (As := []) (rest := []) ⟨hx, hb, hml, hown, hts⟩ (c_X3_packed l G cA ts h0_filter h0_filter_numbers h0_filter_words s0_filter__all s0_filter__v s0_filter__loss s0_filter__result s0_filter__over s0_filter__heldAll s0_filter__heldRounded s0_filter_numbers s0_filter_words r3 hq H.size) (cwV 0 hts gX8_image_X3_packed rfl rfl rfl (by decide +kernel) ⟨Nat.le_of_ble_eq_true rfl, Nat.le_of_ble_eq_true rfl⟩) (pre_V (ci := 3) (q0 := 1) (is := [1, 2, 3]) rfl rfl hP hD hS hA hK hZ (by decide +kernel) (by rfl)) rfl rfl hl.1 rfl (by exact lv_room (Nat.le_of_ble_eq_true rfl)) dX8_image_20 ⟨Nat.le_refl _, Nat.le_refl _⟩) hP hD hS hA (by decide +kernel) (by rfl) (by rfl) rfl (fun H locs hP hD hS => ?_)
  have hP : va_P G vwCl (wm_X8_image cA h0 h0_filter h0_filter_numbers h0_filter_words h0_kept h0_kept_numbers h0_kept_words h0_trial h0_ways h0_spread h0_course h0_rows h0_changes h0_tape h0_bodies h0_causes (1:Int32) s0__hasCauses s0__stepsDone s0_filter__all s0_filter__v s0_filter__loss s0_filter__result s0_filter__over s0_filter__heldAll s0_filter__heldRounded s0_filter_numbers s0_filter_words s0_kept__all s0_kept__v s0_kept__loss s0_kept__result s0_kept__over s0_kept__heldAll s0_kept__heldRounded o1 o2) H := hP
  have hD : va_D A (wm_X8_image cA h0 h0_filter h0_filter_numbers h0_filter_words h0_kept h0_kept_numbers h0_kept_words h0_trial h0_ways h0_spread h0_course h0_rows h0_changes h0_tape h0_bodies h0_causes (1:Int32) s0__hasCauses s0__stepsDone s0_filter__all s0_filter__v s0_filter__loss s0_filter__result s0_filter__over s0_filter__heldAll s0_filter__heldRounded s0_filter_numbers s0_filter_words s0_kept__all s0_kept__v s0_kept__loss s0_kept__result s0_kept__over s0_kept__heldAll s0_kept__heldRounded o1 o2) := hD
  cases hok
  exact cr_i hx hb hr hlocks hQ dX8_image_23 hP hS
set_option maxHeartbeats 40000000 in
set_option maxRecDepth 100000 in
theorem c_X8_alike (l : Launch) (G : va_G) (cA : Nat → ClassId) (ts : Nat → Nat) (h0 : Nat) (h0_filter : Nat) (h0_filter_numbers : Nat) (h0_filter_words : Nat) (h0_kept : Nat) (h0_kept_numbers : Nat) (h0_kept_words : Nat) (h0_trial : Nat) (h0_ways : Nat) (h0_spread : Nat) (h0_course : Nat) (h0_rows : Nat) (h0_changes : Nat) (h0_tape : Nat) (h0_bodies : Nat) (h0_causes : Nat) (s0__hasImage : Int32) (s0__hasCauses : Int32) (s0__stepsDone : Int32) (s0_filter__all : Int32) (s0_filter__v : Int32) (s0_filter__loss : Int32) (s0_filter__result : Int32) (s0_filter__over : Int32) (s0_filter__heldAll : Int32) (s0_filter__heldRounded : Int32) (s0_filter_numbers : Nat → Int32) (s0_filter_words : Nat → Int32) (s0_kept__all : Int32) (s0_kept__v : Int32) (s0_kept__loss : Int32) (s0_kept__result : Int32) (s0_kept__over : Int32) (s0_kept__heldAll : Int32) (s0_kept__heldRounded : Int32) (s0_kept_numbers : Nat → Int32) (s0_kept_words : Nat → Int32) (r : Int32) (hok : fX8_alike s0__hasImage s0_filter_numbers s0_filter_words s0_kept_numbers s0_kept_words = some r) : Ct l G cA ts yX8_alike wsX8_alike 2 62 [.ref h0] (wm_X8_image cA h0 h0_filter h0_filter_numbers h0_filter_words h0_kept h0_kept_numbers h0_kept_words h0_trial h0_ways h0_spread h0_course h0_rows h0_changes h0_tape h0_bodies h0_causes s0__hasImage s0__hasCauses s0__stepsDone s0_filter__all s0_filter__v s0_filter__loss s0_filter__result s0_filter__over s0_filter__heldAll s0_filter__heldRounded s0_filter_numbers s0_filter_words s0_kept__all s0_kept__v s0_kept__loss s0_kept__result s0_kept__over s0_kept__heldAll s0_kept__heldRounded s0_kept_numbers s0_kept_words) (wm_X8_image cA h0 h0_filter h0_filter_numbers h0_filter_words h0_kept h0_kept_numbers h0_kept_words h0_trial h0_ways h0_spread h0_course h0_rows h0_changes h0_tape h0_bodies h0_causes s0__hasImage s0__hasCauses s0__stepsDone s0_filter__all s0_filter__v s0_filter__loss s0_filter__result s0_filter__over s0_filter__heldAll s0_filter__heldRounded s0_filter_numbers s0_filter_words s0_kept__all s0_kept__v s0_kept__loss s0_kept__result s0_kept__over s0_kept__heldAll s0_kept__heldRounded s0_kept_numbers s0_kept_words) (some (.int r)) := by
  refine Ct.intro (cc := cX8_alike) (maxL := 1) (ret := some .int) (by decide +kernel) rfl (Nat.le_of_ble_eq_true rfl) ?_
  intro p e s m ar below meth c A Q hx hb hr hml hown hlocks hts hK hZ hA hQ hP hD hS ls hl
  have hown : s.vm.findClass RX8 = some m.cls := hown
  have hinX8 : ∀ w ∈ wsX80, w ∈ wsX8_alike := fun _ h => List.mem_cons_of_mem _ (List.mem_append_left _ (List.mem_append_right _ (h)))
  have hl : lv_has ls 1 [(0, .ref h0)] := hl
  have hP : va_P G vwCl (wm_X8_image cA h0 h0_filter h0_filter_numbers h0_filter_words h0_kept h0_kept_numbers h0_kept_words h0_trial h0_ways h0_spread h0_course h0_rows h0_changes h0_tape h0_bodies h0_causes s0__hasImage s0__hasCauses s0__stepsDone s0_filter__all s0_filter__v s0_filter__loss s0_filter__result s0_filter__over s0_filter__heldAll s0_filter__heldRounded s0_filter_numbers s0_filter_words s0_kept__all s0_kept__v s0_kept__loss s0_kept__result s0_kept__over s0_kept__heldAll s0_kept__heldRounded s0_kept_numbers s0_kept_words) s.heap := hP
  have hD : va_D A (wm_X8_image cA h0 h0_filter h0_filter_numbers h0_filter_words h0_kept h0_kept_numbers h0_kept_words h0_trial h0_ways h0_spread h0_course h0_rows h0_changes h0_tape h0_bodies h0_causes s0__hasImage s0__hasCauses s0__stepsDone s0_filter__all s0_filter__v s0_filter__loss s0_filter__result s0_filter__over s0_filter__heldAll s0_filter__heldRounded s0_filter_numbers s0_filter_words s0_kept__all s0_kept__v s0_kept__loss s0_kept__result s0_kept__over s0_kept__heldAll s0_kept__heldRounded s0_kept_numbers s0_kept_words) := hD
  unfold fX8_alike at hok
  refine lv_aload_n hx hb dX8_alike_0 rfl (lv_at hl 0 rfl) ?_
  refine va_get (ci := 8) (v := .int s0__hasImage) (C := RX8) (T := TX8) (N := 14) hx hb hts hinX8 hown hK hP 0 rfl rfl 3 (by decide) (hts _ (List.mem_of_getElem? (i := 1) rfl)) (fun _ h9 => h9) rfl dX8_alike_1 ?_
  refine lv_if_ne (tgt := 10) hx hb dX8_alike_4 (by decide) (fun c => ?_) (fun c => ?_)
  · replace hok := g_neg hok c
    refine lv_aload_n hx hb dX8_alike_10 rfl (lv_at hl 0 rfl) ?_
    refine va_get (ci := 8) (v := .ref h0_filter) (C := RX8) (T := TX8) (N := 14) hx hb hts hinX8 hown hK hP 0 rfl rfl 0 (by decide) (hts _ (List.mem_of_getElem? (i := 2) rfl)) (fun _ h9 => h9) rfl dX8_alike_11 ?_
    refine lv_aload_n hx hb dX8_alike_14 rfl (lv_at hl 0 rfl) ?_
    refine va_get (ci := 8) (v := .ref h0_kept) (C := RX8) (T := TX8) (N := 14) hx hb hts hinX8 hown hK hP 0 rfl rfl 2 (by decide) (hts _ (List.mem_of_getElem? (i := 3) rfl)) (fun _ h9 => h9) rfl dX8_alike_15 ?_
    obtain ⟨r1, hq, hok⟩ := g_bnd1 hok
    refine cG (is := [1, 2, 4, 5]) (wc := (wm_X3_hasNumbersOf cA h0_filter h0_filter_numbers h0_kept h0_kept_numbers h0_filter_words h0_kept_words s0_filter__all s0_filter__v s0_filter__loss s0_filter__result s0_filter__over s0_filter__heldAll s0_filter__heldRounded s0_filter_numbers s0_kept__all s0_kept__v s0_kept__loss s0_kept__result s0_kept__over s0_kept__heldAll s0_kept__heldRounded s0_kept_numbers)) (w1 := (wm_X3_hasNumbersOf cA h0_filter h0_filter_numbers h0_kept h0_kept_numbers h0_filter_words h0_kept_words s0_filter__all s0_filter__v s0_filter__loss s0_filter__result s0_filter__over s0_filter__heldAll s0_filter__heldRounded s0_filter_numbers s0_kept__all s0_kept__v s0_kept__loss s0_kept__result s0_kept__over s0_kept__heldAll s0_kept__heldRounded s0_kept_numbers)) (rv := (some (.int r1))) (st1 := [.int r1]) (va_runV (Ts := wsX8_alike) (As := [.ref h0_kept]) (rest := []) ⟨hx, hb, hml, hown, hts⟩ (c_X3_hasNumbersOf l G cA ts h0_filter h0_filter_numbers h0_kept h0_kept_numbers h0_filter_words h0_kept_words s0_filter__all s0_filter__v s0_filter__loss s0_filter__result s0_filter__over s0_filter__heldAll s0_filter__heldRounded s0_filter_numbers s0_kept__all s0_kept__v s0_kept__loss s0_kept__result s0_kept__over s0_kept__heldAll s0_kept__heldRounded s0_kept_numbers r1 hq s.heap.size) (cwV 1 hts gX8_alike_X3_hasNumbersOf rfl rfl rfl (by decide +kernel) ⟨Nat.le_of_ble_eq_true rfl, Nat.le_of_ble_eq_true rfl⟩) (pre_V (ci := 3) (q0 := 1) (is := [1, 2, 4, 5]) rfl rfl hP hD hS hA hK hZ (by decide +kernel) (by rfl)) rfl rfl hl.1 rfl (by exact lv_room (Nat.le_of_ble_eq_true rfl)) dX8_alike_18 ⟨Nat.le_refl _, Nat.le_refl _⟩) hP hD hS hA (by decide +kernel) (by rfl) (by rfl) rfl (fun H locs hP hD hS => ?_)
    have hP : va_P G vwCl (wm_X8_image cA h0 h0_filter h0_filter_numbers h0_filter_words h0_kept h0_kept_numbers h0_kept_words h0_trial h0_ways h0_spread h0_course h0_rows h0_changes h0_tape h0_bodies h0_causes s0__hasImage s0__hasCauses s0__stepsDone s0_filter__all s0_filter__v s0_filter__loss s0_filter__result s0_filter__over s0_filter__heldAll s0_filter__heldRounded s0_filter_numbers s0_filter_words s0_kept__all s0_kept__v s0_kept__loss s0_kept__result s0_kept__over s0_kept__heldAll s0_kept__heldRounded s0_kept_numbers s0_kept_words) H := hP
    have hD : va_D A (wm_X8_image cA h0 h0_filter h0_filter_numbers h0_filter_words h0_kept h0_kept_numbers h0_kept_words h0_trial h0_ways h0_spread h0_course h0_rows h0_changes h0_tape h0_bodies h0_causes s0__hasImage s0__hasCauses s0__stepsDone s0_filter__all s0_filter__v s0_filter__loss s0_filter__result s0_filter__over s0_filter__heldAll s0_filter__heldRounded s0_filter_numbers s0_filter_words s0_kept__all s0_kept__v s0_kept__loss s0_kept__result s0_kept__over s0_kept__heldAll s0_kept__heldRounded s0_kept_numbers s0_kept_words) := hD
    refine lv_if_eq (tgt := 42) hx hb dX8_alike_21 (by decide) (fun c => ?_) (fun c => ?_)
    · replace hok := g_pos hok c
      refine lv_iconst (v := 0) hx hb dX8_alike_42 (by decide) ?_
      cases hok
      exact cr_i hx hb hr hlocks hQ dX8_alike_43 hP hS
    replace hok := g_neg hok c
    refine lv_aload_n hx hb dX8_alike_24 rfl (lv_at hl 0 rfl) ?_
    refine va_get (ci := 8) (v := .ref h0_filter) (C := RX8) (T := TX8) (N := 14) hx hb hts hinX8 hown hK hP 0 rfl rfl 0 (by decide) (hts _ (List.mem_of_getElem? (i := 2) rfl)) (fun _ h9 => h9) rfl dX8_alike_25 ?_
    refine lv_aload_n hx hb dX8_alike_28 rfl (lv_at hl 0 rfl) ?_
    refine va_get (ci := 8) (v := .ref h0_kept) (C := RX8) (T := TX8) (N := 14) hx hb hts hinX8 hown hK hP 0 rfl rfl 2 (by decide) (hts _ (List.mem_of_getElem? (i := 3) rfl)) (fun _ h9 => h9) rfl dX8_alike_29 ?_
    obtain ⟨r2, hq, hok⟩ := g_bnd1 hok
    refine cG (is := [1, 3, 4, 6]) (wc := (wm_X3_hasWordsOf cA h0_filter h0_filter_words h0_kept h0_kept_words h0_filter_numbers h0_kept_numbers s0_filter__all s0_filter__v s0_filter__loss s0_filter__result s0_filter__over s0_filter__heldAll s0_filter__heldRounded s0_filter_words s0_kept__all s0_kept__v s0_kept__loss s0_kept__result s0_kept__over s0_kept__heldAll s0_kept__heldRounded s0_kept_words)) (w1 := (wm_X3_hasWordsOf cA h0_filter h0_filter_words h0_kept h0_kept_words h0_filter_numbers h0_kept_numbers s0_filter__all s0_filter__v s0_filter__loss s0_filter__result s0_filter__over s0_filter__heldAll s0_filter__heldRounded s0_filter_words s0_kept__all s0_kept__v s0_kept__loss s0_kept__result s0_kept__over s0_kept__heldAll s0_kept__heldRounded s0_kept_words)) (rv := (some (.int r2))) (st1 := [.int r2]) (va_runV (Ts := wsX8_alike) (As := [.ref h0_kept]) (rest := []) ⟨hx, hb, hml, hown, hts⟩ (c_X3_hasWordsOf l G cA ts h0_filter h0_filter_words h0_kept h0_kept_words h0_filter_numbers h0_kept_numbers s0_filter__all s0_filter__v s0_filter__loss s0_filter__result s0_filter__over s0_filter__heldAll s0_filter__heldRounded s0_filter_words s0_kept__all s0_kept__v s0_kept__loss s0_kept__result s0_kept__over s0_kept__heldAll s0_kept__heldRounded s0_kept_words r2 hq H.size) (cwV 1 hts gX8_alike_X3_hasWordsOf rfl rfl rfl (by decide +kernel) ⟨Nat.le_of_ble_eq_true rfl, Nat.le_of_ble_eq_true rfl⟩) (pre_V (ci := 3) (q0 := 1) (is := [1, 3, 4, 6]) rfl rfl hP hD hS hA hK hZ (by decide +kernel) (by rfl)) rfl rfl hl.1 rfl (by exact lv_room (Nat.le_of_ble_eq_true rfl)) dX8_alike_32 ⟨Nat.le_refl _, Nat.le_refl _⟩) hP hD hS hA (by decide +kernel) (by rfl) (by rfl) rfl (fun H locs hP hD hS => ?_)
    have hP : va_P G vwCl (wm_X8_image cA h0 h0_filter h0_filter_numbers h0_filter_words h0_kept h0_kept_numbers h0_kept_words h0_trial h0_ways h0_spread h0_course h0_rows h0_changes h0_tape h0_bodies h0_causes s0__hasImage s0__hasCauses s0__stepsDone s0_filter__all s0_filter__v s0_filter__loss s0_filter__result s0_filter__over s0_filter__heldAll s0_filter__heldRounded s0_filter_numbers s0_filter_words s0_kept__all s0_kept__v s0_kept__loss s0_kept__result s0_kept__over s0_kept__heldAll s0_kept__heldRounded s0_kept_numbers s0_kept_words) H := hP
    have hD : va_D A (wm_X8_image cA h0 h0_filter h0_filter_numbers h0_filter_words h0_kept h0_kept_numbers h0_kept_words h0_trial h0_ways h0_spread h0_course h0_rows h0_changes h0_tape h0_bodies h0_causes s0__hasImage s0__hasCauses s0__stepsDone s0_filter__all s0_filter__v s0_filter__loss s0_filter__result s0_filter__over s0_filter__heldAll s0_filter__heldRounded s0_filter_numbers s0_filter_words s0_kept__all s0_kept__v s0_kept__loss s0_kept__result s0_kept__over s0_kept__heldAll s0_kept__heldRounded s0_kept_numbers s0_kept_words) := hD
    refine lv_if_eq (tgt := 42) hx hb dX8_alike_35 (by decide) (fun c => ?_) (fun c => ?_)
    · replace hok := g_pos hok c
      refine lv_iconst (v := 0) hx hb dX8_alike_42 (by decide) ?_
      cases hok
      exact cr_i hx hb hr hlocks hQ dX8_alike_43 hP hS
    replace hok := g_neg hok c
    refine lv_iconst (v := 1) hx hb dX8_alike_38 (by decide) ?_
    refine lv_goto (tgt := 43) hx hb dX8_alike_39 (by decide) ?_
    cases hok
    exact cr_i hx hb hr hlocks hQ dX8_alike_43 hP hS
  replace hok := g_pos hok c
  refine lv_bipush (v := -5) hx hb dX8_alike_7 (by decide) ?_
  cases hok
  exact cr_i hx hb hr hlocks hQ dX8_alike_9 hP hS
set_option maxHeartbeats 40000000 in
set_option maxRecDepth 100000 in
theorem c_X8_back (l : Launch) (G : va_G) (cA : Nat → ClassId) (ts : Nat → Nat) (h0 : Nat) (h0_filter : Nat) (h0_filter_numbers : Nat) (h0_filter_words : Nat) (h0_kept : Nat) (h0_kept_numbers : Nat) (h0_kept_words : Nat) (h0_changes : Nat) (h0_trial : Nat) (h0_ways : Nat) (h0_spread : Nat) (h0_course : Nat) (h0_rows : Nat) (h0_tape : Nat) (h0_bodies : Nat) (h0_causes : Nat) (h0_changes_slots : Nat) (h0_changes_olds : Nat) (h0_changes_news : Nat) (s0__hasImage : Int32) (s0__hasCauses : Int32) (s0__stepsDone : Int32) (s0_filter__all : Int32) (s0_filter__v : Int32) (s0_filter__loss : Int32) (s0_filter__result : Int32) (s0_filter__over : Int32) (s0_filter__heldAll : Int32) (s0_filter__heldRounded : Int32) (s0_filter_numbers : Nat → Int32) (s0_filter_words : Nat → Int32) (s0_kept__all : Int32) (s0_kept__v : Int32) (s0_kept__loss : Int32) (s0_kept__result : Int32) (s0_kept__over : Int32) (s0_kept__heldAll : Int32) (s0_kept__heldRounded : Int32) (s0_kept_numbers : Nat → Int32) (s0_kept_words : Nat → Int32) (s0_changes__done : Int32) (s0_changes__undone : Int32) (r : Int32) (o0_filter_numbers : Nat → Int32) (o0_filter_words : Nat → Int32) (o0_changes__done : Int32) (o0_changes__undone : Int32) (hok : fX8_back s0__hasImage s0_filter_numbers s0_filter_words s0_kept_numbers s0_kept_words s0_changes__done s0_changes__undone = some (r, o0_filter_numbers, o0_filter_words, o0_changes__done, o0_changes__undone)) : Ct l G cA ts yX8_back wsX8_back 3 101 [.ref h0] (wm_X8_back cA h0 h0_filter h0_filter_numbers h0_filter_words h0_kept h0_kept_numbers h0_kept_words h0_changes h0_trial h0_ways h0_spread h0_course h0_rows h0_tape h0_bodies h0_causes h0_changes_slots h0_changes_olds h0_changes_news s0__hasImage s0__hasCauses s0__stepsDone s0_filter__all s0_filter__v s0_filter__loss s0_filter__result s0_filter__over s0_filter__heldAll s0_filter__heldRounded s0_filter_numbers s0_filter_words s0_kept__all s0_kept__v s0_kept__loss s0_kept__result s0_kept__over s0_kept__heldAll s0_kept__heldRounded s0_kept_numbers s0_kept_words s0_changes__done s0_changes__undone) (wm_X8_back cA h0 h0_filter h0_filter_numbers h0_filter_words h0_kept h0_kept_numbers h0_kept_words h0_changes h0_trial h0_ways h0_spread h0_course h0_rows h0_tape h0_bodies h0_causes h0_changes_slots h0_changes_olds h0_changes_news s0__hasImage s0__hasCauses s0__stepsDone s0_filter__all s0_filter__v s0_filter__loss s0_filter__result s0_filter__over s0_filter__heldAll s0_filter__heldRounded o0_filter_numbers o0_filter_words s0_kept__all s0_kept__v s0_kept__loss s0_kept__result s0_kept__over s0_kept__heldAll s0_kept__heldRounded s0_kept_numbers s0_kept_words o0_changes__done o0_changes__undone) (some (.int r)) := by
  refine Ct.intro (cc := cX8_back) (maxL := 1) (ret := some .int) (by decide +kernel) rfl (Nat.le_of_ble_eq_true rfl) ?_
  intro p e s m ar below meth c A Q hx hb hr hml hown hlocks hts hK hZ hA hQ hP hD hS ls hl
  have hown : s.vm.findClass RX8 = some m.cls := hown
  have hinX8 : ∀ w ∈ wsX80, w ∈ wsX8_back := fun _ h => List.mem_cons_of_mem _ (List.mem_append_left _ (List.mem_append_left _ (List.mem_append_right _ (h))))
  have hl : lv_has ls 1 [(0, .ref h0)] := hl
  have hP : va_P G vwCl (wm_X8_back cA h0 h0_filter h0_filter_numbers h0_filter_words h0_kept h0_kept_numbers h0_kept_words h0_changes h0_trial h0_ways h0_spread h0_course h0_rows h0_tape h0_bodies h0_causes h0_changes_slots h0_changes_olds h0_changes_news s0__hasImage s0__hasCauses s0__stepsDone s0_filter__all s0_filter__v s0_filter__loss s0_filter__result s0_filter__over s0_filter__heldAll s0_filter__heldRounded s0_filter_numbers s0_filter_words s0_kept__all s0_kept__v s0_kept__loss s0_kept__result s0_kept__over s0_kept__heldAll s0_kept__heldRounded s0_kept_numbers s0_kept_words s0_changes__done s0_changes__undone) s.heap := hP
  have hD : va_D A (wm_X8_back cA h0 h0_filter h0_filter_numbers h0_filter_words h0_kept h0_kept_numbers h0_kept_words h0_changes h0_trial h0_ways h0_spread h0_course h0_rows h0_tape h0_bodies h0_causes h0_changes_slots h0_changes_olds h0_changes_news s0__hasImage s0__hasCauses s0__stepsDone s0_filter__all s0_filter__v s0_filter__loss s0_filter__result s0_filter__over s0_filter__heldAll s0_filter__heldRounded s0_filter_numbers s0_filter_words s0_kept__all s0_kept__v s0_kept__loss s0_kept__result s0_kept__over s0_kept__heldAll s0_kept__heldRounded s0_kept_numbers s0_kept_words s0_changes__done s0_changes__undone) := hD
  unfold fX8_back at hok
  refine lv_aload_n hx hb dX8_back_0 rfl (lv_at hl 0 rfl) ?_
  refine va_get (ci := 8) (v := .int s0__hasImage) (C := RX8) (T := TX8) (N := 14) hx hb hts hinX8 hown hK hP 0 rfl rfl 3 (by decide) (hts _ (List.mem_of_getElem? (i := 1) rfl)) (fun _ h9 => h9) rfl dX8_back_1 ?_
  refine lv_if_ne (tgt := 10) hx hb dX8_back_4 (by decide) (fun c => ?_) (fun c => ?_)
  · replace hok := g_neg hok c
    refine lv_aload_n hx hb dX8_back_10 rfl (lv_at hl 0 rfl) ?_
    refine va_get (ci := 8) (v := .ref h0_filter) (C := RX8) (T := TX8) (N := 14) hx hb hts hinX8 hown hK hP 0 rfl rfl 0 (by decide) (hts _ (List.mem_of_getElem? (i := 2) rfl)) (fun _ h9 => h9) rfl dX8_back_11 ?_
    refine lv_aload_n hx hb dX8_back_14 rfl (lv_at hl 0 rfl) ?_
    refine va_get (ci := 8) (v := .ref h0_kept) (C := RX8) (T := TX8) (N := 14) hx hb hts hinX8 hown hK hP 0 rfl rfl 2 (by decide) (hts _ (List.mem_of_getElem? (i := 3) rfl)) (fun _ h9 => h9) rfl dX8_back_15 ?_
    obtain ⟨o1, o2, hq, hok⟩ := g_bnd2 hok
    refine cG (is := [1, 2, 3, 4, 5, 6]) (wc := (wm_X3_take cA h0_filter h0_filter_numbers h0_filter_words h0_kept h0_kept_numbers h0_kept_words s0_filter__all s0_filter__v s0_filter__loss s0_filter__result s0_filter__over s0_filter__heldAll s0_filter__heldRounded s0_filter_numbers s0_filter_words s0_kept__all s0_kept__v s0_kept__loss s0_kept__result s0_kept__over s0_kept__heldAll s0_kept__heldRounded s0_kept_numbers s0_kept_words)) (w1 := (wm_X3_take cA h0_filter h0_filter_numbers h0_filter_words h0_kept h0_kept_numbers h0_kept_words s0_filter__all s0_filter__v s0_filter__loss s0_filter__result s0_filter__over s0_filter__heldAll s0_filter__heldRounded o1 o2 s0_kept__all s0_kept__v s0_kept__loss s0_kept__result s0_kept__over s0_kept__heldAll s0_kept__heldRounded s0_kept_numbers s0_kept_words)) (rv := none) (st1 := []) (va_runV (Ts := wsX8_back) (As := [.ref h0_kept]) (rest := []) ⟨hx, hb, hml, hown, hts⟩ (c_X3_take l G cA ts h0_filter h0_filter_numbers h0_filter_words h0_kept h0_kept_numbers h0_kept_words s0_filter__all s0_filter__v s0_filter__loss s0_filter__result s0_filter__over s0_filter__heldAll s0_filter__heldRounded s0_filter_numbers s0_filter_words s0_kept__all s0_kept__v s0_kept__loss s0_kept__result s0_kept__over s0_kept__heldAll s0_kept__heldRounded s0_kept_numbers s0_kept_words o1 o2 hq s.heap.size) (cwV 1 hts gX8_back_X3_take rfl rfl rfl (by decide +kernel) ⟨Nat.le_of_ble_eq_true rfl, Nat.le_of_ble_eq_true rfl⟩) (pre_V (ci := 3) (q0 := 1) (is := [1, 2, 3, 4, 5, 6]) rfl rfl hP hD hS hA hK hZ (by decide +kernel) (by rfl)) rfl rfl hl.1 rfl (by exact lv_room (Nat.le_of_ble_eq_true rfl)) dX8_back_18 ⟨Nat.le_refl _, Nat.le_refl _⟩) hP hD hS hA (by decide +kernel) (by rfl) (by rfl) rfl (fun H locs hP hD hS => ?_)
    have hP : va_P G vwCl (wm_X8_back cA h0 h0_filter h0_filter_numbers h0_filter_words h0_kept h0_kept_numbers h0_kept_words h0_changes h0_trial h0_ways h0_spread h0_course h0_rows h0_tape h0_bodies h0_causes h0_changes_slots h0_changes_olds h0_changes_news s0__hasImage s0__hasCauses s0__stepsDone s0_filter__all s0_filter__v s0_filter__loss s0_filter__result s0_filter__over s0_filter__heldAll s0_filter__heldRounded o1 o2 s0_kept__all s0_kept__v s0_kept__loss s0_kept__result s0_kept__over s0_kept__heldAll s0_kept__heldRounded s0_kept_numbers s0_kept_words s0_changes__done s0_changes__undone) H := hP
    have hD : va_D A (wm_X8_back cA h0 h0_filter h0_filter_numbers h0_filter_words h0_kept h0_kept_numbers h0_kept_words h0_changes h0_trial h0_ways h0_spread h0_course h0_rows h0_tape h0_bodies h0_causes h0_changes_slots h0_changes_olds h0_changes_news s0__hasImage s0__hasCauses s0__stepsDone s0_filter__all s0_filter__v s0_filter__loss s0_filter__result s0_filter__over s0_filter__heldAll s0_filter__heldRounded o1 o2 s0_kept__all s0_kept__v s0_kept__loss s0_kept__result s0_kept__over s0_kept__heldAll s0_kept__heldRounded s0_kept_numbers s0_kept_words s0_changes__done s0_changes__undone) := hD
    refine lv_aload_n hx hb dX8_back_21 rfl (lv_at hl 0 rfl) ?_
    refine va_get (ci := 8) (v := .ref h0_changes) (C := RX8) (T := TX8) (N := 14) hx hb hts hinX8 hown hK hP 0 rfl rfl 8 (by decide) (hts _ (List.mem_of_getElem? (i := 4) rfl)) (fun _ h9 => h9) rfl dX8_back_22 ?_
    obtain ⟨o3, o4, hq, hok⟩ := g_bnd2 hok
    refine cG (is := [7]) (wc := (wm_X1_stepBack cA h0_changes h0_changes_slots h0_changes_olds h0_changes_news s0_changes__done s0_changes__undone)) (w1 := (wm_X1_stepBack cA h0_changes h0_changes_slots h0_changes_olds h0_changes_news o3 o4)) (rv := none) (st1 := []) (va_runV (Ts := wsX8_back) (As := []) (rest := []) ⟨hx, hb, hml, hown, hts⟩ (c_X1_forget l G cA ts h0_changes h0_changes_slots h0_changes_olds h0_changes_news s0_changes__done s0_changes__undone o3 o4 hq H.size) (cwV 0 hts gX8_back_X1_forget rfl rfl rfl (by decide +kernel) ⟨Nat.le_of_ble_eq_true rfl, Nat.le_of_ble_eq_true rfl⟩) (pre_V (ci := 1) (q0 := 7) (is := [7]) rfl rfl hP hD hS hA hK hZ (by decide +kernel) (by rfl)) rfl rfl hl.1 rfl (by exact lv_room (Nat.le_of_ble_eq_true rfl)) dX8_back_25 ⟨Nat.le_refl _, Nat.le_refl _⟩) hP hD hS hA (by decide +kernel) (by rfl) (by rfl) rfl (fun H locs hP hD hS => ?_)
    have hP : va_P G vwCl (wm_X8_back cA h0 h0_filter h0_filter_numbers h0_filter_words h0_kept h0_kept_numbers h0_kept_words h0_changes h0_trial h0_ways h0_spread h0_course h0_rows h0_tape h0_bodies h0_causes h0_changes_slots h0_changes_olds h0_changes_news s0__hasImage s0__hasCauses s0__stepsDone s0_filter__all s0_filter__v s0_filter__loss s0_filter__result s0_filter__over s0_filter__heldAll s0_filter__heldRounded o1 o2 s0_kept__all s0_kept__v s0_kept__loss s0_kept__result s0_kept__over s0_kept__heldAll s0_kept__heldRounded s0_kept_numbers s0_kept_words o3 o4) H := hP
    have hD : va_D A (wm_X8_back cA h0 h0_filter h0_filter_numbers h0_filter_words h0_kept h0_kept_numbers h0_kept_words h0_changes h0_trial h0_ways h0_spread h0_course h0_rows h0_tape h0_bodies h0_causes h0_changes_slots h0_changes_olds h0_changes_news s0__hasImage s0__hasCauses s0__stepsDone s0_filter__all s0_filter__v s0_filter__loss s0_filter__result s0_filter__over s0_filter__heldAll s0_filter__heldRounded o1 o2 s0_kept__all s0_kept__v s0_kept__loss s0_kept__result s0_kept__over s0_kept__heldAll s0_kept__heldRounded s0_kept_numbers s0_kept_words o3 o4) := hD
    refine lv_aload_n hx hb dX8_back_28 rfl (lv_at hl 0 rfl) ?_
    refine va_get (ci := 8) (v := .ref h0_filter) (C := RX8) (T := TX8) (N := 14) hx hb hts hinX8 hown hK hP 0 rfl rfl 0 (by decide) (hts _ (List.mem_of_getElem? (i := 2) rfl)) (fun _ h9 => h9) rfl dX8_back_29 ?_
    obtain ⟨r5, hq, hok⟩ := g_bnd1 hok
    refine cG (is := [1, 2, 3]) (wc := (wm_X3_gather cA h0_filter h0_filter_numbers h0_filter_words s0_filter__all s0_filter__v s0_filter__loss s0_filter__result s0_filter__over s0_filter__heldAll s0_filter__heldRounded o1 o2)) (w1 := (wm_X3_gather cA h0_filter h0_filter_numbers h0_filter_words s0_filter__all s0_filter__v s0_filter__loss s0_filter__result s0_filter__over s0_filter__heldAll s0_filter__heldRounded o1 o2)) (rv := (some (.int r5))) (st1 := [.int r5]) (va_runV (Ts := wsX8_back) (As := []) (rest := []) ⟨hx, hb, hml, hown, hts⟩ (c_X3_packed l G cA ts h0_filter h0_filter_numbers h0_filter_words s0_filter__all s0_filter__v s0_filter__loss s0_filter__result s0_filter__over s0_filter__heldAll s0_filter__heldRounded o1 o2 r5 hq H.size) (cwV 0 hts gX8_back_X3_packed rfl rfl rfl (by decide +kernel) ⟨Nat.le_of_ble_eq_true rfl, Nat.le_of_ble_eq_true rfl⟩) (pre_V (ci := 3) (q0 := 1) (is := [1, 2, 3]) rfl rfl hP hD hS hA hK hZ (by decide +kernel) (by rfl)) rfl rfl hl.1 rfl (by exact lv_room (Nat.le_of_ble_eq_true rfl)) dX8_back_32 ⟨Nat.le_refl _, Nat.le_refl _⟩) hP hD hS hA (by decide +kernel) (by rfl) (by rfl) rfl (fun H locs hP hD hS => ?_)
    have hP : va_P G vwCl (wm_X8_back cA h0 h0_filter h0_filter_numbers h0_filter_words h0_kept h0_kept_numbers h0_kept_words h0_changes h0_trial h0_ways h0_spread h0_course h0_rows h0_tape h0_bodies h0_causes h0_changes_slots h0_changes_olds h0_changes_news s0__hasImage s0__hasCauses s0__stepsDone s0_filter__all s0_filter__v s0_filter__loss s0_filter__result s0_filter__over s0_filter__heldAll s0_filter__heldRounded o1 o2 s0_kept__all s0_kept__v s0_kept__loss s0_kept__result s0_kept__over s0_kept__heldAll s0_kept__heldRounded s0_kept_numbers s0_kept_words o3 o4) H := hP
    have hD : va_D A (wm_X8_back cA h0 h0_filter h0_filter_numbers h0_filter_words h0_kept h0_kept_numbers h0_kept_words h0_changes h0_trial h0_ways h0_spread h0_course h0_rows h0_tape h0_bodies h0_causes h0_changes_slots h0_changes_olds h0_changes_news s0__hasImage s0__hasCauses s0__stepsDone s0_filter__all s0_filter__v s0_filter__loss s0_filter__result s0_filter__over s0_filter__heldAll s0_filter__heldRounded o1 o2 s0_kept__all s0_kept__v s0_kept__loss s0_kept__result s0_kept__over s0_kept__heldAll s0_kept__heldRounded s0_kept_numbers s0_kept_words o3 o4) := hD
    cases hok
    exact cr_i hx hb hr hlocks hQ dX8_back_35 hP hS
  replace hok := g_pos hok c
  refine lv_bipush (v := -5) hx hb dX8_back_7 (by decide) ?_
  cases hok
  exact cr_i hx hb hr hlocks hQ dX8_back_9 hP hS
