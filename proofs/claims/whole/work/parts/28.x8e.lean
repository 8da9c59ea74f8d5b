set_option maxHeartbeats 40000000 in
set_option maxRecDepth 100000 in
theorem c_X8_cause (l : Launch) (G : va_G) (cA : Nat → ClassId) (ts : Nat → Nat) (h0 : Nat) (h0_causes : Nat) (h0_filter : Nat) (h0_trial : Nat) (h0_kept : Nat) (h0_ways : Nat) (h0_spread : Nat) (h0_course : Nat) (h0_rows : Nat) (h0_changes : Nat) (h0_tape : Nat) (h0_bodies : Nat) (x1 : Int32) (s0__hasImage : Int32) (s0__hasCauses : Int32) (s0__stepsDone : Int32) (s0_causes : Nat → Int32) (r : Int32) (hok : fX8_cause x1 s0__hasCauses s0_causes = some r) : Ct l G cA ts yX8_cause wsX8_cause 1 40 [.ref h0, .int x1] (wm_X8_tellCauses cA h0 h0_causes h0_filter h0_trial h0_kept h0_ways h0_spread h0_course h0_rows h0_changes h0_tape h0_bodies s0__hasImage s0__hasCauses s0__stepsDone s0_causes) (wm_X8_tellCauses cA h0 h0_causes h0_filter h0_trial h0_kept h0_ways h0_spread h0_course h0_rows h0_changes h0_tape h0_bodies s0__hasImage s0__hasCauses s0__stepsDone s0_causes) (some (.int r)) := by
  refine Ct.intro (cc := cX8_cause) (maxL := 2) (ret := some .int) (by decide +kernel) rfl (Nat.le_of_ble_eq_true rfl) ?_
  intro p e s m ar below meth c A Q hx hb hr hml hown hlocks hts hK hZ hA hQ hP hD hS ls hl
  have hown : s.vm.findClass RX8 = some m.cls := hown
  have hinX8 : ∀ w ∈ wsX80, w ∈ wsX8_cause := fun _ h => List.mem_cons_of_mem _ (List.mem_append_right _ (h))
  have hl : lv_has ls 2 [(0, .ref h0), (1, .int x1)] := hl
  have hP : va_P G vwCl (wm_X8_tellCauses cA h0 h0_causes h0_filter h0_trial h0_kept h0_ways h0_spread h0_course h0_rows h0_changes h0_tape h0_bodies s0__hasImage s0__hasCauses s0__stepsDone s0_causes) s.heap := hP
  have hD : va_D A (wm_X8_tellCauses cA h0 h0_causes h0_filter h0_trial h0_kept h0_ways h0_spread h0_course h0_rows h0_changes h0_tape h0_bodies s0__hasImage s0__hasCauses s0__stepsDone s0_causes) := hD
  unfold fX8_cause at hok
  refine lv_iload_n hx hb dX8_cause_0 rfl (lv_at hl 1 rfl) ?_
  refine lv_if_lt (tgt := 13) hx hb dX8_cause_1 (by decide) (fun c => ?_) (fun c => ?_)
  · replace hok := g_pos hok c
    refine lv_ldc (v := -1000000) hx hb hown (hts _ (List.mem_of_getElem? (i := 2) rfl)) dX8_cause_13 ?_
    cases hok
    exact cr_i hx hb hr hlocks hQ dX8_cause_15 hP hS
  replace hok := g_neg hok c
  refine lv_iload_n hx hb dX8_cause_4 rfl (lv_at hl 1 rfl) ?_
  refine lv_aload_n hx hb dX8_cause_5 rfl (lv_at hl 0 rfl) ?_
  refine va_get (ci := 8) (v := .ref h0_causes) (C := RX8) (T := TX8) (N := 14) hx hb hts hinX8 hown hK hP 0 rfl rfl 11 (by decide) (hts _ (List.mem_of_getElem? (i := 1) rfl)) (fun _ h9 => h9) rfl dX8_cause_6 ?_
  refine va_alen (v := 3) hx hb hK hP 1 0 rfl rfl rfl dX8_cause_9 ?_
  refine lv_icmp_lt (tgt := 16) hx hb dX8_cause_10 (by decide) (fun c => ?_) (fun c => ?_)
  · replace hok := g_pos hok c
    refine lv_aload_n hx hb dX8_cause_16 rfl (lv_at hl 0 rfl) ?_
    refine va_get (ci := 8) (v := .int s0__hasCauses) (C := RX8) (T := TX8) (N := 14) hx hb hts hinX8 hown hK hP 0 rfl rfl 12 (by decide) (hts _ (List.mem_of_getElem? (i := 3) rfl)) (fun _ h9 => h9) rfl dX8_cause_17 ?_
    refine lv_if_eq (tgt := 32) hx hb dX8_cause_20 (by decide) (fun c => ?_) (fun c => ?_)
    · replace hok := g_pos hok c
      refine lv_sipush (v := -1002) hx hb dX8_cause_32 (by decide) ?_
      cases hok
      exact cr_i hx hb hr hlocks hQ dX8_cause_35 hP hS
    replace hok := g_neg hok c
    refine lv_aload_n hx hb dX8_cause_23 rfl (lv_at hl 0 rfl) ?_
    refine va_get (ci := 8) (v := .ref h0_causes) (C := RX8) (T := TX8) (N := 14) hx hb hts hinX8 hown hK hP 0 rfl rfl 11 (by decide) (hts _ (List.mem_of_getElem? (i := 1) rfl)) (fun _ h9 => h9) rfl dX8_cause_24 ?_
    refine lv_iload_n hx hb dX8_cause_27 rfl (lv_at hl 1 rfl) ?_
    obtain ⟨hin, hok⟩ := g_no hok
    refine x_iald (k := x1.toNatClampNeg) hx hb hK hP 1 0 rfl rfl hin rfl dX8_cause_28 ?_
    refine lv_goto (tgt := 35) hx hb dX8_cause_29 (by decide) ?_
    cases hok
    exact cr_i hx hb hr hlocks hQ dX8_cause_35 hP hS
  replace hok := g_neg hok c
  refine lv_ldc (v := -1000000) hx hb hown (hts _ (List.mem_of_getElem? (i := 2) rfl)) dX8_cause_13 ?_
  cases hok
  exact cr_i hx hb hr hlocks hQ dX8_cause_15 hP hS
set_option maxHeartbeats 40000000 in
set_option maxRecDepth 100000 in
theorem c_X8_starts (l : Launch) (G : va_G) (cA : Nat → ClassId) (ts : Nat → Nat) (h0 : Nat) (h0_filter : Nat) (h0_filter_numbers : Nat) (h0_trial : Nat) (h0_kept : Nat) (h0_ways : Nat) (h0_spread : Nat) (h0_course : Nat) (h0_rows : Nat) (h0_changes : Nat) (h0_tape : Nat) (h0_bodies : Nat) (h0_causes : Nat) (h0_filter_words : Nat) (s0__hasImage : Int32) (s0__hasCauses : Int32) (s0__stepsDone : Int32) (s0_filter__all : Int32) (s0_filter__v : Int32) (s0_filter__loss : Int32) (s0_filter__result : Int32) (s0_filter__over : Int32) (s0_filter__heldAll : Int32) (s0_filter__heldRounded : Int32) (s0_filter_numbers : Nat → Int32) (r : Int32) (hok : fX8_starts s0_filter_numbers = some r) : Ct l G cA ts yX8_starts wsX8_starts 2 60 [.ref h0] (wm_X8_of cA h0 h0_filter h0_filter_numbers h0_trial h0_kept h0_ways h0_spread h0_course h0_rows h0_changes h0_tape h0_bodies h0_causes h0_filter_words s0__hasImage s0__hasCauses s0__stepsDone s0_filter__all s0_filter__v s0_filter__loss s0_filter__result s0_filter__over s0_filter__heldAll s0_filter__heldRounded s0_filter_numbers) (wm_X8_of cA h0 h0_filter h0_filter_numbers h0_trial h0_kept h0_ways h0_spread h0_course h0_rows h0_changes h0_tape h0_bodies h0_causes h0_filter_words s0__hasImage s0__hasCauses s0__stepsDone s0_filter__all s0_filter__v s0_filter__loss s0_filter__result s0_filter__over s0_filter__heldAll s0_filter__heldRounded s0_filter_numbers) (some (.int r)) := by
  refine Ct.intro (cc := cX8_starts) (maxL := 1) (ret := some .int) (by decide +kernel) rfl (Nat.le_of_ble_eq_true rfl) ?_
  intro p e s m ar below meth c A Q hx hb hr hml hown hlocks hts hK hZ hA hQ hP hD hS ls hl
  have hown : s.vm.findClass RX8 = some m.cls := hown
  have hinX8 : ∀ w ∈ wsX80, w ∈ wsX8_starts := fun _ h => List.mem_cons_of_mem _ (List.mem_append_left _ (List.mem_append_right _ (h)))
  have hl : lv_has ls 1 [(0, .ref h0)] := hl
  have hP : va_P G vwCl (wm_X8_of cA h0 h0_filter h0_filter_numbers h0_trial h0_kept h0_ways h0_spread h0_course h0_rows h0_changes h0_tape h0_bodies h0_causes h0_filter_words s0__hasImage s0__hasCauses s0__stepsDone s0_filter__all s0_filter__v s0_filter__loss s0_filter__result s0_filter__over s0_filter__heldAll s0_filter__heldRounded s0_filter_numbers) s.heap := hP
  have hD : va_D A (wm_X8_of cA h0 h0_filter h0_filter_numbers h0_trial h0_kept h0_ways h0_spread h0_course h0_rows h0_changes h0_tape h0_bodies h0_causes h0_filter_words s0__hasImage s0__hasCauses s0__stepsDone s0_filter__all s0_filter__v s0_filter__loss s0_filter__result s0_filter__over s0_filter__heldAll s0_filter__heldRounded s0_filter_numbers) := hD
  unfold fX8_starts at hok
  refine lv_aload_n hx hb dX8_starts_0 rfl (lv_at hl 0 rfl) ?_
  refine va_get (ci := 8) (v := .ref h0_filter) (C := RX8) (T := TX8) (N := 14) hx hb hts hinX8 hown hK hP 0 rfl rfl 0 (by decide) (hts _ (List.mem_of_getElem? (i := 1) rfl)) (fun _ h9 => h9) rfl dX8_starts_1 ?_
  obtain ⟨r1, hq, hok⟩ := g_bnd1 hok
  refine cG (is := [1, 2]) (wc := (wm_X3_unit cA h0_filter h0_filter_numbers h0_filter_words s0_filter__all s0_filter__v s0_filter__loss s0_filter__result s0_filter__over s0_filter__heldAll s0_filter__heldRounded s0_filter_numbers)) (w1 := (wm_X3_unit cA h0_filter h0_filter_numbers h0_filter_words s0_filter__all s0_filter__v s0_filter__loss s0_filter__result s0_filter__over s0_filter__heldAll s0_filter__heldRounded s0_filter_numbers)) (rv := (some (.int r1))) (st1 := [.int r1]) (va_runV (Ts := wsX8_starts) (As := []) (rest := []) ⟨hx, hb, hml, hown, hts⟩ (c_X3_howManyPasts l G cA ts h0_filter h0_filter_numbers h0_filter_words s0_filter__all s0_filter__v s0_filter__loss s0_filter__result s0_filter__over s0_filter__heldAll s0_filter__heldRounded s0_filter_numbers r1 hq s.heap.size) (cwV 0 hts gX8_starts_X3_howManyPasts rfl rfl rfl (by decide +kernel) ⟨Nat.le_of_ble_eq_true rfl, Nat.le_of_ble_eq_true rfl⟩) (pre_V (ci := 3) (q0 := 1) (is := [1, 2]) rfl rfl hP hD hS hA hK hZ (by decide +kernel) (by rfl)) rfl rfl hl.1 rfl (by exact lv_room (Nat.le_of_ble_eq_true rfl)) dX8_starts_4 ⟨Nat.le_refl _, Nat.le_refl _⟩) hP hD hS hA (by decide +kernel) (by rfl) (by rfl) rfl (fun H locs hP hD hS => ?_)
  have hP : va_P G vwCl (wm_X8_of cA h0 h0_filter h0_filter_numbers h0_trial h0_kept h0_ways h0_spread h0_course h0_rows h0_changes h0_tape h0_bodies h0_causes h0_filter_words s0__hasImage s0__hasCauses s0__stepsDone s0_filter__all s0_filter__v s0_filter__loss s0_filter__result s0_filter__over s0_filter__heldAll s0_filter__heldRounded s0_filter_numbers) H := hP
  have hD : va_D A (wm_X8_of cA h0 h0_filter h0_filter_numbers h0_trial h0_kept h0_ways h0_spread h0_course h0_rows h0_changes h0_tape h0_bodies h0_causes h0_filter_words s0__hasImage s0__hasCauses s0__stepsDone s0_filter__all s0_filter__v s0_filter__loss s0_filter__result s0_filter__over s0_filter__heldAll s0_filter__heldRounded s0_filter_numbers) := hD
  cases hok
  exact cr_i hx hb hr hlocks hQ dX8_starts_7 hP hS
set_option maxHeartbeats 40000000 in
set_option maxRecDepth 100000 in
theorem c_X8_code (l : Launch) (G : va_G) (cA : Nat → ClassId) (ts : Nat → Nat) (h0 : Nat) (h0_filter : Nat) (h0_filter_numbers : Nat) (h0_filter_words : Nat) (h0_trial : Nat) (h0_kept : Nat) (h0_ways : Nat) (h0_spread : Nat) (h0_course : Nat) (h0_rows : Nat) (h0_changes : Nat) (h0_tape : Nat) (h0_bodies : Nat) (h0_causes : Nat) (s0__hasImage : Int32) (s0__hasCauses : Int32) (s0__stepsDone : Int32) (s0_filter__all : Int32) (s0_filter__v : Int32) (s0_filter__loss : Int32) (s0_filter__result : Int32) (s0_filter__over : Int32) (s0_filter__heldAll : Int32) (s0_filter__heldRounded : Int32) (s0_filter_numbers : Nat → Int32) (s0_filter_words : Nat → Int32) (r : Int32) (hok : fX8_code s0_filter_numbers s0_filter_words = some r) : Ct l G cA ts yX8_code wsX8_code 3 82 [.ref h0] (wm_X8_past cA h0 h0_filter h0_filter_numbers h0_filter_words h0_trial h0_kept h0_ways h0_spread h0_course h0_rows h0_changes h0_tape h0_bodies h0_causes s0__hasImage s0__hasCauses s0__stepsDone s0_filter__all s0_filter__v s0_filter__loss s0_filter__result s0_filter__over s0_filter__heldAll s0_filter__heldRounded s0_filter_numbers s0_filter_words) (wm_X8_past cA h0 h0_filter h0_filter_numbers h0_filter_words h0_trial h0_kept h0_ways h0_spread h0_course h0_rows h0_changes h0_tape h0_bodies h0_causes s0__hasImage s0__hasCauses s0__stepsDone s0_filter__all s0_filter__v s0_filter__loss s0_filter__result s0_filter__over s0_filter__heldAll s0_filter__heldRounded s0_filter_numbers s0_filter_words) (some (.int r)) := by
  refine Ct.intro (cc := cX8_code) (maxL := 1) (ret := some .int) (by decide +kernel) rfl (Nat.le_of_ble_eq_true rfl) ?_
  intro p e s m ar below meth c A Q hx hb hr hml hown hlocks hts hK hZ hA hQ hP hD hS ls hl
  have hown : s.vm.findClass RX8 = some m.cls := hown
  have hinX8 : ∀ w ∈ wsX80, w ∈ wsX8_code := fun _ h => List.mem_cons_of_mem _ (List.mem_append_left _ (List.mem_append_right _ (h)))
  have hl : lv_has ls 1 [(0, .ref h0)] := hl
  have hP : va_P G vwCl (wm_X8_past cA h0 h0_filter h0_filter_numbers h0_filter_words h0_trial h0_kept h0_ways h0_spread h0_course h0_rows h0_changes h0_tape h0_bodies h0_causes s0__hasImage s0__hasCauses s0__stepsDone s0_filter__all s0_filter__v s0_filter__loss s0_filter__result s0_filter__over s0_filter__heldAll s0_filter__heldRounded s0_filter_numbers s0_filter_words) s.heap := hP
  have hD : va_D A (wm_X8_past cA h0 h0_filter h0_filter_numbers h0_filter_words h0_trial h0_kept h0_ways h0_spread h0_course h0_rows h0_changes h0_tape h0_bodies h0_causes s0__hasImage s0__hasCauses s0__stepsDone s0_filter__all s0_filter__v s0_filter__loss s0_filter__result s0_filter__over s0_filter__heldAll s0_filter__heldRounded s0_filter_numbers s0_filter_words) := hD
  unfold fX8_code at hok
  refine lv_aload_n hx hb dX8_code_0 rfl (lv_at hl 0 rfl) ?_
  refine va_get (ci := 8) (v := .ref h0_filter) (C := RX8) (T := TX8) (N := 14) hx hb hts hinX8 hown hK hP 0 rfl rfl 0 (by decide) (hts _ (List.mem_of_getElem? (i := 1) rfl)) (fun _ h9 => h9) rfl dX8_code_1 ?_
  obtain ⟨r1, hq, hok⟩ := g_bnd1 hok
  refine cG (is := [1, 2, 3]) (wc := (wm_X3_gather cA h0_filter h0_filter_numbers h0_filter_words s0_filter__all s0_filter__v s0_filter__loss s0_filter__result s0_filter__over s0_filter__heldAll s0_filter__heldRounded s0_filter_numbers s0_filter_words)) (w1 := (wm_X3_gather cA h0_filter h0_filter_numbers h0_filter_words s0_filter__all s0_filter__v s0_filter__loss s0_filter__result s0_filter__over s0_filter__heldAll s0_filter__heldRounded s0_filter_numbers s0_filter_words)) (rv := (some (.int r1))) (st1 := [.int r1]) (va_runV (Ts := wsX8_code) (As := []) (rest := []) ⟨hx, hb, hml, hown, hts⟩ (c_X3_packed l G cA ts h0_filter h0_filter_numbers h0_filter_words s0_filter__all s0_filter__v s0_filter__loss s0_filter__result s0_filter__over s0_filter__heldAll s0_filter__heldRounded s0_filter_numbers s0_filter_words r1 hq s.heap.size) (cwV 0 hts gX8_code_X3_packed rfl rfl rfl (by decide +kernel) ⟨Nat.le_of_ble_eq_true rfl, Nat.le_of_ble_eq_true rfl⟩) (pre_V (ci := 3) (q0 := 1) (is := [1, 2, 3]) rfl rfl hP hD hS hA hK hZ (by decide +kernel) (by rfl)) rfl rfl hl.1 rfl (by exact lv_room (Nat.le_of_ble_eq_true rfl)) dX8_code_4 ⟨Nat.le_refl _, Nat.le_refl _⟩) hP hD hS hA (by decide +kernel) (by rfl) (by rfl) rfl (fun H locs hP hD hS => ?_)
  have hP : va_P G vwCl (wm_X8_past cA h0 h0_filter h0_filter_numbers h0_filter_words h0_trial h0_kept h0_ways h0_spread h0_course h0_rows h0_changes h0_tape h0_bodies h0_causes s0__hasImage s0__hasCauses s0__stepsDone s0_filter__all s0_filter__v s0_filter__loss s0_filter__result s0_filter__over s0_filter__heldAll s0_filter__heldRounded s0_filter_numbers s0_filter_words) H := hP
  have hD : va_D A (wm_X8_past cA h0 h0_filter h0_filter_numbers h0_filter_words h0_trial h0_kept h0_ways h0_spread h0_course h0_rows h0_changes h0_tape h0_bodies h0_causes s0__hasImage s0__hasCauses s0__stepsDone s0_filter__all s0_filter__v s0_filter__loss s0_filter__result s0_filter__over s0_filter__heldAll s0_filter__heldRounded s0_filter_numbers s0_filter_words) := hD
  cases hok
  exact cr_i hx hb hr hlocks hQ dX8_code_7 hP hS
set_option maxHeartbeats 40000000 in
set_option maxRecDepth 100000 in
theorem c_X8_isStart (l : Launch) (G : va_G) (cA : Nat → ClassId) (ts : Nat → Nat) (h0 : Nat) (h0_filter : Nat) (h0_filter_numbers : Nat) (h0_trial : Nat) (h0_kept : Nat) (h0_ways : Nat) (h0_spread : Nat) (h0_course : Nat) (h0_rows : Nat) (h0_changes : Nat) (h0_tape : Nat) (h0_bodies : Nat) (h0_causes : Nat) (h0_filter_words : Nat) (x1 : Int32) (s0__hasImage : Int32) (s0__hasCauses : Int32) (s0__stepsDone : Int32) (s0_filter__all : Int32) (s0_filter__v : Int32) (s0_filter__loss : Int32) (s0_filter__result : Int32) (s0_filter__over : Int32) (s0_filter__heldAll : Int32) (s0_filter__heldRounded : Int32) (s0_filter_numbers : Nat → Int32) (r : Int32) (hok : fX8_isStart x1 s0_filter_numbers = some r) : Ct l G cA ts yX8_isStart wsX8_isStart 2 60 [.ref h0, .int x1] (wm_X8_of cA h0 h0_filter h0_filter_numbers h0_trial h0_kept h0_ways h0_spread h0_course h0_rows h0_changes h0_tape h0_bodies h0_causes h0_filter_words s0__hasImage s0__hasCauses s0__stepsDone s0_filter__all s0_filter__v s0_filter__loss s0_filter__result s0_filter__over s0_filter__heldAll s0_filter__heldRounded s0_filter_numbers) (wm_X8_of cA h0 h0_filter h0_filter_numbers h0_trial h0_kept h0_ways h0_spread h0_course h0_rows h0_changes h0_tape h0_bodies h0_causes h0_filter_words s0__hasImage s0__hasCauses s0__stepsDone s0_filter__all s0_filter__v s0_filter__loss s0_filter__result s0_filter__over s0_filter__heldAll s0_filter__heldRounded s0_filter_numbers) (some (.int r)) := by
  refine Ct.intro (cc := cX8_isStart) (maxL := 2) (ret := some .boolean) (by decide +kernel) rfl (Nat.le_of_ble_eq_true rfl) ?_
  intro p e s m ar below meth c A Q hx hb hr hml hown hlocks hts hK hZ hA hQ hP hD hS ls hl
  have hown : s.vm.findClass RX8 = some m.cls := hown
  have hinX8 : ∀ w ∈ wsX80, w ∈ wsX8_isStart := fun _ h => List.mem_cons_of_mem _ (List.mem_append_left _ (List.mem_append_right _ (h)))
  have hl : lv_has ls 2 [(0, .ref h0), (1, .int x1)] := hl
  have hP : va_P G vwCl (wm_X8_of cA h0 h0_filter h0_filter_numbers h0_trial h0_kept h0_ways h0_spread h0_course h0_rows h0_changes h0_tape h0_bodies h0_causes h0_filter_words s0__hasImage s0__hasCauses s0__stepsDone s0_filter__all s0_filter__v s0_filter__loss s0_filter__result s0_filter__over s0_filter__heldAll s0_filter__heldRounded s0_filter_numbers) s.heap := hP
  have hD : va_D A (wm_X8_of cA h0 h0_filter h0_filter_numbers h0_trial h0_kept h0_ways h0_spread h0_course h0_rows h0_changes h0_tape h0_bodies h0_causes h0_filter_words s0__hasImage s0__hasCauses s0__stepsDone s0_filter__all s0_filter__v s0_filter__loss s0_filter__result s0_filter__over s0_filter__heldAll s0_filter__heldRounded s0_filter_numbers) := hD
  unfold fX8_isStart at hok
  refine lv_iload_n hx hb dX8_isStart_0 rfl (lv_at hl 1 rfl) ?_
  refine lv_if_lt (tgt := 19) hx hb dX8_isStart_1 (by decide) (fun c => ?_) (fun c => ?_)
  · replace hok := g_pos hok c
    refine lv_iconst (v := 0) hx hb dX8_isStart_19 (by decide) ?_
    cases hok
    exact cr_z (ty := .boolean) (by decide +kernel) hx hb hr hlocks hQ dX8_isStart_20 hP hS
  replace hok := g_neg hok c
  refine lv_iload_n hx hb dX8_isStart_4 rfl (lv_at hl 1 rfl) ?_
  refine lv_aload_n hx hb dX8_isStart_5 rfl (lv_at hl 0 rfl) ?_
  refine va_get (ci := 8) (v := .ref h0_filter) (C := RX8) (T := TX8) (N := 14) hx hb hts hinX8 hown hK hP 0 rfl rfl 0 (by decide) (hts _ (List.mem_of_getElem? (i := 1) rfl)) (fun _ h9 => h9) rfl dX8_isStart_6 ?_
  obtain ⟨r1, hq, hok⟩ := g_bnd1 hok
  refine cG (is := [1, 2]) (wc := (wm_X3_unit cA h0_filter h0_filter_numbers h0_filter_words s0_filter__all s0_filter__v s0_filter__loss s0_filter__result s0_filter__over s0_filter__heldAll s0_filter__heldRounded s0_filter_numbers)) (w1 := (wm_X3_unit cA h0_filter h0_filter_numbers h0_filter_words s0_filter__all s0_filter__v s0_filter__loss s0_filter__result s0_filter__over s0_filter__heldAll s0_filter__heldRounded s0_filter_numbers)) (rv := (some (.int r1))) (st1 := [.int r1, .int x1]) (va_runV (Ts := wsX8_isStart) (As := []) (rest := [.int x1]) ⟨hx, hb, hml, hown, hts⟩ (c_X3_howManyPasts l G cA ts h0_filter h0_filter_numbers h0_filter_words s0_filter__all s0_filter__v s0_filter__loss s0_filter__result s0_filter__over s0_filter__heldAll s0_filter__heldRounded s0_filter_numbers r1 hq s.heap.size) (cwV 0 hts gX8_isStart_X3_howManyPasts rfl rfl rfl (by decide +kernel) ⟨Nat.le_of_ble_eq_true rfl, Nat.le_of_ble_eq_true rfl⟩) (pre_V (ci := 3) (q0 := 1) (is := [1, 2]) rfl rfl hP hD hS hA hK hZ (by decide +kernel) (by rfl)) rfl rfl hl.1 rfl (by exact lv_room (Nat.le_of_ble_eq_true rfl)) dX8_isStart_9 ⟨Nat.le_refl _, Nat.le_refl _⟩) hP hD hS hA (by decide +kernel) (by rfl) (by rfl) rfl (fun H locs hP hD hS => ?_)
  have hP : va_P G vwCl (wm_X8_of cA h0 h0_filter h0_filter_numbers h0_trial h0_kept h0_ways h0_spread h0_course h0_rows h0_changes h0_tape h0_bodies h0_causes h0_filter_words s0__hasImage s0__hasCauses s0__stepsDone s0_filter__all s0_filter__v s0_filter__loss s0_filter__result s0_filter__over s0_filter__heldAll s0_filter__heldRounded s0_filter_numbers) H := hP
  have hD : va_D A (wm_X8_of cA h0 h0_filter h0_filter_numbers h0_trial h0_kept h0_ways h0_spread h0_course h0_rows h0_changes h0_tape h0_bodies h0_causes h0_filter_words s0__hasImage s0__hasCauses s0__stepsDone s0_filter__all s0_filter__v s0_filter__loss s0_filter__result s0_filter__over s0_filter__heldAll s0_filter__heldRounded s0_filter_numbers) := hD
  refine lv_icmp_ge (tgt := 19) hx hb dX8_isStart_12 (by decide) (fun c => ?_) (fun c => ?_)
  · replace hok := g_pos hok c
    refine lv_iconst (v := 0) hx hb dX8_isStart_19 (by decide) ?_
    cases hok
    exact cr_z (ty := .boolean) (by decide +kernel) hx hb hr hlocks hQ dX8_isStart_20 hP hS
  replace hok := g_neg hok c
  refine lv_iconst (v := 1) hx hb dX8_isStart_15 (by decide) ?_
  refine lv_goto (tgt := 20) hx hb dX8_isStart_16 (by decide) ?_
  cases hok
  exact cr_z (ty := .boolean) (by decide +kernel) hx hb hr hlocks hQ dX8_isStart_20 hP hS
set_option maxHeartbeats 40000000 in
set_option maxRecDepth 100000 in
theorem c_X8_next (l : Launch) (G : va_G) (cA : Nat → ClassId) (ts : Nat → Nat) (h0 : Nat) (h0_filter : Nat) (h0_filter_numbers : Nat) (h0_filter_words : Nat) (h0_trial : Nat) (h0_trial_numbers : Nat) (h0_trial_words : Nat) (h0_kept : Nat) (h0_ways : Nat) (h0_spread : Nat) (h0_course : Nat) (h0_rows : Nat) (h0_changes : Nat) (h0_tape : Nat) (h0_bodies : Nat) (h0_causes : Nat) (x1 : Int32) (x2 : Int32) (s0__hasImage : Int32) (s0__hasCauses : Int32) (s0__stepsDone : Int32) (s0_filter__all : Int32) (s0_filter__v : Int32) (s0_filter__loss : Int32) (s0_filter__result : Int32) (s0_filter__over : Int32) (s0_filter__heldAll : Int32) (s0_filter__heldRounded : Int32) (s0_filter_numbers : Nat → Int32) (s0_filter_words : Nat → Int32) (s0_trial__all : Int32) (s0_trial__v : Int32) (s0_trial__loss : Int32) (s0_trial__result : Int32) (s0_trial__over : Int32) (s0_trial__heldAll : Int32) (s0_trial__heldRounded : Int32) (s0_trial_numbers : Nat → Int32) (s0_trial_words : Nat → Int32) (r : Int32) (o0_trial__all : Int32) (o0_trial__v : Int32) (o0_trial__loss : Int32) (o0_trial__result : Int32) (o0_trial__over : Int32) (o0_trial__heldAll : Int32) (o0_trial__heldRounded : Int32) (o0_trial_numbers : Nat → Int32) (o0_trial_words : Nat → Int32) (hok : fX8_next x1 x2 s0_filter_numbers s0_filter_words s0_trial__all s0_trial__v s0_trial__loss s0_trial__result s0_trial__over s0_trial__heldAll s0_trial__heldRounded s0_trial_numbers s0_trial_words = some (r, o0_trial__all, o0_trial__v, o0_trial__loss, o0_trial__result, o0_trial__over, o0_trial__heldAll, o0_trial__heldRounded, o0_trial_numbers, o0_trial_words)) : Ct l G cA ts yX8_next wsX8_next 5 126 [.ref h0, .int x1, .int x2] (wm_X8_next cA h0 h0_filter h0_filter_numbers h0_filter_words h0_trial h0_trial_numbers h0_trial_words h0_kept h0_ways h0_spread h0_course h0_rows h0_changes h0_tape h0_bodies h0_causes s0__hasImage s0__hasCauses s0__stepsDone s0_filter__all s0_filter__v s0_filter__loss s0_filter__result s0_filter__over s0_filter__heldAll s0_filter__heldRounded s0_filter_numbers s0_filter_words s0_trial__all s0_trial__v s0_trial__loss s0_trial__result s0_trial__over s0_trial__heldAll s0_trial__heldRounded s0_trial_numbers s0_trial_words) (wm_X8_next cA h0 h0_filter h0_filter_numbers h0_filter_words h0_trial h0_trial_numbers h0_trial_words h0_kept h0_ways h0_spread h0_course h0_rows h0_changes h0_tape h0_bodies h0_causes s0__hasImage s0__hasCauses s0__stepsDone s0_filter__all s0_filter__v s0_filter__loss s0_filter__result s0_filter__over s0_filter__heldAll s0_filter__heldRounded s0_filter_numbers s0_filter_words o0_trial__all o0_trial__v o0_trial__loss o0_trial__result o0_trial__over o0_trial__heldAll o0_trial__heldRounded o0_trial_numbers o0_trial_words) (some (.int r)) := by
  refine Ct.intro (cc := cX8_next) (maxL := 3) (ret := some .int) (by decide +kernel) rfl (Nat.le_of_ble_eq_true rfl) ?_
  intro p e s m ar below meth c A Q hx hb hr hml hown hlocks hts hK hZ hA hQ hP hD hS ls hl
  have hown : s.vm.findClass RX8 = some m.cls := hown
  have hinX3 : ∀ w ∈ wsX30, w ∈ wsX8_next := fun _ h => List.mem_cons_of_mem _ (List.mem_append_right _ (h))
  have hinX8 : ∀ w ∈ wsX80, w ∈ wsX8_next := fun _ h => List.mem_cons_of_mem _ (List.mem_append_left _ (List.mem_append_right _ (h)))
  have hl : lv_has ls 3 [(0, .ref h0), (1, .int x1), (2, .int x2)] := hl
  have hP : va_P G vwCl (wm_X8_next cA h0 h0_filter h0_filter_numbers h0_filter_words h0_trial h0_trial_numbers h0_trial_words h0_kept h0_ways h0_spread h0_course h0_rows h0_changes h0_tape h0_bodies h0_causes s0__hasImage s0__hasCauses s0__stepsDone s0_filter__all s0_filter__v s0_filter__loss s0_filter__result s0_filter__over s0_filter__heldAll s0_filter__heldRounded s0_filter_numbers s0_filter_words s0_trial__all s0_trial__v s0_trial__loss s0_trial__result s0_trial__over s0_trial__heldAll s0_trial__heldRounded s0_trial_numbers s0_trial_words) s.heap := hP
  have hD : va_D A (wm_X8_next cA h0 h0_filter h0_filter_numbers h0_filter_words h0_trial h0_trial_numbers h0_trial_words h0_kept h0_ways h0_spread h0_course h0_rows h0_changes h0_tape h0_bodies h0_causes s0__hasImage s0__hasCauses s0__stepsDone s0_filter__all s0_filter__v s0_filter__loss s0_filter__result s0_filter__over s0_filter__heldAll s0_filter__heldRounded s0_filter_numbers s0_filter_words s0_trial__all s0_trial__v s0_trial__loss s0_trial__result s0_trial__over s0_trial__heldAll s0_trial__heldRounded s0_trial_numbers s0_trial_words) := hD
  unfold fX8_next at hok
  refine lv_aload_n hx hb dX8_next_0 rfl (lv_at hl 0 rfl) ?_
  refine lv_iload_n hx hb dX8_next_1 rfl (lv_at hl 1 rfl) ?_
  obtain ⟨r1, hq, hok⟩ := g_bnd1 hok
  refine cG (is := [0, 1, 2]) (wc := (wm_X8_of cA h0 h0_filter h0_filter_numbers h0_trial h0_kept h0_ways h0_spread h0_course h0_rows h0_changes h0_tape h0_bodies h0_causes h0_filter_words s0__hasImage s0__hasCauses s0__stepsDone s0_filter__all s0_filter__v s0_filter__loss s0_filter__result s0_filter__over s0_filter__heldAll s0_filter__heldRounded s0_filter_numbers)) (w1 := (wm_X8_of cA h0 h0_filter h0_filter_numbers h0_trial h0_kept h0_ways h0_spread h0_course h0_rows h0_changes h0_tape h0_bodies h0_causes h0_filter_words s0__hasImage s0__hasCauses s0__stepsDone s0_filter__all s0_filter__v s0_filter__loss s0_filter__result s0_filter__over s0_filter__heldAll s0_filter__heldRounded s0_filter_numbers)) (rv := (some (.int r1))) (st1 := [.int r1]) (va_runV (Ts := wsX8_next) (As := [.int x1]) (rest := []) ⟨hx, hb, hml, hown, hts⟩ (c_X8_isStart l G cA ts h0 h0_filter h0_filter_numbers h0_trial h0_kept h0_ways h0_spread h0_course h0_rows h0_changes h0_tape h0_bodies h0_causes h0_filter_words x1 s0__hasImage s0__hasCauses s0__stepsDone s0_filter__all s0_filter__v s0_filter__loss s0_filter__result s0_filter__over s0_filter__heldAll s0_filter__heldRounded s0_filter_numbers r1 hq s.heap.size) (cwV 1 hts gX8_next_X8_isStart rfl rfl rfl (by decide +kernel) ⟨Nat.le_of_ble_eq_true rfl, Nat.le_of_ble_eq_true rfl⟩) (pre_V (ci := 8) (q0 := 0) (is := [0, 1, 2]) rfl rfl hP hD hS hA hK hZ (by decide +kernel) (by rfl)) rfl rfl hl.1 rfl (by exact lv_room (Nat.le_of_ble_eq_true rfl)) dX8_next_2 ⟨Nat.le_refl _, Nat.le_refl _⟩) hP hD hS hA (by decide +kernel) (by rfl) (by rfl) rfl (fun H locs hP hD hS => ?_)
  have hP : va_P G vwCl (wm_X8_next cA h0 h0_filter h0_filter_numbers h0_filter_words h0_trial h0_trial_numbers h0_trial_words h0_kept h0_ways h0_spread h0_course h0_rows h0_changes h0_tape h0_bodies h0_causes s0__hasImage s0__hasCauses s0__stepsDone s0_filter__all s0_filter__v s0_filter__loss s0_filter__result s0_filter__over s0_filter__heldAll s0_filter__heldRounded s0_filter_numbers s0_filter_words s0_trial__all s0_trial__v s0_trial__loss s0_trial__result s0_trial__over s0_trial__heldAll s0_trial__heldRounded s0_trial_numbers s0_trial_words) H := hP
  have hD : va_D A (wm_X8_next cA h0 h0_filter h0_filter_numbers h0_filter_words h0_trial h0_trial_numbers h0_trial_words h0_kept h0_ways h0_spread h0_course h0_rows h0_changes h0_tape h0_bodies h0_causes s0__hasImage s0__hasCauses s0__stepsDone s0_filter__all s0_filter__v s0_filter__loss s0_filter__result s0_filter__over s0_filter__heldAll s0_filter__heldRounded s0_filter_numbers s0_filter_words s0_trial__all s0_trial__v s0_trial__loss s0_trial__result s0_trial__over s0_trial__heldAll s0_trial__heldRounded s0_trial_numbers s0_trial_words) := hD
  refine lv_if_eq (tgt := 15) hx hb dX8_next_5 (by decide) (fun c => ?_) (fun c => ?_)
  · replace hok := g_pos hok c
    refine lv_iconst (v := -1) hx hb dX8_next_15 (by decide) ?_
    cases hok
    exact cr_i hx hb hr hlocks hQ dX8_next_16 hP hS
  replace hok := g_neg hok c
  refine lv_iload_n hx hb dX8_next_8 rfl (lv_at hl 2 rfl) ?_
  obtain ⟨r2, hq, hok⟩ := g_bnd1 hok
  refine cG (is := []) (wc := (wm_X0_find cA)) (w1 := (wm_X0_find cA)) (rv := (some (.int r2))) (st1 := [.int r2]) (va_runS (Ts := wsX8_next) (As := [.int x2]) (rest := []) ⟨hx, hb, hml, hown, hts⟩ (c_X8_isInput l G cA ts x2 r2 hq H.size) (va_cwS 1 hts gX8_next_X8_isInput rfl rfl rfl (by decide +kernel) ⟨Nat.le_of_ble_eq_true rfl, Nat.le_of_ble_eq_true rfl⟩) (pre_S (is := []) hP hD hS hA hK hZ (by decide +kernel) (by rfl)) rfl rfl hl.1 rfl (by exact lv_room (Nat.le_of_ble_eq_true rfl)) dX8_next_9 ⟨Nat.le_refl _, Nat.le_refl _⟩) hP hD hS hA (by decide +kernel) (by rfl) (by rfl) rfl (fun H locs hP hD hS => ?_)
  have hP : va_P G vwCl (wm_X8_next cA h0 h0_filter h0_filter_numbers h0_filter_words h0_trial h0_trial_numbers h0_trial_words h0_kept h0_ways h0_spread h0_course h0_rows h0_changes h0_tape h0_bodies h0_causes s0__hasImage s0__hasCauses s0__stepsDone s0_filter__all s0_filter__v s0_filter__loss s0_filter__result s0_filter__over s0_filter__heldAll s0_filter__heldRounded s0_filter_numbers s0_filter_words s0_trial__all s0_trial__v s0_trial__loss s0_trial__result s0_trial__over s0_trial__heldAll s0_trial__heldRounded s0_trial_numbers s0_trial_words) H := hP
  have hD : va_D A (wm_X8_next cA h0 h0_filter h0_filter_numbers h0_filter_words h0_trial h0_trial_numbers h0_trial_words h0_kept h0_ways h0_spread h0_course h0_rows h0_changes h0_tape h0_bodies h0_causes s0__hasImage s0__hasCauses s0__stepsDone s0_filter__all s0_filter__v s0_filter__loss s0_filter__result s0_filter__over s0_filter__heldAll s0_filter__heldRounded s0_filter_numbers s0_filter_words s0_trial__all s0_trial__v s0_trial__loss s0_trial__result s0_trial__over s0_trial__heldAll s0_trial__heldRounded s0_trial_numbers s0_trial_words) := hD
  refine lv_if_ne (tgt := 17) hx hb dX8_next_12 (by decide) (fun c => ?_) (fun c => ?_)
  · replace hok := g_neg hok c
    refine lv_aload_n hx hb dX8_next_17 rfl (lv_at hl 0 rfl) ?_
    refine va_get (ci := 8) (v := .ref h0_trial) (C := RX8) (T := TX8) (N := 14) hx hb hts hinX8 hown hK hP 0 rfl rfl 1 (by decide) (hts _ (List.mem_of_getElem? (i := 1) rfl)) (fun _ h9 => h9) rfl dX8_next_18 ?_
    refine lv_aload_n hx hb dX8_next_21 rfl (lv_at hl 0 rfl) ?_
    refine va_get (ci := 8) (v := .ref h0_filter) (C := RX8) (T := TX8) (N := 14) hx hb hts hinX8 hown hK hP 0 rfl rfl 0 (by decide) (hts _ (List.mem_of_getElem? (i := 2) rfl)) (fun _ h9 => h9) rfl dX8_next_22 ?_
    obtain ⟨o3, o4, hq, hok⟩ := g_bnd2 hok
    refine cG (is := [4, 5, 6, 1, 2, 3]) (wc := (wm_X3_take cA h0_trial h0_trial_numbers h0_trial_words h0_filter h0_filter_numbers h0_filter_words s0_trial__all s0_trial__v s0_trial__loss s0_trial__result s0_trial__over s0_trial__heldAll s0_trial__heldRounded s0_trial_numbers s0_trial_words s0_filter__all s0_filter__v s0_filter__loss s0_filter__result s0_filter__over s0_filter__heldAll s0_filter__heldRounded s0_filter_numbers s0_filter_words)) (w1 := (wm_X3_take cA h0_trial h0_trial_numbers h0_trial_words h0_filter h0_filter_numbers h0_filter_words s0_trial__all s0_trial__v s0_trial__loss s0_trial__result s0_trial__over s0_trial__heldAll s0_trial__heldRounded o3 o4 s0_filter__all s0_filter__v s0_filter__loss s0_filter__result s0_filter__over s0_filter__heldAll s0_filter__heldRounded s0_filter_numbers s0_filter_words)) (rv := none) (st1 := []) (va_runV (Ts := wsX8_next) (As := [.ref h0_filter]) (rest := []) ⟨hx, hb, hml, hown, hts⟩ (c_X3_take l G cA ts h0_trial h0_trial_numbers h0_trial_words h0_filter h0_filter_numbers h0_filter_words s0_trial__all s0_trial__v s0_trial__loss s0_trial__result s0_trial__over s0_trial__heldAll s0_trial__heldRounded s0_trial_numbers s0_trial_words s0_filter__all s0_filter__v s0_filter__loss s0_filter__result s0_filter__over s0_filter__heldAll s0_filter__heldRounded s0_filter_numbers s0_filter_words o3 o4 hq H.size) (cwV 1 hts gX8_next_X3_take rfl rfl rfl (by decide +kernel) ⟨Nat.le_of_ble_eq_true rfl, Nat.le_of_ble_eq_true rfl⟩) (pre_V (ci := 3) (q0 := 4) (is := [4, 5, 6, 1, 2, 3]) rfl rfl hP hD hS hA hK hZ (by decide +kernel) (by rfl)) rfl rfl hl.1 rfl (by exact lv_room (Nat.le_of_ble_eq_true rfl)) dX8_next_25 ⟨Nat.le_refl _, Nat.le_refl _⟩) hP hD hS hA (by decide +kernel) (by rfl) (by rfl) rfl (fun H locs hP hD hS => ?_)
    have hP : va_P G vwCl (wm_X8_next cA h0 h0_filter h0_filter_numbers h0_filter_words h0_trial h0_trial_numbers h0_trial_words h0_kept h0_ways h0_spread h0_course h0_rows h0_changes h0_tape h0_bodies h0_causes s0__hasImage s0__hasCauses s0__stepsDone s0_filter__all s0_filter__v s0_filter__loss s0_filter__result s0_filter__over s0_filter__heldAll s0_filter__heldRounded s0_filter_numbers s0_filter_words s0_trial__all s0_trial__v s0_trial__loss s0_trial__result s0_trial__over s0_trial__heldAll s0_trial__heldRounded o3 o4) H := hP
    have hD : va_D A (wm_X8_next cA h0 h0_filter h0_filter_numbers h0_filter_words h0_trial h0_trial_numbers h0_trial_words h0_kept h0_ways h0_spread h0_course h0_rows h0_changes h0_tape h0_bodies h0_causes s0__hasImage s0__hasCauses s0__stepsDone s0_filter__all s0_filter__v s0_filter__loss s0_filter__result s0_filter__over s0_filter__heldAll s0_filter__heldRounded s0_filter_numbers s0_filter_words s0_trial__all s0_trial__v s0_trial__loss s0_trial__result s0_trial__over s0_trial__heldAll s0_trial__heldRounded o3 o4) := hD
    refine lv_aload_n hx hb dX8_next_28 rfl (lv_at hl 0 rfl) ?_
    refine va_get (ci := 8) (v := .ref h0_trial) (C := RX8) (T := TX8) (N := 14) hx hb hts hinX8 hown hK hP 0 rfl rfl 1 (by decide) (hts _ (List.mem_of_getElem? (i := 1) rfl)) (fun _ h9 => h9) rfl dX8_next_29 ?_
    refine lv_iload_n hx hb dX8_next_32 rfl (lv_at hl 1 rfl) ?_
    obtain ⟨o5, hq, hok⟩ := g_bnd1 hok
    refine cG (is := [4, 5, 6]) (wc := (wm_X3_gather cA h0_trial h0_trial_numbers h0_trial_words s0_trial__all s0_trial__v s0_trial__loss s0_trial__result s0_trial__over s0_trial__heldAll s0_trial__heldRounded o3 o4)) (w1 := (wm_X3_gather cA h0_trial h0_trial_numbers h0_trial_words s0_trial__all s0_trial__v s0_trial__loss s0_trial__result s0_trial__over s0_trial__heldAll s0_trial__heldRounded o3 o5)) (rv := none) (st1 := []) (va_runV (Ts := wsX8_next) (As := [.int x1]) (rest := []) ⟨hx, hb, hml, hown, hts⟩ (c_X3_unpack l G cA ts h0_trial h0_trial_numbers h0_trial_words x1 s0_trial__all s0_trial__v s0_trial__loss s0_trial__result s0_trial__over s0_trial__heldAll s0_trial__heldRounded o3 o4 o5 hq H.size) (cwV 1 hts gX8_next_X3_unpack rfl rfl rfl (by decide +kernel) ⟨Nat.le_of_ble_eq_true rfl, Nat.le_of_ble_eq_true rfl⟩) (pre_V (ci := 3) (q0 := 4) (is := [4, 5, 6]) rfl rfl hP hD hS hA hK hZ (by decide +kernel) (by rfl)) rfl rfl hl.1 rfl (by exact lv_room (Nat.le_of_ble_eq_true rfl)) dX8_next_33 ⟨Nat.le_refl _, Nat.le_refl _⟩) hP hD hS hA (by decide +kernel) (by rfl) (by rfl) rfl (fun H locs hP hD hS => ?_)
    have hP : va_P G vwCl (wm_X8_next cA h0 h0_filter h0_filter_numbers h0_filter_words h0_trial h0_trial_numbers h0_trial_words h0_kept h0_ways h0_spread h0_course h0_rows h0_changes h0_tape h0_bodies h0_causes s0__hasImage s0__hasCauses s0__stepsDone s0_filter__all s0_filter__v s0_filter__loss s0_filter__result s0_filter__over s0_filter__heldAll s0_filter__heldRounded s0_filter_numbers s0_filter_words s0_trial__all s0_trial__v s0_trial__loss s0_trial__result s0_trial__over s0_trial__heldAll s0_trial__heldRounded o3 o5) H := hP
    have hD : va_D A (wm_X8_next cA h0 h0_filter h0_filter_numbers h0_filter_words h0_trial h0_trial_numbers h0_trial_words h0_kept h0_ways h0_spread h0_course h0_rows h0_changes h0_tape h0_bodies h0_causes s0__hasImage s0__hasCauses s0__stepsDone s0_filter__all s0_filter__v s0_filter__loss s0_filter__result s0_filter__over s0_filter__heldAll s0_filter__heldRounded s0_filter_numbers s0_filter_words s0_trial__all s0_trial__v s0_trial__loss s0_trial__result s0_trial__over s0_trial__heldAll s0_trial__heldRounded o3 o5) := hD
    refine lv_aload_n hx hb dX8_next_36 rfl (lv_at hl 0 rfl) ?_
    refine va_get (ci := 8) (v := .ref h0_trial) (C := RX8) (T := TX8) (N := 14) hx hb hts hinX8 hown hK hP 0 rfl rfl 1 (by decide) (hts _ (List.mem_of_getElem? (i := 1) rfl)) (fun _ h9 => h9) rfl dX8_next_37 ?_
    refine lv_iload_n hx hb dX8_next_40 rfl (lv_at hl 2 rfl) ?_
    obtain ⟨o6, o7, o8, o9, o10, o11, o12, hq, hok⟩ := g_bnd7 hok
    refine cG (is := [4, 5, 6]) (wc := (wm_X3_gather cA h0_trial h0_trial_numbers h0_trial_words s0_trial__all s0_trial__v s0_trial__loss s0_trial__result s0_trial__over s0_trial__heldAll s0_trial__heldRounded o3 o5)) (w1 := (wm_X3_gather cA h0_trial h0_trial_numbers h0_trial_words o6 o7 o8 o9 o10 o11 o12 o3 o5)) (rv := none) (st1 := []) (va_runV (Ts := wsX8_next) (As := [.int x2]) (rest := []) ⟨hx, hb, hml, hown, hts⟩ (c_X3_weigh l G cA ts h0_trial h0_trial_numbers h0_trial_words x2 s0_trial__all s0_trial__v s0_trial__loss s0_trial__result s0_trial__over s0_trial__heldAll s0_trial__heldRounded o3 o5 o6 o7 o8 o9 o10 o11 o12 hq H.size) (cwV 1 hts gX8_next_X3_weigh rfl rfl rfl (by decide +kernel) ⟨Nat.le_of_ble_eq_true rfl, Nat.le_of_ble_eq_true rfl⟩) (pre_V (ci := 3) (q0 := 4) (is := [4, 5, 6]) rfl rfl hP hD hS hA hK hZ (by decide +kernel) (by rfl)) rfl rfl hl.1 rfl (by exact lv_room (Nat.le_of_ble_eq_true rfl)) dX8_next_41 ⟨Nat.le_refl _, Nat.le_refl _⟩) hP hD hS hA (by decide +kernel) (by rfl) (by rfl) rfl (fun H locs hP hD hS => ?_)
    have hP : va_P G vwCl (wm_X8_next cA h0 h0_filter h0_filter_numbers h0_filter_words h0_trial h0_trial_numbers h0_trial_words h0_kept h0_ways h0_spread h0_course h0_rows h0_changes h0_tape h0_bodies h0_causes s0__hasImage s0__hasCauses s0__stepsDone s0_filter__all s0_filter__v s0_filter__loss s0_filter__result s0_filter__over s0_filter__heldAll s0_filter__heldRounded s0_filter_numbers s0_filter_words o6 o7 o8 o9 o10 o11 o12 o3 o5) H := hP
    have hD : va_D A (wm_X8_next cA h0 h0_filter h0_filter_numbers h0_filter_words h0_trial h0_trial_numbers h0_trial_words h0_kept h0_ways h0_spread h0_course h0_rows h0_changes h0_tape h0_bodies h0_causes s0__hasImage s0__hasCauses s0__stepsDone s0_filter__all s0_filter__v s0_filter__loss s0_filter__result s0_filter__over s0_filter__heldAll s0_filter__heldRounded s0_filter_numbers s0_filter_words o6 o7 o8 o9 o10 o11 o12 o3 o5) := hD
    refine lv_aload_n hx hb dX8_next_44 rfl (lv_at hl 0 rfl) ?_
    refine va_get (ci := 8) (v := .ref h0_trial) (C := RX8) (T := TX8) (N := 14) hx hb hts hinX8 hown hK hP 0 rfl rfl 1 (by decide) (hts _ (List.mem_of_getElem? (i := 1) rfl)) (fun _ h9 => h9) rfl dX8_next_45 ?_
    refine va_get (ci := 3) (v := .int o9) (C := RX3) (T := TX3) (N := 9) hx hb hts hinX3 hown hK hP 4 rfl rfl 5 (by decide) (hts _ (List.mem_of_getElem? (i := 3) rfl)) (fun _ h9 => h9) rfl dX8_next_48 ?_
    refine lv_sipush (v := -1005) hx hb dX8_next_51 (by decide) ?_
    refine lv_icmp_ne (tgt := 62) hx hb dX8_next_54 (by decide) (fun c => ?_) (fun c => ?_)
    · replace hok := g_neg hok c
      refine lv_aload_n hx hb dX8_next_62 rfl (lv_at hl 0 rfl) ?_
      refine va_get (ci := 8) (v := .ref h0_trial) (C := RX8) (T := TX8) (N := 14) hx hb hts hinX8 hown hK hP 0 rfl rfl 1 (by decide) (hts _ (List.mem_of_getElem? (i := 1) rfl)) (fun _ h9 => h9) rfl dX8_next_63 ?_
      refine lv_iload_n hx hb dX8_next_66 rfl (lv_at hl 1 rfl) ?_
      obtain ⟨r13, hq, hok⟩ := g_bnd1 hok
      refine cG (is := [4, 5]) (wc := (wm_X3_unit cA h0_trial h0_trial_numbers h0_trial_words o6 o7 o8 o9 o10 o11 o12 o3)) (w1 := (wm_X3_unit cA h0_trial h0_trial_numbers h0_trial_words o6 o7 o8 o9 o10 o11 o12 o3)) (rv := (some (.int r13))) (st1 := [.int r13]) (va_runV (Ts := wsX8_next) (As := [.int x1]) (rest := []) ⟨hx, hb, hml, hown, hts⟩ (c_X3_codeBehind l G cA ts h0_trial h0_trial_numbers h0_trial_words x1 o6 o7 o8 o9 o10 o11 o12 o3 r13 hq H.size) (cwV 1 hts gX8_next_X3_codeBehind rfl rfl rfl (by decide +kernel) ⟨Nat.le_of_ble_eq_true rfl, Nat.le_of_ble_eq_true rfl⟩) (pre_V (ci := 3) (q0 := 4) (is := [4, 5]) rfl rfl hP hD hS hA hK hZ (by decide +kernel) (by rfl)) rfl rfl hl.1 rfl (by exact lv_room (Nat.le_of_ble_eq_true rfl)) dX8_next_67 ⟨Nat.le_refl _, Nat.le_refl _⟩) hP hD hS hA (by decide +kernel) (by rfl) (by rfl) rfl (fun H locs hP hD hS => ?_)
      have hP : va_P G vwCl (wm_X8_next cA h0 h0_filter h0_filter_numbers h0_filter_words h0_trial h0_trial_numbers h0_trial_words h0_kept h0_ways h0_spread h0_course h0_rows h0_changes h0_tape h0_bodies h0_causes s0__hasImage s0__hasCauses s0__stepsDone s0_filter__all s0_filter__v s0_filter__loss s0_filter__result s0_filter__over s0_filter__heldAll s0_filter__heldRounded s0_filter_numbers s0_filter_words o6 o7 o8 o9 o10 o11 o12 o3 o5) H := hP
      have hD : va_D A (wm_X8_next cA h0 h0_filter h0_filter_numbers h0_filter_words h0_trial h0_trial_numbers h0_trial_words h0_kept h0_ways h0_spread h0_course h0_rows h0_changes h0_tape h0_bodies h0_causes s0__hasImage s0__hasCauses s0__stepsDone s0_filter__all s0_filter__v s0_filter__loss s0_filter__result s0_filter__over s0_filter__heldAll s0_filter__heldRounded s0_filter_numbers s0_filter_words o6 o7 o8 o9 o10 o11 o12 o3 o5) := hD
      cases hok
      exact cr_i hx hb hr hlocks hQ dX8_next_70 hP hS
    replace hok := g_pos hok c
    refine lv_bipush (v := -5) hx hb dX8_next_57 (by decide) ?_
    refine lv_goto (tgt := 70) hx hb dX8_next_59 (by decide) ?_
    cases hok
    exact cr_i hx hb hr hlocks hQ dX8_next_70 hP hS
  replace hok := g_pos hok c
  refine lv_iconst (v := -1) hx hb dX8_next_15 (by decide) ?_
  cases hok
  exact cr_i hx hb hr hlocks hQ dX8_next_16 hP hS
set_option maxHeartbeats 40000000 in
set_option maxRecDepth 100000 in
theorem c_X8_leads (l : Launch) (G : va_G) (cA : Nat → ClassId) (ts : Nat → Nat) (h0 : Nat) (h0_filter : Nat) (h0_filter_numbers : Nat) (h0_filter_words : Nat) (h0_ways : Nat) (h0_ways_by : Nat) (h0_ways_by_numbers : Nat) (h0_ways_by_words : Nat) (h0_ways_onward : Nat) (h0_ways_tails : Nat) (h0_ways_comesTo : Nat) (h0_trial : Nat) (h0_kept : Nat) (h0_spread : Nat) (h0_course : Nat) (h0_rows : Nat) (h0_changes : Nat) (h0_tape : Nat) (h0_bodies : Nat) (h0_causes : Nat) (x1 : Int32) (x2 : Int32) (x3 : Int32) (s0__hasImage : Int32) (s0__hasCauses : Int32) (s0__stepsDone : Int32) (s0_filter__all : Int32) (s0_filter__v : Int32) (s0_filter__loss : Int32) (s0_filter__result : Int32) (s0_filter__over : Int32) (s0_filter__heldAll : Int32) (s0_filter__heldRounded : Int32) (s0_filter_numbers : Nat → Int32) (s0_filter_words : Nat → Int32) (s0_ways__size : Int32) (s0_ways__told : Int32) (s0_ways__whole : Int32) (s0_ways__anyStuck : Int32) (s0_ways__loudest : Int32) (s0_ways_by__all : Int32) (s0_ways_by__v : Int32) (s0_ways_by__loss : Int32) (s0_ways_by__result : Int32) (s0_ways_by__over : Int32) (s0_ways_by__heldAll : Int32) (s0_ways_by__heldRounded : Int32) (s0_ways_by_numbers : Nat → Int32) (s0_ways_by_words : Nat → Int32) (s0_ways_onward : Nat → Int32) (s0_ways_tails : Nat → Int32) (s0_ways_comesTo : Nat → Int32) (r : Int32) (o0_ways__size : Int32) (o0_ways__told : Int32) (o0_ways__whole : Int32) (o0_ways__anyStuck : Int32) (o0_ways__loudest : Int32) (o0_ways_by__all : Int32) (o0_ways_by__v : Int32) (o0_ways_by__loss : Int32) (o0_ways_by__result : Int32) (o0_ways_by__over : Int32) (o0_ways_by__heldAll : Int32) (o0_ways_by__heldRounded : Int32) (o0_ways_by_numbers : Nat → Int32) (o0_ways_by_words : Nat → Int32) (o0_ways_onward : Nat → Int32) (o0_ways_tails : Nat → Int32) (o0_ways_comesTo : Nat → Int32) (hok : fX8_leads x1 x2 x3 s0_filter_numbers s0_filter_words s0_ways__size s0_ways__told s0_ways__whole s0_ways__anyStuck s0_ways__loudest s0_ways_by__all s0_ways_by__v s0_ways_by__loss s0_ways_by__result s0_ways_by__over s0_ways_by__heldAll s0_ways_by__heldRounded s0_ways_by_numbers s0_ways_by_words s0_ways_onward s0_ways_tails s0_ways_comesTo = some (r, o0_ways__size, o0_ways__told, o0_ways__whole, o0_ways__anyStuck, o0_ways__loudest, o0_ways_by__all, o0_ways_by__v, o0_ways_by__loss, o0_ways_by__result, o0_ways_by__over, o0_ways_by__heldAll, o0_ways_by__heldRounded, o0_ways_by_numbers, o0_ways_by_words, o0_ways_onward, o0_ways_tails, o0_ways_comesTo)) : Ct l G cA ts yX8_leads wsX8_leads 7 172 [.ref h0, .int x1, .int x2, .int x3] (wm_X8_leads cA h0 h0_filter h0_filter_numbers h0_filter_words h0_ways h0_ways_by h0_ways_by_numbers h0_ways_by_words h0_ways_onward h0_ways_tails h0_ways_comesTo h0_trial h0_kept h0_spread h0_course h0_rows h0_changes h0_tape h0_bodies h0_causes s0__hasImage s0__hasCauses s0__stepsDone s0_filter__all s0_filter__v s0_filter__loss s0_filter__result s0_filter__over s0_filter__heldAll s0_filter__heldRounded s0_filter_numbers s0_filter_words s0_ways__size s0_ways__told s0_ways__whole s0_ways__anyStuck s0_ways__loudest s0_ways_by__all s0_ways_by__v s0_ways_by__loss s0_ways_by__result s0_ways_by__over s0_ways_by__heldAll s0_ways_by__heldRounded s0_ways_by_numbers s0_ways_by_words s0_ways_onward s0_ways_tails s0_ways_comesTo) (wm_X8_leads cA h0 h0_filter h0_filter_numbers h0_filter_words h0_ways h0_ways_by h0_ways_by_numbers h0_ways_by_words h0_ways_onward h0_ways_tails h0_ways_comesTo h0_trial h0_kept h0_spread h0_course h0_rows h0_changes h0_tape h0_bodies h0_causes s0__hasImage s0__hasCauses s0__stepsDone s0_filter__all s0_filter__v s0_filter__loss s0_filter__result s0_filter__over s0_filter__heldAll s0_filter__heldRounded s0_filter_numbers s0_filter_words o0_ways__size o0_ways__told o0_ways__whole o0_ways__anyStuck o0_ways__loudest o0_ways_by__all o0_ways_by__v o0_ways_by__loss o0_ways_by__result o0_ways_by__over o0_ways_by__heldAll o0_ways_by__heldRounded o0_ways_by_numbers o0_ways_by_words o0_ways_onward o0_ways_tails o0_ways_comesTo) (some (.int r)) := by
  refine Ct.intro (cc := cX8_leads) (maxL := 5) (ret := some .int) (by decide +kernel) rfl (Nat.le_of_ble_eq_true rfl) ?_
  intro p e s m ar below meth c A Q hx hb hr hml hown hlocks hts hK hZ hA hQ hP hD hS ls hl
  have hown : s.vm.findClass RX8 = some m.cls := hown
  have hinX8 : ∀ w ∈ wsX80, w ∈ wsX8_leads := fun _ h => List.mem_cons_of_mem _ (List.mem_append_left _ (List.mem_append_left _ (List.mem_append_right _ (h))))
  have hl : lv_has ls 5 [(0, .ref h0), (1, .int x1), (2, .int x2), (3, .int x3)] := hl
  have hP : va_P G vwCl (wm_X8_leads cA h0 h0_filter h0_filter_numbers h0_filter_words h0_ways h0_ways_by h0_ways_by_numbers h0_ways_by_words h0_ways_onward h0_ways_tails h0_ways_comesTo h0_trial h0_kept h0_spread h0_course h0_rows h0_changes h0_tape h0_bodies h0_causes s0__hasImage s0__hasCauses s0__stepsDone s0_filter__all s0_filter__v s0_filter__loss s0_filter__result s0_filter__over s0_filter__heldAll s0_filter__heldRounded s0_filter_numbers s0_filter_words s0_ways__size s0_ways__told s0_ways__whole s0_ways__anyStuck s0_ways__loudest s0_ways_by__all s0_ways_by__v s0_ways_by__loss s0_ways_by__result s0_ways_by__over s0_ways_by__heldAll s0_ways_by__heldRounded s0_ways_by_numbers s0_ways_by_words s0_ways_onward s0_ways_tails s0_ways_comesTo) s.heap := hP
  have hD : va_D A (wm_X8_leads cA h0 h0_filter h0_filter_numbers h0_filter_words h0_ways h0_ways_by h0_ways_by_numbers h0_ways_by_words h0_ways_onward h0_ways_tails h0_ways_comesTo h0_trial h0_kept h0_spread h0_course h0_rows h0_changes h0_tape h0_bodies h0_causes s0__hasImage s0__hasCauses s0__stepsDone s0_filter__all s0_filter__v s0_filter__loss s0_filter__result s0_filter__over s0_filter__heldAll s0_filter__heldRounded s0_filter_numbers s0_filter_words s0_ways__size s0_ways__told s0_ways__whole s0_ways__anyStuck s0_ways__loudest s0_ways_by__all s0_ways_by__v s0_ways_by__loss s0_ways_by__result s0_ways_by__over s0_ways_by__heldAll s0_ways_by__heldRounded s0_ways_by_numbers s0_ways_by_words s0_ways_onward s0_ways_tails s0_ways_comesTo) := hD
  unfold fX8_leads at hok
  refine lv_aload_n hx hb dX8_leads_0 rfl (lv_at hl 0 rfl) ?_
  refine lv_iload_n hx hb dX8_leads_1 rfl (lv_at hl 1 rfl) ?_
  obtain ⟨r1, hq, hok⟩ := g_bnd1 hok
  refine cG (is := [0, 1, 2]) (wc := (wm_X8_of cA h0 h0_filter h0_filter_numbers h0_trial h0_kept h0_ways h0_spread h0_course h0_rows h0_changes h0_tape h0_bodies h0_causes h0_filter_words s0__hasImage s0__hasCauses s0__stepsDone s0_filter__all s0_filter__v s0_filter__loss s0_filter__result s0_filter__over s0_filter__heldAll s0_filter__heldRounded s0_filter_numbers)) (w1 := (wm_X8_of cA h0 h0_filter h0_filter_numbers h0_trial h0_kept h0_ways h0_spread h0_course h0_rows h0_changes h0_tape h0_bodies h0_causes h0_filter_words s0__hasImage s0__hasCauses s0__stepsDone s0_filter__all s0_filter__v s0_filter__loss s0_filter__result s0_filter__over s0_filter__heldAll s0_filter__heldRounded s0_filter_numbers)) (rv := (some (.int r1))) (st1 := [.int r1]) (va_runV (Ts := wsX8_leads) (As := [.int x1]) (rest := []) ⟨hx, hb, hml, hown, hts⟩ (c_X8_isStart l G cA ts h0 h0_filter h0_filter_numbers h0_trial h0_kept h0_ways h0_spread h0_course h0_rows h0_changes h0_tape h0_bodies h0_causes h0_filter_words x1 s0__hasImage s0__hasCauses s0__stepsDone s0_filter__all s0_filter__v s0_filter__loss s0_filter__result s0_filter__over s0_filter__heldAll s0_filter__heldRounded s0_filter_numbers r1 hq s.heap.size) (cwV 1 hts gX8_leads_X8_isStart rfl rfl rfl (by decide +kernel) ⟨Nat.le_of_ble_eq_true rfl, Nat.le_of_ble_eq_true rfl⟩) (pre_V (ci := 8) (q0 := 0) (is := [0, 1, 2]) rfl rfl hP hD hS hA hK hZ (by decide +kernel) (by rfl)) rfl rfl hl.1 rfl (by exact lv_room (Nat.le_of_ble_eq_true rfl)) dX8_leads_2 ⟨Nat.le_refl _, Nat.le_refl _⟩) hP hD hS hA (by decide +kernel) (by rfl) (by rfl) rfl (fun H locs hP hD hS => ?_)
  have hP : va_P G vwCl (wm_X8_leads cA h0 h0_filter h0_filter_numbers h0_filter_words h0_ways h0_ways_by h0_ways_by_numbers h0_ways_by_words h0_ways_onward h0_ways_tails h0_ways_comesTo h0_trial h0_kept h0_spread h0_course h0_rows h0_changes h0_tape h0_bodies h0_causes s0__hasImage s0__hasCauses s0__stepsDone s0_filter__all s0_filter__v s0_filter__loss s0_filter__result s0_filter__over s0_filter__heldAll s0_filter__heldRounded s0_filter_numbers s0_filter_words s0_ways__size s0_ways__told s0_ways__whole s0_ways__anyStuck s0_ways__loudest s0_ways_by__all s0_ways_by__v s0_ways_by__loss s0_ways_by__result s0_ways_by__over s0_ways_by__heldAll s0_ways_by__heldRounded s0_ways_by_numbers s0_ways_by_words s0_ways_onward s0_ways_tails s0_ways_comesTo) H := hP
  have hD : va_D A (wm_X8_leads cA h0 h0_filter h0_filter_numbers h0_filter_words h0_ways h0_ways_by h0_ways_by_numbers h0_ways_by_words h0_ways_onward h0_ways_tails h0_ways_comesTo h0_trial h0_kept h0_spread h0_course h0_rows h0_changes h0_tape h0_bodies h0_causes s0__hasImage s0__hasCauses s0__stepsDone s0_filter__all s0_filter__v s0_filter__loss s0_filter__result s0_filter__over s0_filter__heldAll s0_filter__heldRounded s0_filter_numbers s0_filter_words s0_ways__size s0_ways__told s0_ways__whole s0_ways__anyStuck s0_ways__loudest s0_ways_by__all s0_ways_by__v s0_ways_by__loss s0_ways_by__result s0_ways_by__over s0_ways_by__heldAll s0_ways_by__heldRounded s0_ways_by_numbers s0_ways_by_words s0_ways_onward s0_ways_tails s0_ways_comesTo) := hD
  refine lv_if_eq (tgt := 24) hx hb dX8_leads_5 (by decide) (fun c => ?_) (fun c => ?_)
  · replace hok := g_pos hok c
    refine lv_iconst (v := -1) hx hb dX8_leads_24 (by decide) ?_
    obtain ⟨e, hok⟩ := g_pr hok
    try subst e
    obtain ⟨e, hok⟩ := g_pr hok
    try subst e
    obtain ⟨e, hok⟩ := g_pr hok
    try subst e
    obtain ⟨e, hok⟩ := g_pr hok
    try subst e
    obtain ⟨e, hok⟩ := g_pr hok
    try subst e
    obtain ⟨e, hok⟩ := g_pr hok
    try subst e
    obtain ⟨e, hok⟩ := g_pr hok
    try subst e
    obtain ⟨e, hok⟩ := g_pr hok
    try subst e
    obtain ⟨e, hok⟩ := g_pr hok
    try subst e
    obtain ⟨e, hok⟩ := g_pr hok
    try subst e
    obtain ⟨e, hok⟩ := g_pr hok
    try subst e
    obtain ⟨e, hok⟩ := g_pr hok
    try subst e
    obtain ⟨e, hok⟩ := g_pr hok
    try subst e
    obtain ⟨e, hok⟩ := g_pr hok
    try subst e
    obtain ⟨e, hok⟩ := g_pr hok
    try subst e
    obtain ⟨e, hok⟩ := g_pr hok
    try subst e
    obtain ⟨e, hok⟩ := g_pr hok
    try subst e
    cases hok
    exact cr_i hx hb hr hlocks hQ dX8_leads_25 hP hS
  replace hok := g_neg hok c
  refine lv_iload_n hx hb dX8_leads_8 rfl (lv_at hl 2 rfl) ?_
  obtain ⟨r2, hq, hok⟩ := g_bnd1 hok
  refine cG (is := []) (wc := (wm_X0_find cA)) (w1 := (wm_X0_find cA)) (rv := (some (.int r2))) (st1 := [.int r2]) (va_runS (Ts := wsX8_leads) (As := [.int x2]) (rest := []) ⟨hx, hb, hml, hown, hts⟩ (c_X8_isInput l G cA ts x2 r2 hq H.size) (va_cwS 1 hts gX8_leads_X8_isInput rfl rfl rfl (by decide +kernel) ⟨Nat.le_of_ble_eq_true rfl, Nat.le_of_ble_eq_true rfl⟩) (pre_S (is := []) hP hD hS hA hK hZ (by decide +kernel) (by rfl)) rfl rfl hl.1 rfl (by exact lv_room (Nat.le_of_ble_eq_true rfl)) dX8_leads_9 ⟨Nat.le_refl _, Nat.le_refl _⟩) hP hD hS hA (by decide +kernel) (by rfl) (by rfl) rfl (fun H locs hP hD hS => ?_)
  have hP : va_P G vwCl (wm_X8_leads cA h0 h0_filter h0_filter_numbers h0_filter_words h0_ways h0_ways_by h0_ways_by_numbers h0_ways_by_words h0_ways_onward h0_ways_tails h0_ways_comesTo h0_trial h0_kept h0_spread h0_course h0_rows h0_changes h0_tape h0_bodies h0_causes s0__hasImage s0__hasCauses s0__stepsDone s0_filter__all s0_filter__v s0_filter__loss s0_filter__result s0_filter__over s0_filter__heldAll s0_filter__heldRounded s0_filter_numbers s0_filter_words s0_ways__size s0_ways__told s0_ways__whole s0_ways__anyStuck s0_ways__loudest s0_ways_by__all s0_ways_by__v s0_ways_by__loss s0_ways_by__result s0_ways_by__over s0_ways_by__heldAll s0_ways_by__heldRounded s0_ways_by_numbers s0_ways_by_words s0_ways_onward s0_ways_tails s0_ways_comesTo) H := hP
  have hD : va_D A (wm_X8_leads cA h0 h0_filter h0_filter_numbers h0_filter_words h0_ways h0_ways_by h0_ways_by_numbers h0_ways_by_words h0_ways_onward h0_ways_tails h0_ways_comesTo h0_trial h0_kept h0_spread h0_course h0_rows h0_changes h0_tape h0_bodies h0_causes s0__hasImage s0__hasCauses s0__stepsDone s0_filter__all s0_filter__v s0_filter__loss s0_filter__result s0_filter__over s0_filter__heldAll s0_filter__heldRounded s0_filter_numbers s0_filter_words s0_ways__size s0_ways__told s0_ways__whole s0_ways__anyStuck s0_ways__loudest s0_ways_by__all s0_ways_by__v s0_ways_by__loss s0_ways_by__result s0_ways_by__over s0_ways_by__heldAll s0_ways_by__heldRounded s0_ways_by_numbers s0_ways_by_words s0_ways_onward s0_ways_tails s0_ways_comesTo) := hD
  refine lv_if_eq (tgt := 24) hx hb dX8_leads_12 (by decide) (fun c => ?_) (fun c => ?_)
  · replace hok := g_pos hok c
    refine lv_iconst (v := -1) hx hb dX8_leads_24 (by decide) ?_
    obtain ⟨e, hok⟩ := g_pr hok
    try subst e
    obtain ⟨e, hok⟩ := g_pr hok
    try subst e
    obtain ⟨e, hok⟩ := g_pr hok
    try subst e
    obtain ⟨e, hok⟩ := g_pr hok
    try subst e
    obtain ⟨e, hok⟩ := g_pr hok
    try subst e
    obtain ⟨e, hok⟩ := g_pr hok
    try subst e
    obtain ⟨e, hok⟩ := g_pr hok
    try subst e
    obtain ⟨e, hok⟩ := g_pr hok
    try subst e
    obtain ⟨e, hok⟩ := g_pr hok
    try subst e
    obtain ⟨e, hok⟩ := g_pr hok
    try subst e
    obtain ⟨e, hok⟩ := g_pr hok
    try subst e
    obtain ⟨e, hok⟩ := g_pr hok
    try subst e
    obtain ⟨e, hok⟩ := g_pr hok
    try subst e
    obtain ⟨e, hok⟩ := g_pr hok
    try subst e
    obtain ⟨e, hok⟩ := g_pr hok
    try subst e
    obtain ⟨e, hok⟩ := g_pr hok
    try subst e
    obtain ⟨e, hok⟩ := g_pr hok
    try subst e
    cases hok
    exact cr_i hx hb hr hlocks hQ dX8_leads_25 hP hS
  replace hok := g_neg hok c
  refine lv_iload_n hx hb dX8_leads_15 rfl (lv_at hl 3 rfl) ?_
  refine lv_if_lt (tgt := 24) hx hb dX8_leads_16 (by decide) (fun c => ?_) (fun c => ?_)
  · replace hok := g_pos hok c
    refine lv_iconst (v := -1) hx hb dX8_leads_24 (by decide) ?_
    obtain ⟨e, hok⟩ := g_pr hok
    try subst e
    obtain ⟨e, hok⟩ := g_pr hok
    try subst e
    obtain ⟨e, hok⟩ := g_pr hok
    try subst e
    obtain ⟨e, hok⟩ := g_pr hok
    try subst e
    obtain ⟨e, hok⟩ := g_pr hok
    try subst e
    obtain ⟨e, hok⟩ := g_pr hok
    try subst e
    obtain ⟨e, hok⟩ := g_pr hok
    try subst e
    obtain ⟨e, hok⟩ := g_pr hok
    try subst e
    obtain ⟨e, hok⟩ := g_pr hok
    try subst e
    obtain ⟨e, hok⟩ := g_pr hok
    try subst e
    obtain ⟨e, hok⟩ := g_pr hok
    try subst e
    obtain ⟨e, hok⟩ := g_pr hok
    try subst e
    obtain ⟨e, hok⟩ := g_pr hok
    try subst e
    obtain ⟨e, hok⟩ := g_pr hok
    try subst e
    obtain ⟨e, hok⟩ := g_pr hok
    try subst e
    obtain ⟨e, hok⟩ := g_pr hok
    try subst e
    obtain ⟨e, hok⟩ := g_pr hok
    try subst e
    cases hok
    exact cr_i hx hb hr hlocks hQ dX8_leads_25 hP hS
  replace hok := g_neg hok c
  refine lv_iload_n hx hb dX8_leads_19 rfl (lv_at hl 3 rfl) ?_
  refine lv_iconst (v := 2) hx hb dX8_leads_20 (by decide) ?_
  refine lv_icmp_le (tgt := 26) hx hb dX8_leads_21 (by decide) (fun c => ?_) (fun c => ?_)
  · replace hok := g_pos hok c
    refine lv_aload_n hx hb dX8_leads_26 rfl (lv_at hl 0 rfl) ?_
    refine va_get (ci := 8) (v := .ref h0_ways) (C := RX8) (T := TX8) (N := 14) hx hb hts hinX8 hown hK hP 0 rfl rfl 4 (by decide) (hts _ (List.mem_of_getElem? (i := 1) rfl)) (fun _ h9 => h9) rfl dX8_leads_27 ?_
    refine lv_aload_n hx hb dX8_leads_30 rfl (lv_at hl 0 rfl) ?_
    refine va_get (ci := 8) (v := .ref h0_filter) (C := RX8) (T := TX8) (N := 14) hx hb hts hinX8 hown hK hP 0 rfl rfl 0 (by decide) (hts _ (List.mem_of_getElem? (i := 2) rfl)) (fun _ h9 => h9) rfl dX8_leads_31 ?_
    refine lv_iload_n hx hb dX8_leads_34 rfl (lv_at hl 2 rfl) ?_
    obtain ⟨o3, o4, o5, o6, o7, o8, o9, o10, o11, o12, o13, o14, o15, o16, o17, o18, o19, hq, hok⟩ := g_bnd17 hok
    refine cG (is := [4, 5, 6, 7, 8, 9, 10, 1, 2, 3]) (wc := (wm_X7_draw cA h0_ways h0_ways_by h0_ways_by_numbers h0_ways_by_words h0_ways_onward h0_ways_tails h0_ways_comesTo h0_filter h0_filter_numbers h0_filter_words s0_ways__size s0_ways__told s0_ways__whole s0_ways__anyStuck s0_ways__loudest s0_ways_by__all s0_ways_by__v s0_ways_by__loss s0_ways_by__result s0_ways_by__over s0_ways_by__heldAll s0_ways_by__heldRounded s0_ways_by_numbers s0_ways_by_words s0_ways_onward s0_ways_tails s0_ways_comesTo s0_filter__all s0_filter__v s0_filter__loss s0_filter__result s0_filter__over s0_filter__heldAll s0_filter__heldRounded s0_filter_numbers s0_filter_words)) (w1 := (wm_X7_draw cA h0_ways h0_ways_by h0_ways_by_numbers h0_ways_by_words h0_ways_onward h0_ways_tails h0_ways_comesTo h0_filter h0_filter_numbers h0_filter_words o3 o4 o5 o6 o7 o8 o9 o10 o11 o12 o13 o14 o15 o16 o17 o18 o19 s0_filter__all s0_filter__v s0_filter__loss s0_filter__result s0_filter__over s0_filter__heldAll s0_filter__heldRounded s0_filter_numbers s0_filter_words)) (rv := none) (st1 := []) (va_runV (Ts := wsX8_leads) (As := [.ref h0_filter, .int x2]) (rest := []) ⟨hx, hb, hml, hown, hts⟩ (c_X7_draw l G cA ts h0_ways h0_ways_by h0_ways_by_numbers h0_ways_by_words h0_ways_onward h0_ways_tails h0_ways_comesTo h0_filter h0_filter_numbers h0_filter_words x2 s0_ways__size s0_ways__told s0_ways__whole s0_ways__anyStuck s0_ways__loudest s0_ways_by__all s0_ways_by__v s0_ways_by__loss s0_ways_by__result s0_ways_by__over s0_ways_by__heldAll s0_ways_by__heldRounded s0_ways_by_numbers s0_ways_by_words s0_ways_onward s0_ways_tails s0_ways_comesTo s0_filter__all s0_filter__v s0_filter__loss s0_filter__result s0_filter__over s0_filter__heldAll s0_filter__heldRounded s0_filter_numbers s0_filter_words o3 o4 o5 o6 o7 o8 o9 o10 o11 o12 o13 o14 o15 o16 o17 o18 o19 hq H.size) (cwV 2 hts gX8_leads_X7_draw rfl rfl rfl (by decide +kernel) ⟨Nat.le_of_ble_eq_true rfl, Nat.le_of_ble_eq_true rfl⟩) (pre_V (ci := 7) (q0 := 4) (is := [4, 5, 6, 7, 8, 9, 10, 1, 2, 3]) rfl rfl hP hD hS hA hK hZ (by decide +kernel) (by rfl)) rfl rfl hl.1 rfl (by exact lv_room (Nat.le_of_ble_eq_true rfl)) dX8_leads_35 ⟨Nat.le_refl _, Nat.le_refl _⟩) hP hD hS hA (by decide +kernel) (by rfl) (by rfl) rfl (fun H locs hP hD hS => ?_)
    obtain ⟨hP, hD⟩ : va_P G vwCl (wm_X8_leads cA h0 h0_filter h0_filter_numbers h0_filter_words h0_ways h0_ways_by h0_ways_by_numbers h0_ways_by_words h0_ways_onward h0_ways_tails h0_ways_comesTo h0_trial h0_kept h0_spread h0_course h0_rows h0_changes h0_tape h0_bodies h0_causes s0__hasImage s0__hasCauses s0__stepsDone s0_filter__all s0_filter__v s0_filter__loss s0_filter__result s0_filter__over s0_filter__heldAll s0_filter__heldRounded s0_filter_numbers s0_filter_words o3 o4 o5 o6 o7 o8 o9 o10 o11 o12 o13 o14 o15 o16 o17 o18 o19) H ∧ va_D A (wm_X8_leads cA h0 h0_filter h0_filter_numbers h0_filter_words h0_ways h0_ways_by h0_ways_by_numbers h0_ways_by_words h0_ways_onward h0_ways_tails h0_ways_comesTo h0_trial h0_kept h0_spread h0_course h0_rows h0_changes h0_tape h0_bodies h0_causes s0__hasImage s0__hasCauses s0__stepsDone s0_filter__all s0_filter__v s0_filter__loss s0_filter__result s0_filter__over s0_filter__heldAll s0_filter__heldRounded s0_filter_numbers s0_filter_words o3 o4 o5 o6 o7 o8 o9 o10 o11 o12 o13 o14 o15 o16 o17 o18 o19) := PD_eq hP hD (rp_eq (js := [0]) 11 (by decide +kernel) rfl rfl (by rfl) (by rfl) (by decide +kernel))
    refine lv_aload_n hx hb dX8_leads_38 rfl (lv_at hl 0 rfl) ?_
    refine va_get (ci := 8) (v := .ref h0_ways) (C := RX8) (T := TX8) (N := 14) hx hb hts hinX8 hown hK hP 0 rfl rfl 4 (by decide) (hts _ (List.mem_of_getElem? (i := 1) rfl)) (fun _ h9 => h9) rfl dX8_leads_39 ?_
    refine lv_iload_n hx hb dX8_leads_42 rfl (lv_at hl 1 rfl) ?_
    obtain ⟨r20, hq, hok⟩ := g_bnd1 hok
    refine cG (is := [4, 10]) (wc := (wm_X7_cycleFrom cA h0_ways h0_ways_comesTo h0_ways_by h0_ways_onward h0_ways_tails o3 o4 o5 o6 o7 o19)) (w1 := (wm_X7_cycleFrom cA h0_ways h0_ways_comesTo h0_ways_by h0_ways_onward h0_ways_tails o3 o4 o5 o6 o7 o19)) (rv := (some (.int r20))) (st1 := [.int r20]) (va_runV (Ts := wsX8_leads) (As := [.int x1]) (rest := []) ⟨hx, hb, hml, hown, hts⟩ (c_X7_cycleFrom l G cA ts h0_ways h0_ways_comesTo h0_ways_by h0_ways_onward h0_ways_tails x1 o3 o4 o5 o6 o7 o19 r20 hq H.size) (cwV 1 hts gX8_leads_X7_cycleFrom rfl rfl rfl (by decide +kernel) ⟨Nat.le_of_ble_eq_true rfl, Nat.le_of_ble_eq_true rfl⟩) (pre_V (ci := 7) (q0 := 4) (is := [4, 10]) rfl rfl hP hD hS hA hK hZ (by decide +kernel) (by rfl)) rfl rfl hl.1 rfl (by exact lv_room (Nat.le_of_ble_eq_true rfl)) dX8_leads_43 ⟨Nat.le_refl _, Nat.le_refl _⟩) hP hD hS hA (by decide +kernel) (by rfl) (by rfl) rfl (fun H locs hP hD hS => ?_)
    have hP : va_P G vwCl (wm_X8_leads cA h0 h0_filter h0_filter_numbers h0_filter_words h0_ways h0_ways_by h0_ways_by_numbers h0_ways_by_words h0_ways_onward h0_ways_tails h0_ways_comesTo h0_trial h0_kept h0_spread h0_course h0_rows h0_changes h0_tape h0_bodies h0_causes s0__hasImage s0__hasCauses s0__stepsDone s0_filter__all s0_filter__v s0_filter__loss s0_filter__result s0_filter__over s0_filter__heldAll s0_filter__heldRounded s0_filter_numbers s0_filter_words o3 o4 o5 o6 o7 o8 o9 o10 o11 o12 o13 o14 o15 o16 o17 o18 o19) H := hP
    have hD : va_D A (wm_X8_leads cA h0 h0_filter h0_filter_numbers h0_filter_words h0_ways h0_ways_by h0_ways_by_numbers h0_ways_by_words h0_ways_onward h0_ways_tails h0_ways_comesTo h0_trial h0_kept h0_spread h0_course h0_rows h0_changes h0_tape h0_bodies h0_causes s0__hasImage s0__hasCauses s0__stepsDone s0_filter__all s0_filter__v s0_filter__loss s0_filter__result s0_filter__over s0_filter__heldAll s0_filter__heldRounded s0_filter_numbers s0_filter_words o3 o4 o5 o6 o7 o8 o9 o10 o11 o12 o13 o14 o15 o16 o17 o18 o19) := hD
    refine lv_istore (lv' := [(4, .int r20), (0, .ref h0), (1, .int x1), (2, .int x2), (3, .int x3)]) hx hb dX8_leads_46 hl (by decide) rfl (fun ls hl => ?_)
    refine lv_iload hx hb dX8_leads_48 (lv_at hl 0 rfl) ?_
    refine lv_if_ge (tgt := 56) hx hb dX8_leads_50 (by decide) (fun c => ?_) (fun c => ?_)
    · replace hok := g_pos hok c
      refine lv_iload_n hx hb dX8_leads_56 rfl (lv_at hl 4 rfl) ?_
      by_cases c0 : x3 = 0
      · replace hok := g_pos hok c0
        have e9 : (x3).toInt = 0 := by rw [c0]; rfl
        refine lv_lookup (tgt := 84) (off := 27) hx hb dX8_leads_57 (by decide) (by rw [e9]; rfl) (by decide) ?_
        refine lv_aload_n hx hb dX8_leads_84 rfl (lv_at hl 1 rfl) ?_
        refine va_get (ci := 8) (v := .ref h0_ways) (C := RX8) (T := TX8) (N := 14) hx hb hts hinX8 hown hK hP 0 rfl rfl 4 (by decide) (hts _ (List.mem_of_getElem? (i := 1) rfl)) (fun _ h9 => h9) rfl dX8_leads_85 ?_
        refine lv_iload_n hx hb dX8_leads_88 rfl (lv_at hl 2 rfl) ?_
        obtain ⟨r21, hq, hok⟩ := g_bnd1 hok
        refine cG (is := [4, 9]) (wc := (wm_X7_tailFrom cA h0_ways h0_ways_tails h0_ways_by h0_ways_onward h0_ways_comesTo o3 o4 o5 o6 o7 o18)) (w1 := (wm_X7_tailFrom cA h0_ways h0_ways_tails h0_ways_by h0_ways_onward h0_ways_comesTo o3 o4 o5 o6 o7 o18)) (rv := (some (.int r21))) (st1 := [.int r21]) (va_runV (Ts := wsX8_leads) (As := [.int x1]) (rest := []) ⟨hx, hb, hml, hown, hts⟩ (c_X7_tailFrom l G cA ts h0_ways h0_ways_tails h0_ways_by h0_ways_onward h0_ways_comesTo x1 o3 o4 o5 o6 o7 o18 r21 hq H.size) (cwV 1 hts gX8_leads_X7_tailFrom rfl rfl rfl (by decide +kernel) ⟨Nat.le_of_ble_eq_true rfl, Nat.le_of_ble_eq_true rfl⟩) (pre_V (ci := 7) (q0 := 4) (is := [4, 9]) rfl rfl hP hD hS hA hK hZ (by decide +kernel) (by rfl)) rfl rfl hl.1 rfl (by exact lv_room (Nat.le_of_ble_eq_true rfl)) dX8_leads_89 ⟨Nat.le_refl _, Nat.le_refl _⟩) hP hD hS hA (by decide +kernel) (by rfl) (by rfl) rfl (fun H locs hP hD hS => ?_)
        have hP : va_P G vwCl (wm_X8_leads cA h0 h0_filter h0_filter_numbers h0_filter_words h0_ways h0_ways_by h0_ways_by_numbers h0_ways_by_words h0_ways_onward h0_ways_tails h0_ways_comesTo h0_trial h0_kept h0_spread h0_course h0_rows h0_changes h0_tape h0_bodies h0_causes s0__hasImage s0__hasCauses s0__stepsDone s0_filter__all s0_filter__v s0_filter__loss s0_filter__result s0_filter__over s0_filter__heldAll s0_filter__heldRounded s0_filter_numbers s0_filter_words o3 o4 o5 o6 o7 o8 o9 o10 o11 o12 o13 o14 o15 o16 o17 o18 o19) H := hP
        have hD : va_D A (wm_X8_leads cA h0 h0_filter h0_filter_numbers h0_filter_words h0_ways h0_ways_by h0_ways_by_numbers h0_ways_by_words h0_ways_onward h0_ways_tails h0_ways_comesTo h0_trial h0_kept h0_spread h0_course h0_rows h0_changes h0_tape h0_bodies h0_causes s0__hasImage s0__hasCauses s0__stepsDone s0_filter__all s0_filter__v s0_filter__loss s0_filter__result s0_filter__over s0_filter__heldAll s0_filter__heldRounded s0_filter_numbers s0_filter_words o3 o4 o5 o6 o7 o8 o9 o10 o11 o12 o13 o14 o15 o16 o17 o18 o19) := hD
        obtain ⟨e, hok⟩ := g_pr hok
        try subst e
        obtain ⟨e, hok⟩ := g_pr hok
        try subst e
        obtain ⟨e, hok⟩ := g_pr hok
        try subst e
        obtain ⟨e, hok⟩ := g_pr hok
        try subst e
        obtain ⟨e, hok⟩ := g_pr hok
        try subst e
        obtain ⟨e, hok⟩ := g_pr hok
        try subst e
        obtain ⟨e, hok⟩ := g_pr hok
        try subst e
        obtain ⟨e, hok⟩ := g_pr hok
        try subst e
        obtain ⟨e, hok⟩ := g_pr hok
        try subst e
        obtain ⟨e, hok⟩ := g_pr hok
        try subst e
        obtain ⟨e, hok⟩ := g_pr hok
        try subst e
        obtain ⟨e, hok⟩ := g_pr hok
        try subst e
        obtain ⟨e, hok⟩ := g_pr hok
        try subst e
        obtain ⟨e, hok⟩ := g_pr hok
        try subst e
        obtain ⟨e, hok⟩ := g_pr hok
        try subst e
        obtain ⟨e, hok⟩ := g_pr hok
        try subst e
        obtain ⟨e, hok⟩ := g_pr hok
        try subst e
        cases hok
        exact cr_i hx hb hr hlocks hQ dX8_leads_92 hP hS
      replace hok := g_neg hok c0
      by_cases c1 : x3 = 1
      · replace hok := g_pos hok c1
        have e9 : (x3).toInt = 1 := by rw [c1]; rfl
        refine lv_lookup (tgt := 93) (off := 36) hx hb dX8_leads_57 (by decide) (by rw [e9]; rfl) (by decide) ?_
        refine lv_aload_n hx hb dX8_leads_93 rfl (lv_at hl 1 rfl) ?_
        refine va_get (ci := 8) (v := .ref h0_ways) (C := RX8) (T := TX8) (N := 14) hx hb hts hinX8 hown hK hP 0 rfl rfl 4 (by decide) (hts _ (List.mem_of_getElem? (i := 1) rfl)) (fun _ h9 => h9) rfl dX8_leads_94 ?_
        refine lv_iload hx hb dX8_leads_97 (lv_at hl 0 rfl) ?_
        obtain ⟨r22, hq, hok⟩ := g_bnd1 hok
        refine cG (is := [4, 9, 10]) (wc := (wm_X7_isOnCycle cA h0_ways h0_ways_tails h0_ways_comesTo h0_ways_by h0_ways_onward o3 o4 o5 o6 o7 o18 o19)) (w1 := (wm_X7_isOnCycle cA h0_ways h0_ways_tails h0_ways_comesTo h0_ways_by h0_ways_onward o3 o4 o5 o6 o7 o18 o19)) (rv := (some (.int r22))) (st1 := [.int r22]) (va_runV (Ts := wsX8_leads) (As := [.int r20]) (rest := []) ⟨hx, hb, hml, hown, hts⟩ (c_X7_periodOf l G cA ts h0_ways h0_ways_tails h0_ways_comesTo h0_ways_by h0_ways_onward r20 o3 o4 o5 o6 o7 o18 o19 r22 hq H.size) (cwV 1 hts gX8_leads_X7_periodOf rfl rfl rfl (by decide +kernel) ⟨Nat.le_of_ble_eq_true rfl, Nat.le_of_ble_eq_true rfl⟩) (pre_V (ci := 7) (q0 := 4) (is := [4, 9, 10]) rfl rfl hP hD hS hA hK hZ (by decide +kernel) (by rfl)) rfl rfl hl.1 rfl (by exact lv_room (Nat.le_of_ble_eq_true rfl)) dX8_leads_99 ⟨Nat.le_refl _, Nat.le_refl _⟩) hP hD hS hA (by decide +kernel) (by rfl) (by rfl) rfl (fun H locs hP hD hS => ?_)
        have hP : va_P G vwCl (wm_X8_leads cA h0 h0_filter h0_filter_numbers h0_filter_words h0_ways h0_ways_by h0_ways_by_numbers h0_ways_by_words h0_ways_onward h0_ways_tails h0_ways_comesTo h0_trial h0_kept h0_spread h0_course h0_rows h0_changes h0_tape h0_bodies h0_causes s0__hasImage s0__hasCauses s0__stepsDone s0_filter__all s0_filter__v s0_filter__loss s0_filter__result s0_filter__over s0_filter__heldAll s0_filter__heldRounded s0_filter_numbers s0_filter_words o3 o4 o5 o6 o7 o8 o9 o10 o11 o12 o13 o14 o15 o16 o17 o18 o19) H := hP
        have hD : va_D A (wm_X8_leads cA h0 h0_filter h0_filter_numbers h0_filter_words h0_ways h0_ways_by h0_ways_by_numbers h0_ways_by_words h0_ways_onward h0_ways_tails h0_ways_comesTo h0_trial h0_kept h0_spread h0_course h0_rows h0_changes h0_tape h0_bodies h0_causes s0__hasImage s0__hasCauses s0__stepsDone s0_filter__all s0_filter__v s0_filter__loss s0_filter__result s0_filter__over s0_filter__heldAll s0_filter__heldRounded s0_filter_numbers s0_filter_words o3 o4 o5 o6 o7 o8 o9 o10 o11 o12 o13 o14 o15 o16 o17 o18 o19) := hD
        obtain ⟨e, hok⟩ := g_pr hok
        try subst e
        obtain ⟨e, hok⟩ := g_pr hok
        try subst e
        obtain ⟨e, hok⟩ := g_pr hok
        try subst e
        obtain ⟨e, hok⟩ := g_pr hok
        try subst e
        obtain ⟨e, hok⟩ := g_pr hok
        try subst e
        obtain ⟨e, hok⟩ := g_pr hok
        try subst e
        obtain ⟨e, hok⟩ := g_pr hok
        try subst e
        obtain ⟨e, hok⟩ := g_pr hok
        try subst e
        obtain ⟨e, hok⟩ := g_pr hok
        try subst e
        obtain ⟨e, hok⟩ := g_pr hok
        try subst e
        obtain ⟨e, hok⟩ := g_pr hok
        try subst e
        obtain ⟨e, hok⟩ := g_pr hok
        try subst e
        obtain ⟨e, hok⟩ := g_pr hok
        try subst e
        obtain ⟨e, hok⟩ := g_pr hok
        try subst e
        obtain ⟨e, hok⟩ := g_pr hok
        try subst e
        obtain ⟨e, hok⟩ := g_pr hok
        try subst e
        obtain ⟨e, hok⟩ := g_pr hok
        try subst e
        cases hok
        exact cr_i hx hb hr hlocks hQ dX8_leads_102 hP hS
      replace hok := g_neg hok c1
      refine lv_lookup (tgt := 103) (off := 46) hx hb dX8_leads_57 (by decide) (by refine (lv_osw c0 rfl).trans ?_; refine (lv_osw c1 rfl).trans ?_; rfl) (by decide) ?_
      refine lv_aload_n hx hb dX8_leads_103 rfl (lv_at hl 1 rfl) ?_
      refine va_get (ci := 8) (v := .ref h0_ways) (C := RX8) (T := TX8) (N := 14) hx hb hts hinX8 hown hK hP 0 rfl rfl 4 (by decide) (hts _ (List.mem_of_getElem? (i := 1) rfl)) (fun _ h9 => h9) rfl dX8_leads_104 ?_
      refine lv_iload hx hb dX8_leads_107 (lv_at hl 0 rfl) ?_
      obtain ⟨r23, hq, hok⟩ := g_bnd1 hok
      refine cG (is := [4, 10]) (wc := (wm_X7_cycleFrom cA h0_ways h0_ways_comesTo h0_ways_by h0_ways_onward h0_ways_tails o3 o4 o5 o6 o7 o19)) (w1 := (wm_X7_cycleFrom cA h0_ways h0_ways_comesTo h0_ways_by h0_ways_onward h0_ways_tails o3 o4 o5 o6 o7 o19)) (rv := (some (.int r23))) (st1 := [.int r23]) (va_runV (Ts := wsX8_leads) (As := [.int r20]) (rest := []) ⟨hx, hb, hml, hown, hts⟩ (c_X7_numberOf l G cA ts h0_ways h0_ways_comesTo h0_ways_by h0_ways_onward h0_ways_tails r20 o3 o4 o5 o6 o7 o19 r23 hq H.size) (cwV 1 hts gX8_leads_X7_numberOf rfl rfl rfl (by decide +kernel) ⟨Nat.le_of_ble_eq_true rfl, Nat.le_of_ble_eq_true rfl⟩) (pre_V (ci := 7) (q0 := 4) (is := [4, 10]) rfl rfl hP hD hS hA hK hZ (by decide +kernel) (by rfl)) rfl rfl hl.1 rfl (by exact lv_room (Nat.le_of_ble_eq_true rfl)) dX8_leads_109 ⟨Nat.le_refl _, Nat.le_refl _⟩) hP hD hS hA (by decide +kernel) (by rfl) (by rfl) rfl (fun H locs hP hD hS => ?_)
      have hP : va_P G vwCl (wm_X8_leads cA h0 h0_filter h0_filter_numbers h0_filter_words h0_ways h0_ways_by h0_ways_by_numbers h0_ways_by_words h0_ways_onward h0_ways_tails h0_ways_comesTo h0_trial h0_kept h0_spread h0_course h0_rows h0_changes h0_tape h0_bodies h0_causes s0__hasImage s0__hasCauses s0__stepsDone s0_filter__all s0_filter__v s0_filter__loss s0_filter__result s0_filter__over s0_filter__heldAll s0_filter__heldRounded s0_filter_numbers s0_filter_words o3 o4 o5 o6 o7 o8 o9 o10 o11 o12 o13 o14 o15 o16 o17 o18 o19) H := hP
      have hD : va_D A (wm_X8_leads cA h0 h0_filter h0_filter_numbers h0_filter_words h0_ways h0_ways_by h0_ways_by_numbers h0_ways_by_words h0_ways_onward h0_ways_tails h0_ways_comesTo h0_trial h0_kept h0_spread h0_course h0_rows h0_changes h0_tape h0_bodies h0_causes s0__hasImage s0__hasCauses s0__stepsDone s0_filter__all s0_filter__v s0_filter__loss s0_filter__result s0_filter__over s0_filter__heldAll s0_filter__heldRounded s0_filter_numbers s0_filter_words o3 o4 o5 o6 o7 o8 o9 o10 o11 o12 o13 o14 o15 o16 o17 o18 o19) := hD
      obtain ⟨e, hok⟩ := g_pr hok
      try subst e
      obtain ⟨e, hok⟩ := g_pr hok
      try subst e
      obtain ⟨e, hok⟩ := g_pr hok
      try subst e
      obtain ⟨e, hok⟩ := g_pr hok
      try subst e
      obtain ⟨e, hok⟩ := g_pr hok
      try subst e
      obtain ⟨e, hok⟩ := g_pr hok
      try subst e
      obtain ⟨e, hok⟩ := g_pr hok
      try subst e
      obtain ⟨e, hok⟩ := g_pr hok
      try subst e
      obtain ⟨e, hok⟩ := g_pr hok
      try subst e
      obtain ⟨e, hok⟩ := g_pr hok
      try subst e
      obtain ⟨e, hok⟩ := g_pr hok
      try subst e
      obtain ⟨e, hok⟩ := g_pr hok
      try subst e
      obtain ⟨e, hok⟩ := g_pr hok
      try subst e
      obtain ⟨e, hok⟩ := g_pr hok
      try subst e
      obtain ⟨e, hok⟩ := g_pr hok
      try subst e
      obtain ⟨e, hok⟩ := g_pr hok
      try subst e
      obtain ⟨e, hok⟩ := g_pr hok
      try subst e
      cases hok
      exact cr_i hx hb hr hlocks hQ dX8_leads_112 hP hS
    replace hok := g_neg hok c
    refine lv_bipush (v := -5) hx hb dX8_leads_53 (by decide) ?_
    obtain ⟨e, hok⟩ := g_pr hok
    try subst e
    obtain ⟨e, hok⟩ := g_pr hok
    try subst e
    obtain ⟨e, hok⟩ := g_pr hok
    try subst e
    obtain ⟨e, hok⟩ := g_pr hok
    try subst e
    obtain ⟨e, hok⟩ := g_pr hok
    try subst e
    obtain ⟨e, hok⟩ := g_pr hok
    try subst e
    obtain ⟨e, hok⟩ := g_pr hok
    try subst e
    obtain ⟨e, hok⟩ := g_pr hok
    try subst e
    obtain ⟨e, hok⟩ := g_pr hok
    try subst e
    obtain ⟨e, hok⟩ := g_pr hok
    try subst e
    obtain ⟨e, hok⟩ := g_pr hok
    try subst e
    obtain ⟨e, hok⟩ := g_pr hok
    try subst e
    obtain ⟨e, hok⟩ := g_pr hok
    try subst e
    obtain ⟨e, hok⟩ := g_pr hok
    try subst e
    obtain ⟨e, hok⟩ := g_pr hok
    try subst e
    obtain ⟨e, hok⟩ := g_pr hok
    try subst e
    obtain ⟨e, hok⟩ := g_pr hok
    try subst e
    cases hok
    exact cr_i hx hb hr hlocks hQ dX8_leads_55 hP hS
  replace hok := g_neg hok c
  refine lv_iconst (v := -1) hx hb dX8_leads_24 (by decide) ?_
  obtain ⟨e, hok⟩ := g_pr hok
  try subst e
  obtain ⟨e, hok⟩ := g_pr hok
  try subst e
  obtain ⟨e, hok⟩ := g_pr hok
  try subst e
  obtain ⟨e, hok⟩ := g_pr hok
  try subst e
  obtain ⟨e, hok⟩ := g_pr hok
  try subst e
  obtain ⟨e, hok⟩ := g_pr hok
  try subst e
  obtain ⟨e, hok⟩ := g_pr hok
  try subst e
  obtain ⟨e, hok⟩ := g_pr hok
  try subst e
  obtain ⟨e, hok⟩ := g_pr hok
  try subst e
  obtain ⟨e, hok⟩ := g_pr hok
  try subst e
  obtain ⟨e, hok⟩ := g_pr hok
  try subst e
  obtain ⟨e, hok⟩ := g_pr hok
  try subst e
  obtain ⟨e, hok⟩ := g_pr hok
  try subst e
  obtain ⟨e, hok⟩ := g_pr hok
  try subst e
  obtain ⟨e, hok⟩ := g_pr hok
  try subst e
  obtain ⟨e, hok⟩ := g_pr hok
  try subst e
  obtain ⟨e, hok⟩ := g_pr hok
  try subst e
  cases hok
  exact cr_i hx hb hr hlocks hQ dX8_leads_25 hP hS
set_option maxHeartbeats 40000000 in
set_option maxRecDepth 100000 in
theorem c_X8_cycles (l : Launch) (G : va_G) (cA : Nat → ClassId) (ts : Nat → Nat) (h0 : Nat) (h0_filter : Nat) (h0_filter_numbers : Nat) (h0_filter_words : Nat) (h0_ways : Nat) (h0_ways_by : Nat) (h0_ways_by_numbers : Nat) (h0_ways_by_words : Nat) (h0_ways_onward : Nat) (h0_ways_tails : Nat) (h0_ways_comesTo : Nat) (h0_trial : Nat) (h0_kept : Nat) (h0_spread : Nat) (h0_course : Nat) (h0_rows : Nat) (h0_changes : Nat) (h0_tape : Nat) (h0_bodies : Nat) (h0_causes : Nat) (x1 : Int32) (x2 : Int32) (s0__hasImage : Int32) (s0__hasCauses : Int32) (s0__stepsDone : Int32) (s0_filter__all : Int32) (s0_filter__v : Int32) (s0_filter__loss : Int32) (s0_filter__result : Int32) (s0_filter__over : Int32) (s0_filter__heldAll : Int32) (s0_filter__heldRounded : Int32) (s0_filter_numbers : Nat → Int32) (s0_filter_words : Nat → Int32) (s0_ways__size : Int32) (s0_ways__told : Int32) (s0_ways__whole : Int32) (s0_ways__anyStuck : Int32) (s0_ways__loudest : Int32) (s0_ways_by__all : Int32) (s0_ways_by__v : Int32) (s0_ways_by__loss : Int32) (s0_ways_by__result : Int32) (s0_ways_by__over : Int32) (s0_ways_by__heldAll : Int32) (s0_ways_by__heldRounded : Int32) (s0_ways_by_numbers : Nat → Int32) (s0_ways_by_words : Nat → Int32) (s0_ways_onward : Nat → Int32) (s0_ways_tails : Nat → Int32) (s0_ways_comesTo : Nat → Int32) (r : Int32) (o0_ways__size : Int32) (o0_ways__told : Int32) (o0_ways__whole : Int32) (o0_ways__anyStuck : Int32) (o0_ways__loudest : Int32) (o0_ways_by__all : Int32) (o0_ways_by__v : Int32) (o0_ways_by__loss : Int32) (o0_ways_by__result : Int32) (o0_ways_by__over : Int32) (o0_ways_by__heldAll : Int32) (o0_ways_by__heldRounded : Int32) (o0_ways_by_numbers : Nat → Int32) (o0_ways_by_words : Nat → Int32) (o0_ways_onward : Nat → Int32) (o0_ways_tails : Nat → Int32) (o0_ways_comesTo : Nat → Int32) (hok : fX8_cycles x1 x2 s0_filter_numbers s0_filter_words s0_ways__size s0_ways__told s0_ways__whole s0_ways__anyStuck s0_ways__loudest s0_ways_by__all s0_ways_by__v s0_ways_by__loss s0_ways_by__result s0_ways_by__over s0_ways_by__heldAll s0_ways_by__heldRounded s0_ways_by_numbers s0_ways_by_words s0_ways_onward s0_ways_tails s0_ways_comesTo = some (r, o0_ways__size, o0_ways__told, o0_ways__whole, o0_ways__anyStuck, o0_ways__loudest, o0_ways_by__all, o0_ways_by__v, o0_ways_by__loss, o0_ways_by__result, o0_ways_by__over, o0_ways_by__heldAll, o0_ways_by__heldRounded, o0_ways_by_numbers, o0_ways_by_words, o0_ways_onward, o0_ways_tails, o0_ways_comesTo)) : Ct l G cA ts yX8_cycles wsX8_cycles 7 172 [.ref h0, .int x1, .int x2] (wm_X8_leads cA h0 h0_filter h0_filter_numbers h0_filter_words h0_ways h0_ways_by h0_ways_by_numbers h0_ways_by_words h0_ways_onward h0_ways_tails h0_ways_comesTo h0_trial h0_kept h0_spread h0_course h0_rows h0_changes h0_tape h0_bodies h0_causes s0__hasImage s0__hasCauses s0__stepsDone s0_filter__all s0_filter__v s0_filter__loss s0_filter__result s0_filter__over s0_filter__heldAll s0_filter__heldRounded s0_filter_numbers s0_filter_words s0_ways__size s0_ways__told s0_ways__whole s0_ways__anyStuck s0_ways__loudest s0_ways_by__all s0_ways_by__v s0_ways_by__loss s0_ways_by__result s0_ways_by__over s0_ways_by__heldAll s0_ways_by__heldRounded s0_ways_by_numbers s0_ways_by_words s0_ways_onward s0_ways_tails s0_ways_comesTo) (wm_X8_leads cA h0 h0_filter h0_filter_numbers h0_filter_words h0_ways h0_ways_by h0_ways_by_numbers h0_ways_by_words h0_ways_onward h0_ways_tails h0_ways_comesTo h0_trial h0_kept h0_spread h0_course h0_rows h0_changes h0_tape h0_bodies h0_causes s0__hasImage s0__hasCauses s0__stepsDone s0_filter__all s0_filter__v s0_filter__loss s0_filter__result s0_filter__over s0_filter__heldAll s0_filter__heldRounded s0_filter_numbers s0_filter_words o0_ways__size o0_ways__told o0_ways__whole o0_ways__anyStuck o0_ways__loudest o0_ways_by__all o0_ways_by__v o0_ways_by__loss o0_ways_by__result o0_ways_by__over o0_ways_by__heldAll o0_ways_by__heldRounded o0_ways_by_numbers o0_ways_by_words o0_ways_onward o0_ways_tails o0_ways_comesTo) (some (.int r)) := by
  refine Ct.intro (cc := cX8_cycles) (maxL := 3) (ret := some .int) (by decide +kernel) rfl (Nat.le_of_ble_eq_true rfl) ?_
  intro p e s m ar below meth c A Q hx hb hr hml hown hlocks hts hK hZ hA hQ hP hD hS ls hl
  have hown : s.vm.findClass RX8 = some m.cls := hown
  have hinX8 : ∀ w ∈ wsX80, w ∈ wsX8_cycles := fun _ h => List.mem_cons_of_mem _ (List.mem_append_left _ (List.mem_append_left _ (List.mem_append_right _ (h))))
  have hl : lv_has ls 3 [(0, .ref h0), (1, .int x1), (2, .int x2)] := hl
  have hP : va_P G vwCl (wm_X8_leads cA h0 h0_filter h0_filter_numbers h0_filter_words h0_ways h0_ways_by h0_ways_by_numbers h0_ways_by_words h0_ways_onward h0_ways_tails h0_ways_comesTo h0_trial h0_kept h0_spread h0_course h0_rows h0_changes h0_tape h0_bodies h0_causes s0__hasImage s0__hasCauses s0__stepsDone s0_filter__all s0_filter__v s0_filter__loss s0_filter__result s0_filter__over s0_filter__heldAll s0_filter__heldRounded s0_filter_numbers s0_filter_words s0_ways__size s0_ways__told s0_ways__whole s0_ways__anyStuck s0_ways__loudest s0_ways_by__all s0_ways_by__v s0_ways_by__loss s0_ways_by__result s0_ways_by__over s0_ways_by__heldAll s0_ways_by__heldRounded s0_ways_by_numbers s0_ways_by_words s0_ways_onward s0_ways_tails s0_ways_comesTo) s.heap := hP
  have hD : va_D A (wm_X8_leads cA h0 h0_filter h0_filter_numbers h0_filter_words h0_ways h0_ways_by h0_ways_by_numbers h0_ways_by_words h0_ways_onward h0_ways_tails h0_ways_comesTo h0_trial h0_kept h0_spread h0_course h0_rows h0_changes h0_tape h0_bodies h0_causes s0__hasImage s0__hasCauses s0__stepsDone s0_filter__all s0_filter__v s0_filter__loss s0_filter__result s0_filter__over s0_filter__heldAll s0_filter__heldRounded s0_filter_numbers s0_filter_words s0_ways__size s0_ways__told s0_ways__whole s0_ways__anyStuck s0_ways__loudest s0_ways_by__all s0_ways_by__v s0_ways_by__loss s0_ways_by__result s0_ways_by__over s0_ways_by__heldAll s0_ways_by__heldRounded s0_ways_by_numbers s0_ways_by_words s0_ways_onward s0_ways_tails s0_ways_comesTo) := hD
  unfold fX8_cycles at hok
  refine lv_iload_n hx hb dX8_cycles_0 rfl (lv_at hl 1 rfl) ?_
  obtain ⟨r1, hq, hok⟩ := g_bnd1 hok
  refine cG (is := []) (wc := (wm_X0_find cA)) (w1 := (wm_X0_find cA)) (rv := (some (.int r1))) (st1 := [.int r1]) (va_runS (Ts := wsX8_cycles) (As := [.int x1]) (rest := []) ⟨hx, hb, hml, hown, hts⟩ (c_X8_isInput l G cA ts x1 r1 hq s.heap.size) (va_cwS 1 hts gX8_cycles_X8_isInput rfl rfl rfl (by decide +kernel) ⟨Nat.le_of_ble_eq_true rfl, Nat.le_of_ble_eq_true rfl⟩) (pre_S (is := []) hP hD hS hA hK hZ (by decide +kernel) (by rfl)) rfl rfl hl.1 rfl (by exact lv_room (Nat.le_of_ble_eq_true rfl)) dX8_cycles_1 ⟨Nat.le_refl _, Nat.le_refl _⟩) hP hD hS hA (by decide +kernel) (by rfl) (by rfl) rfl (fun H locs hP hD hS => ?_)
  have hP : va_P G vwCl (wm_X8_leads cA h0 h0_filter h0_filter_numbers h0_filter_words h0_ways h0_ways_by h0_ways_by_numbers h0_ways_by_words h0_ways_onward h0_ways_tails h0_ways_comesTo h0_trial h0_kept h0_spread h0_course h0_rows h0_changes h0_tape h0_bodies h0_causes s0__hasImage s0__hasCauses s0__stepsDone s0_filter__all s0_filter__v s0_filter__loss s0_filter__result s0_filter__over s0_filter__heldAll s0_filter__heldRounded s0_filter_numbers s0_filter_words s0_ways__size s0_ways__told s0_ways__whole s0_ways__anyStuck s0_ways__loudest s0_ways_by__all s0_ways_by__v s0_ways_by__loss s0_ways_by__result s0_ways_by__over s0_ways_by__heldAll s0_ways_by__heldRounded s0_ways_by_numbers s0_ways_by_words s0_ways_onward s0_ways_tails s0_ways_comesTo) H := hP
  have hD : va_D A (wm_X8_leads cA h0 h0_filter h0_filter_numbers h0_filter_words h0_ways h0_ways_by h0_ways_by_numbers h0_ways_by_words h0_ways_onward h0_ways_tails h0_ways_comesTo h0_trial h0_kept h0_spread h0_course h0_rows h0_changes h0_tape h0_bodies h0_causes s0__hasImage s0__hasCauses s0__stepsDone s0_filter__all s0_filter__v s0_filter__loss s0_filter__result s0_filter__over s0_filter__heldAll s0_filter__heldRounded s0_filter_numbers s0_filter_words s0_ways__size s0_ways__told s0_ways__whole s0_ways__anyStuck s0_ways__loudest s0_ways_by__all s0_ways_by__v s0_ways_by__loss s0_ways_by__result s0_ways_by__over s0_ways_by__heldAll s0_ways_by__heldRounded s0_ways_by_numbers s0_ways_by_words s0_ways_onward s0_ways_tails s0_ways_comesTo) := hD
  refine lv_if_eq (tgt := 16) hx hb dX8_cycles_4 (by decide) (fun c => ?_) (fun c => ?_)
  · replace hok := g_pos hok c
    refine lv_iconst (v := -1) hx hb dX8_cycles_16 (by decide) ?_
    obtain ⟨e, hok⟩ := g_pr hok
    try subst e
    obtain ⟨e, hok⟩ := g_pr hok
    try subst e
    obtain ⟨e, hok⟩ := g_pr hok
    try subst e
    obtain ⟨e, hok⟩ := g_pr hok
    try subst e
    obtain ⟨e, hok⟩ := g_pr hok
    try subst e
    obtain ⟨e, hok⟩ := g_pr hok
    try subst e
    obtain ⟨e, hok⟩ := g_pr hok
    try subst e
    obtain ⟨e, hok⟩ := g_pr hok
    try subst e
    obtain ⟨e, hok⟩ := g_pr hok
    try subst e
    obtain ⟨e, hok⟩ := g_pr hok
    try subst e
    obtain ⟨e, hok⟩ := g_pr hok
    try subst e
    obtain ⟨e, hok⟩ := g_pr hok
    try subst e
    obtain ⟨e, hok⟩ := g_pr hok
    try subst e
    obtain ⟨e, hok⟩ := g_pr hok
    try subst e
    obtain ⟨e, hok⟩ := g_pr hok
    try subst e
    obtain ⟨e, hok⟩ := g_pr hok
    try subst e
    obtain ⟨e, hok⟩ := g_pr hok
    try subst e
    cases hok
    exact cr_i hx hb hr hlocks hQ dX8_cycles_17 hP hS
  replace hok := g_neg hok c
  refine lv_iload_n hx hb dX8_cycles_7 rfl (lv_at hl 2 rfl) ?_
  refine lv_if_lt (tgt := 16) hx hb dX8_cycles_8 (by decide) (fun c => ?_) (fun c => ?_)
  · replace hok := g_pos hok c
    refine lv_iconst (v := -1) hx hb dX8_cycles_16 (by decide) ?_
    obtain ⟨e, hok⟩ := g_pr hok
    try subst e
    obtain ⟨e, hok⟩ := g_pr hok
    try subst e
    obtain ⟨e, hok⟩ := g_pr hok
    try subst e
    obtain ⟨e, hok⟩ := g_pr hok
    try subst e
    obtain ⟨e, hok⟩ := g_pr hok
    try subst e
    obtain ⟨e, hok⟩ := g_pr hok
    try subst e
    obtain ⟨e, hok⟩ := g_pr hok
    try subst e
    obtain ⟨e, hok⟩ := g_pr hok
    try subst e
    obtain ⟨e, hok⟩ := g_pr hok
    try subst e
    obtain ⟨e, hok⟩ := g_pr hok
    try subst e
    obtain ⟨e, hok⟩ := g_pr hok
    try subst e
    obtain ⟨e, hok⟩ := g_pr hok
    try subst e
    obtain ⟨e, hok⟩ := g_pr hok
    try subst e
    obtain ⟨e, hok⟩ := g_pr hok
    try subst e
    obtain ⟨e, hok⟩ := g_pr hok
    try subst e
    obtain ⟨e, hok⟩ := g_pr hok
    try subst e
    obtain ⟨e, hok⟩ := g_pr hok
    try subst e
    cases hok
    exact cr_i hx hb hr hlocks hQ dX8_cycles_17 hP hS
  replace hok := g_neg hok c
  refine lv_iload_n hx hb dX8_cycles_11 rfl (lv_at hl 2 rfl) ?_
  refine lv_iconst (v := 4) hx hb dX8_cycles_12 (by decide) ?_
  refine lv_icmp_le (tgt := 18) hx hb dX8_cycles_13 (by decide) (fun c => ?_) (fun c => ?_)
  · replace hok := g_pos hok c
    refine lv_aload_n hx hb dX8_cycles_18 rfl (lv_at hl 0 rfl) ?_
    refine va_get (ci := 8) (v := .ref h0_ways) (C := RX8) (T := TX8) (N := 14) hx hb hts hinX8 hown hK hP 0 rfl rfl 4 (by decide) (hts _ (List.mem_of_getElem? (i := 1) rfl)) (fun _ h9 => h9) rfl dX8_cycles_19 ?_
    refine lv_aload_n hx hb dX8_cycles_22 rfl (lv_at hl 0 rfl) ?_
    refine va_get (ci := 8) (v := .ref h0_filter) (C := RX8) (T := TX8) (N := 14) hx hb hts hinX8 hown hK hP 0 rfl rfl 0 (by decide) (hts _ (List.mem_of_getElem? (i := 2) rfl)) (fun _ h9 => h9) rfl dX8_cycles_23 ?_
    refine lv_iload_n hx hb dX8_cycles_26 rfl (lv_at hl 1 rfl) ?_
    obtain ⟨o2, o3, o4, o5, o6, o7, o8, o9, o10, o11, o12, o13, o14, o15, o16, o17, o18, hq, hok⟩ := g_bnd17 hok
    refine cG (is := [4, 5, 6, 7, 8, 9, 10, 1, 2, 3]) (wc := (wm_X7_draw cA h0_ways h0_ways_by h0_ways_by_numbers h0_ways_by_words h0_ways_onward h0_ways_tails h0_ways_comesTo h0_filter h0_filter_numbers h0_filter_words s0_ways__size s0_ways__told s0_ways__whole s0_ways__anyStuck s0_ways__loudest s0_ways_by__all s0_ways_by__v s0_ways_by__loss s0_ways_by__result s0_ways_by__over s0_ways_by__heldAll s0_ways_by__heldRounded s0_ways_by_numbers s0_ways_by_words s0_ways_onward s0_ways_tails s0_ways_comesTo s0_filter__all s0_filter__v s0_filter__loss s0_filter__result s0_filter__over s0_filter__heldAll s0_filter__heldRounded s0_filter_numbers s0_filter_words)) (w1 := (wm_X7_draw cA h0_ways h0_ways_by h0_ways_by_numbers h0_ways_by_words h0_ways_onward h0_ways_tails h0_ways_comesTo h0_filter h0_filter_numbers h0_filter_words o2 o3 o4 o5 o6 o7 o8 o9 o10 o11 o12 o13 o14 o15 o16 o17 o18 s0_filter__all s0_filter__v s0_filter__loss s0_filter__result s0_filter__over s0_filter__heldAll s0_filter__heldRounded s0_filter_numbers s0_filter_words)) (rv := none) (st1 := []) (va_runV (Ts := wsX8_cycles) (As := [.ref h0_filter, .int x1]) (rest := []) ⟨hx, hb, hml, hown, hts⟩ (c_X7_draw l G cA ts h0_ways h0_ways_by h0_ways_by_numbers h0_ways_by_words h0_ways_onward h0_ways_tails h0_ways_comesTo h0_filter h0_filter_numbers h0_filter_words x1 s0_ways__size s0_ways__told s0_ways__whole s0_ways__anyStuck s0_ways__loudest s0_ways_by__all s0_ways_by__v s0_ways_by__loss s0_ways_by__result s0_ways_by__over s0_ways_by__heldAll s0_ways_by__heldRounded s0_ways_by_numbers s0_ways_by_words s0_ways_onward s0_ways_tails s0_ways_comesTo s0_filter__all s0_filter__v s0_filter__loss s0_filter__result s0_filter__over s0_filter__heldAll s0_filter__heldRounded s0_filter_numbers s0_filter_words o2 o3 o4 o5 o6 o7 o8 o9 o10 o11 o12 o13 o14 o15 o16 o17 o18 hq H.size) (cwV 2 hts gX8_cycles_X7_draw rfl rfl rfl (by decide +kernel) ⟨Nat.le_of_ble_eq_true rfl, Nat.le_of_ble_eq_true rfl⟩) (pre_V (ci := 7) (q0 := 4) (is := [4, 5, 6, 7, 8, 9, 10, 1, 2, 3]) rfl rfl hP hD hS hA hK hZ (by decide +kernel) (by rfl)) rfl rfl hl.1 rfl (by exact lv_room (Nat.le_of_ble_eq_true rfl)) dX8_cycles_27 ⟨Nat.le_refl _, Nat.le_refl _⟩) hP hD hS hA (by decide +kernel) (by rfl) (by rfl) rfl (fun H locs hP hD hS => ?_)
    obtain ⟨hP, hD⟩ : va_P G vwCl (wm_X8_leads cA h0 h0_filter h0_filter_numbers h0_filter_words h0_ways h0_ways_by h0_ways_by_numbers h0_ways_by_words h0_ways_onward h0_ways_tails h0_ways_comesTo h0_trial h0_kept h0_spread h0_course h0_rows h0_changes h0_tape h0_bodies h0_causes s0__hasImage s0__hasCauses s0__stepsDone s0_filter__all s0_filter__v s0_filter__loss s0_filter__result s0_filter__over s0_filter__heldAll s0_filter__heldRounded s0_filter_numbers s0_filter_words o2 o3 o4 o5 o6 o7 o8 o9 o10 o11 o12 o13 o14 o15 o16 o17 o18) H ∧ va_D A (wm_X8_leads cA h0 h0_filter h0_filter_numbers h0_filter_words h0_ways h0_ways_by h0_ways_by_numbers h0_ways_by_words h0_ways_onward h0_ways_tails h0_ways_comesTo h0_trial h0_kept h0_spread h0_course h0_rows h0_changes h0_tape h0_bodies h0_causes s0__hasImage s0__hasCauses s0__stepsDone s0_filter__all s0_filter__v s0_filter__loss s0_filter__result s0_filter__over s0_filter__heldAll s0_filter__heldRounded s0_filter_numbers s0_filter_words o2 o3 o4 o5 o6 o7 o8 o9 o10 o11 o12 o13 o14 o15 o16 o17 o18) := PD_eq hP hD (rp_eq (js := [0]) 11 (by decide +kernel) rfl rfl (by rfl) (by rfl) (by decide +kernel))
    refine lv_iload_n hx hb dX8_cycles_30 rfl (lv_at hl 2 rfl) ?_
    by_cases c0 : x2 = 0
    · replace hok := g_pos hok c0
      have e9 : (x2).toInt = 0 := by rw [c0]; rfl
      refine lv_tableIn (tgt := 60) (off := 29) hx hb dX8_cycles_31 (by rw [e9]; decide) (by rw [e9]; decide) (by rw [e9]; rfl) (by decide) ?_
      refine lv_aload_n hx hb dX8_cycles_60 rfl (lv_at hl 0 rfl) ?_
      refine va_get (ci := 8) (v := .ref h0_ways) (C := RX8) (T := TX8) (N := 14) hx hb hts hinX8 hown hK hP 0 rfl rfl 4 (by decide) (hts _ (List.mem_of_getElem? (i := 1) rfl)) (fun _ h9 => h9) rfl dX8_cycles_61 ?_
      refine lv_aload_n hx hb dX8_cycles_64 rfl (lv_at hl 0 rfl) ?_
      refine va_get (ci := 8) (v := .ref h0_filter) (C := RX8) (T := TX8) (N := 14) hx hb hts hinX8 hown hK hP 0 rfl rfl 0 (by decide) (hts _ (List.mem_of_getElem? (i := 2) rfl)) (fun _ h9 => h9) rfl dX8_cycles_65 ?_
      obtain ⟨r19, hq, hok⟩ := g_bnd1 hok
      refine cG (is := [1, 2]) (wc := (wm_X3_unit cA h0_filter h0_filter_numbers h0_filter_words s0_filter__all s0_filter__v s0_filter__loss s0_filter__result s0_filter__over s0_filter__heldAll s0_filter__heldRounded s0_filter_numbers)) (w1 := (wm_X3_unit cA h0_filter h0_filter_numbers h0_filter_words s0_filter__all s0_filter__v s0_filter__loss s0_filter__result s0_filter__over s0_filter__heldAll s0_filter__heldRounded s0_filter_numbers)) (rv := (some (.int r19))) (st1 := [.int r19, .ref h0_ways]) (va_runV (Ts := wsX8_cycles) (As := []) (rest := [.ref h0_ways]) ⟨hx, hb, hml, hown, hts⟩ (c_X3_howManyPasts l G cA ts h0_filter h0_filter_numbers h0_filter_words s0_filter__all s0_filter__v s0_filter__loss s0_filter__result s0_filter__over s0_filter__heldAll s0_filter__heldRounded s0_filter_numbers r19 hq H.size) (cwV 0 hts gX8_cycles_X3_howManyPasts rfl rfl rfl (by decide +kernel) ⟨Nat.le_of_ble_eq_true rfl, Nat.le_of_ble_eq_true rfl⟩) (pre_V (ci := 3) (q0 := 1) (is := [1, 2]) rfl rfl hP hD hS hA hK hZ (by decide +kernel) (by rfl)) rfl rfl hl.1 rfl (by exact lv_room (Nat.le_of_ble_eq_true rfl)) dX8_cycles_68 ⟨Nat.le_refl _, Nat.le_refl _⟩) hP hD hS hA (by decide +kernel) (by rfl) (by rfl) rfl (fun H locs hP hD hS => ?_)
      have hP : va_P G vwCl (wm_X8_leads cA h0 h0_filter h0_filter_numbers h0_filter_words h0_ways h0_ways_by h0_ways_by_numbers h0_ways_by_words h0_ways_onward h0_ways_tails h0_ways_comesTo h0_trial h0_kept h0_spread h0_course h0_rows h0_changes h0_tape h0_bodies h0_causes s0__hasImage s0__hasCauses s0__stepsDone s0_filter__all s0_filter__v s0_filter__loss s0_filter__result s0_filter__over s0_filter__heldAll s0_filter__heldRounded s0_filter_numbers s0_filter_words o2 o3 o4 o5 o6 o7 o8 o9 o10 o11 o12 o13 o14 o15 o16 o17 o18) H := hP
      have hD : va_D A (wm_X8_leads cA h0 h0_filter h0_filter_numbers h0_filter_words h0_ways h0_ways_by h0_ways_by_numbers h0_ways_by_words h0_ways_onward h0_ways_tails h0_ways_comesTo h0_trial h0_kept h0_spread h0_course h0_rows h0_changes h0_tape h0_bodies h0_causes s0__hasImage s0__hasCauses s0__stepsDone s0_filter__all s0_filter__v s0_filter__loss s0_filter__result s0_filter__over s0_filter__heldAll s0_filter__heldRounded s0_filter_numbers s0_filter_words o2 o3 o4 o5 o6 o7 o8 o9 o10 o11 o12 o13 o14 o15 o16 o17 o18) := hD
      obtain ⟨r20, hq, hok⟩ := g_bnd1 hok
      refine cG (is := [4, 10]) (wc := (wm_X7_cycleFrom cA h0_ways h0_ways_comesTo h0_ways_by h0_ways_onward h0_ways_tails o2 o3 o4 o5 o6 o18)) (w1 := (wm_X7_cycleFrom cA h0_ways h0_ways_comesTo h0_ways_by h0_ways_onward h0_ways_tails o2 o3 o4 o5 o6 o18)) (rv := (some (.int r20))) (st1 := [.int r20]) (va_runV (Ts := wsX8_cycles) (As := [.int r19]) (rest := []) ⟨hx, hb, hml, hown, hts⟩ (c_X7_numberOf l G cA ts h0_ways h0_ways_comesTo h0_ways_by h0_ways_onward h0_ways_tails r19 o2 o3 o4 o5 o6 o18 r20 hq H.size) (cwV 1 hts gX8_cycles_X7_numberOf rfl rfl rfl (by decide +kernel) ⟨Nat.le_of_ble_eq_true rfl, Nat.le_of_ble_eq_true rfl⟩) (pre_V (ci := 7) (q0 := 4) (is := [4, 10]) rfl rfl hP hD hS hA hK hZ (by decide +kernel) (by rfl)) rfl rfl hl.1 rfl (by exact lv_room (Nat.le_of_ble_eq_true rfl)) dX8_cycles_71 ⟨Nat.le_refl _, Nat.le_refl _⟩) hP hD hS hA (by decide +kernel) (by rfl) (by rfl) rfl (fun H locs hP hD hS => ?_)
      have hP : va_P G vwCl (wm_X8_leads cA h0 h0_filter h0_filter_numbers h0_filter_words h0_ways h0_ways_by h0_ways_by_numbers h0_ways_by_words h0_ways_onward h0_ways_tails h0_ways_comesTo h0_trial h0_kept h0_spread h0_course h0_rows h0_changes h0_tape h0_bodies h0_causes s0__hasImage s0__hasCauses s0__stepsDone s0_filter__all s0_filter__v s0_filter__loss s0_filter__result s0_filter__over s0_filter__heldAll s0_filter__heldRounded s0_filter_numbers s0_filter_words o2 o3 o4 o5 o6 o7 o8 o9 o10 o11 o12 o13 o14 o15 o16 o17 o18) H := hP
      have hD : va_D A (wm_X8_leads cA h0 h0_filter h0_filter_numbers h0_filter_words h0_ways h0_ways_by h0_ways_by_numbers h0_ways_by_words h0_ways_onward h0_ways_tails h0_ways_comesTo h0_trial h0_kept h0_spread h0_course h0_rows h0_changes h0_tape h0_bodies h0_causes s0__hasImage s0__hasCauses s0__stepsDone s0_filter__all s0_filter__v s0_filter__loss s0_filter__result s0_filter__over s0_filter__heldAll s0_filter__heldRounded s0_filter_numbers s0_filter_words o2 o3 o4 o5 o6 o7 o8 o9 o10 o11 o12 o13 o14 o15 o16 o17 o18) := hD
      obtain ⟨e, hok⟩ := g_pr hok
      try subst e
      obtain ⟨e, hok⟩ := g_pr hok
      try subst e
      obtain ⟨e, hok⟩ := g_pr hok
      try subst e
      obtain ⟨e, hok⟩ := g_pr hok
      try subst e
      obtain ⟨e, hok⟩ := g_pr hok
      try subst e
      obtain ⟨e, hok⟩ := g_pr hok
      try subst e
      obtain ⟨e, hok⟩ := g_pr hok
      try subst e
      obtain ⟨e, hok⟩ := g_pr hok
      try subst e
      obtain ⟨e, hok⟩ := g_pr hok
      try subst e
      obtain ⟨e, hok⟩ := g_pr hok
      try subst e
      obtain ⟨e, hok⟩ := g_pr hok
      try subst e
      obtain ⟨e, hok⟩ := g_pr hok
      try subst e
      obtain ⟨e, hok⟩ := g_pr hok
      try subst e
      obtain ⟨e, hok⟩ := g_pr hok
      try subst e
      obtain ⟨e, hok⟩ := g_pr hok
      try subst e
      obtain ⟨e, hok⟩ := g_pr hok
      try subst e
      obtain ⟨e, hok⟩ := g_pr hok
      try subst e
      cases hok
      exact cr_i hx hb hr hlocks hQ dX8_cycles_74 hP hS
    replace hok := g_neg hok c0
    by_cases c1 : x2 = 1
    · replace hok := g_pos hok c1
      have e9 : (x2).toInt = 1 := by rw [c1]; rfl
      refine lv_tableIn (tgt := 75) (off := 44) hx hb dX8_cycles_31 (by rw [e9]; decide) (by rw [e9]; decide) (by rw [e9]; rfl) (by decide) ?_
      refine lv_aload_n hx hb dX8_cycles_75 rfl (lv_at hl 0 rfl) ?_
      refine va_get (ci := 8) (v := .ref h0_ways) (C := RX8) (T := TX8) (N := 14) hx hb hts hinX8 hown hK hP 0 rfl rfl 4 (by decide) (hts _ (List.mem_of_getElem? (i := 1) rfl)) (fun _ h9 => h9) rfl dX8_cycles_76 ?_
      refine lv_iconst (v := -1) hx hb dX8_cycles_79 (by decide) ?_
      obtain ⟨r21, hq, hok⟩ := g_bnd1 hok
      refine cG (is := [4, 10]) (wc := (wm_X7_cycleFrom cA h0_ways h0_ways_comesTo h0_ways_by h0_ways_onward h0_ways_tails o2 o3 o4 o5 o6 o18)) (w1 := (wm_X7_cycleFrom cA h0_ways h0_ways_comesTo h0_ways_by h0_ways_onward h0_ways_tails o2 o3 o4 o5 o6 o18)) (rv := (some (.int r21))) (st1 := [.int r21]) (va_runV (Ts := wsX8_cycles) (As := [.int (-1:Int32)]) (rest := []) ⟨hx, hb, hml, hown, hts⟩ (c_X7_basinOf l G cA ts h0_ways h0_ways_comesTo h0_ways_by h0_ways_onward h0_ways_tails (-1:Int32) o2 o3 o4 o5 o6 o18 r21 hq H.size) (cwV 1 hts gX8_cycles_X7_basinOf rfl rfl rfl (by decide +kernel) ⟨Nat.le_of_ble_eq_true rfl, Nat.le_of_ble_eq_true rfl⟩) (pre_V (ci := 7) (q0 := 4) (is := [4, 10]) rfl rfl hP hD hS hA hK hZ (by decide +kernel) (by rfl)) rfl rfl hl.1 rfl (by exact lv_room (Nat.le_of_ble_eq_true rfl)) dX8_cycles_80 ⟨Nat.le_refl _, Nat.le_refl _⟩) hP hD hS hA (by decide +kernel) (by rfl) (by rfl) rfl (fun H locs hP hD hS => ?_)
      have hP : va_P G vwCl (wm_X8_leads cA h0 h0_filter h0_filter_numbers h0_filter_words h0_ways h0_ways_by h0_ways_by_numbers h0_ways_by_words h0_ways_onward h0_ways_tails h0_ways_comesTo h0_trial h0_kept h0_spread h0_course h0_rows h0_changes h0_tape h0_bodies h0_causes s0__hasImage s0__hasCauses s0__stepsDone s0_filter__all s0_filter__v s0_filter__loss s0_filter__result s0_filter__over s0_filter__heldAll s0_filter__heldRounded s0_filter_numbers s0_filter_words o2 o3 o4 o5 o6 o7 o8 o9 o10 o11 o12 o13 o14 o15 o16 o17 o18) H := hP
      have hD : va_D A (wm_X8_leads cA h0 h0_filter h0_filter_numbers h0_filter_words h0_ways h0_ways_by h0_ways_by_numbers h0_ways_by_words h0_ways_onward h0_ways_tails h0_ways_comesTo h0_trial h0_kept h0_spread h0_course h0_rows h0_changes h0_tape h0_bodies h0_causes s0__hasImage s0__hasCauses s0__stepsDone s0_filter__all s0_filter__v s0_filter__loss s0_filter__result s0_filter__over s0_filter__heldAll s0_filter__heldRounded s0_filter_numbers s0_filter_words o2 o3 o4 o5 o6 o7 o8 o9 o10 o11 o12 o13 o14 o15 o16 o17 o18) := hD
      obtain ⟨e, hok⟩ := g_pr hok
      try subst e
      obtain ⟨e, hok⟩ := g_pr hok
      try subst e
      obtain ⟨e, hok⟩ := g_pr hok
      try subst e
      obtain ⟨e, hok⟩ := g_pr hok
      try subst e
      obtain ⟨e, hok⟩ := g_pr hok
      try subst e
      obtain ⟨e, hok⟩ := g_pr hok
      try subst e
      obtain ⟨e, hok⟩ := g_pr hok
      try subst e
      obtain ⟨e, hok⟩ := g_pr hok
      try subst e
      obtain ⟨e, hok⟩ := g_pr hok
      try subst e
      obtain ⟨e, hok⟩ := g_pr hok
      try subst e
      obtain ⟨e, hok⟩ := g_pr hok
      try subst e
      obtain ⟨e, hok⟩ := g_pr hok
      try subst e
      obtain ⟨e, hok⟩ := g_pr hok
      try subst e
      obtain ⟨e, hok⟩ := g_pr hok
      try subst e
      obtain ⟨e, hok⟩ := g_pr hok
      try subst e
      obtain ⟨e, hok⟩ := g_pr hok
      try subst e
      obtain ⟨e, hok⟩ := g_pr hok
      try subst e
      cases hok
      exact cr_i hx hb hr hlocks hQ dX8_cycles_83 hP hS
    replace hok := g_neg hok c1
    by_cases c2 : x2 = 2
    · replace hok := g_pos hok c2
      have e9 : (x2).toInt = 2 := by rw [c2]; rfl
      refine lv_tableIn (tgt := 84) (off := 53) hx hb dX8_cycles_31 (by rw [e9]; decide) (by rw [e9]; decide) (by rw [e9]; rfl) (by decide) ?_
      refine lv_aload_n hx hb dX8_cycles_84 rfl (lv_at hl 0 rfl) ?_
      refine va_get (ci := 8) (v := .ref h0_ways) (C := RX8) (T := TX8) (N := 14) hx hb hts hinX8 hown hK hP 0 rfl rfl 4 (by decide) (hts _ (List.mem_of_getElem? (i := 1) rfl)) (fun _ h9 => h9) rfl dX8_cycles_85 ?_
      obtain ⟨r22, hq, hok⟩ := g_bnd1 hok
      refine cG (is := [4, 9, 10]) (wc := (wm_X7_isOnCycle cA h0_ways h0_ways_tails h0_ways_comesTo h0_ways_by h0_ways_onward o2 o3 o4 o5 o6 o17 o18)) (w1 := (wm_X7_isOnCycle cA h0_ways h0_ways_tails h0_ways_comesTo h0_ways_by h0_ways_onward o2 o3 o4 o5 o6 o17 o18)) (rv := (some (.int r22))) (st1 := [.int r22]) (va_runV (Ts := wsX8_cycles) (As := []) (rest := []) ⟨hx, hb, hml, hown, hts⟩ (c_X7_longestTail l G cA ts h0_ways h0_ways_tails h0_ways_comesTo h0_ways_by h0_ways_onward o2 o3 o4 o5 o6 o17 o18 r22 hq H.size) (cwV 0 hts gX8_cycles_X7_longestTail rfl rfl rfl (by decide +kernel) ⟨Nat.le_of_ble_eq_true rfl, Nat.le_of_ble_eq_true rfl⟩) (pre_V (ci := 7) (q0 := 4) (is := [4, 9, 10]) rfl rfl hP hD hS hA hK hZ (by decide +kernel) (by rfl)) rfl rfl hl.1 rfl (by exact lv_room (Nat.le_of_ble_eq_true rfl)) dX8_cycles_88 ⟨Nat.le_refl _, Nat.le_refl _⟩) hP hD hS hA (by decide +kernel) (by rfl) (by rfl) rfl (fun H locs hP hD hS => ?_)
      have hP : va_P G vwCl (wm_X8_leads cA h0 h0_filter h0_filter_numbers h0_filter_words h0_ways h0_ways_by h0_ways_by_numbers h0_ways_by_words h0_ways_onward h0_ways_tails h0_ways_comesTo h0_trial h0_kept h0_spread h0_course h0_rows h0_changes h0_tape h0_bodies h0_causes s0__hasImage s0__hasCauses s0__stepsDone s0_filter__all s0_filter__v s0_filter__loss s0_filter__result s0_filter__over s0_filter__heldAll s0_filter__heldRounded s0_filter_numbers s0_filter_words o2 o3 o4 o5 o6 o7 o8 o9 o10 o11 o12 o13 o14 o15 o16 o17 o18) H := hP
      have hD : va_D A (wm_X8_leads cA h0 h0_filter h0_filter_numbers h0_filter_words h0_ways h0_ways_by h0_ways_by_numbers h0_ways_by_words h0_ways_onward h0_ways_tails h0_ways_comesTo h0_trial h0_kept h0_spread h0_course h0_rows h0_changes h0_tape h0_bodies h0_causes s0__hasImage s0__hasCauses s0__stepsDone s0_filter__all s0_filter__v s0_filter__loss s0_filter__result s0_filter__over s0_filter__heldAll s0_filter__heldRounded s0_filter_numbers s0_filter_words o2 o3 o4 o5 o6 o7 o8 o9 o10 o11 o12 o13 o14 o15 o16 o17 o18) := hD
      obtain ⟨e, hok⟩ := g_pr hok
      try subst e
      obtain ⟨e, hok⟩ := g_pr hok
      try subst e
      obtain ⟨e, hok⟩ := g_pr hok
      try subst e
      obtain ⟨e, hok⟩ := g_pr hok
      try subst e
      obtain ⟨e, hok⟩ := g_pr hok
      try subst e
      obtain ⟨e, hok⟩ := g_pr hok
      try subst e
      obtain ⟨e, hok⟩ := g_pr hok
      try subst e
      obtain ⟨e, hok⟩ := g_pr hok
      try subst e
      obtain ⟨e, hok⟩ := g_pr hok
      try subst e
      obtain ⟨e, hok⟩ := g_pr hok
      try subst e
      obtain ⟨e, hok⟩ := g_pr hok
      try subst e
      obtain ⟨e, hok⟩ := g_pr hok
      try subst e
      obtain ⟨e, hok⟩ := g_pr hok
      try subst e
      obtain ⟨e, hok⟩ := g_pr hok
      try subst e
      obtain ⟨e, hok⟩ := g_pr hok
      try subst e
      obtain ⟨e, hok⟩ := g_pr hok
      try subst e
      obtain ⟨e, hok⟩ := g_pr hok
      try subst e
      cases hok
      exact cr_i hx hb hr hlocks hQ dX8_cycles_91 hP hS
    replace hok := g_neg hok c2
    by_cases c3 : x2 = 3
    · replace hok := g_pos hok c3
      have e9 : (x2).toInt = 3 := by rw [c3]; rfl
      refine lv_tableIn (tgt := 92) (off := 61) hx hb dX8_cycles_31 (by rw [e9]; decide) (by rw [e9]; decide) (by rw [e9]; rfl) (by decide) ?_
      refine lv_aload_n hx hb dX8_cycles_92 rfl (lv_at hl 0 rfl) ?_
      refine va_get (ci := 8) (v := .ref h0_ways) (C := RX8) (T := TX8) (N := 14) hx hb hts hinX8 hown hK hP 0 rfl rfl 4 (by decide) (hts _ (List.mem_of_getElem? (i := 1) rfl)) (fun _ h9 => h9) rfl dX8_cycles_93 ?_
      obtain ⟨r23, hq, hok⟩ := g_bnd1 hok
      refine cG (is := [4]) (wc := (wm_X7_is cA h0_ways h0_ways_by h0_ways_onward h0_ways_tails h0_ways_comesTo o2 o3 o4 o5 o6)) (w1 := (wm_X7_is cA h0_ways h0_ways_by h0_ways_onward h0_ways_tails h0_ways_comesTo o2 o3 o4 o5 o6)) (rv := (some (.int r23))) (st1 := [.int r23]) (va_runV (Ts := wsX8_cycles) (As := []) (rest := []) ⟨hx, hb, hml, hown, hts⟩ (c_X7_loudestOfAll l G cA ts h0_ways h0_ways_by h0_ways_onward h0_ways_tails h0_ways_comesTo o2 o3 o4 o5 o6 r23 hq H.size) (cwV 0 hts gX8_cycles_X7_loudestOfAll rfl rfl rfl (by decide +kernel) ⟨Nat.le_of_ble_eq_true rfl, Nat.le_of_ble_eq_true rfl⟩) (pre_V (ci := 7) (q0 := 4) (is := [4]) rfl rfl hP hD hS hA hK hZ (by decide +kernel) (by rfl)) rfl rfl hl.1 rfl (by exact lv_room (Nat.le_of_ble_eq_true rfl)) dX8_cycles_96 ⟨Nat.le_refl _, Nat.le_refl _⟩) hP hD hS hA (by decide +kernel) (by rfl) (by rfl) rfl (fun H locs hP hD hS => ?_)
      have hP : va_P G vwCl (wm_X8_leads cA h0 h0_filter h0_filter_numbers h0_filter_words h0_ways h0_ways_by h0_ways_by_numbers h0_ways_by_words h0_ways_onward h0_ways_tails h0_ways_comesTo h0_trial h0_kept h0_spread h0_course h0_rows h0_changes h0_tape h0_bodies h0_causes s0__hasImage s0__hasCauses s0__stepsDone s0_filter__all s0_filter__v s0_filter__loss s0_filter__result s0_filter__over s0_filter__heldAll s0_filter__heldRounded s0_filter_numbers s0_filter_words o2 o3 o4 o5 o6 o7 o8 o9 o10 o11 o12 o13 o14 o15 o16 o17 o18) H := hP
      have hD : va_D A (wm_X8_leads cA h0 h0_filter h0_filter_numbers h0_filter_words h0_ways h0_ways_by h0_ways_by_numbers h0_ways_by_words h0_ways_onward h0_ways_tails h0_ways_comesTo h0_trial h0_kept h0_spread h0_course h0_rows h0_changes h0_tape h0_bodies h0_causes s0__hasImage s0__hasCauses s0__stepsDone s0_filter__all s0_filter__v s0_filter__loss s0_filter__result s0_filter__over s0_filter__heldAll s0_filter__heldRounded s0_filter_numbers s0_filter_words o2 o3 o4 o5 o6 o7 o8 o9 o10 o11 o12 o13 o14 o15 o16 o17 o18) := hD
      obtain ⟨e, hok⟩ := g_pr hok
      try subst e
      obtain ⟨e, hok⟩ := g_pr hok
      try subst e
      obtain ⟨e, hok⟩ := g_pr hok
      try subst e
      obtain ⟨e, hok⟩ := g_pr hok
      try subst e
      obtain ⟨e, hok⟩ := g_pr hok
      try subst e
      obtain ⟨e, hok⟩ := g_pr hok
      try subst e
      obtain ⟨e, hok⟩ := g_pr hok
      try subst e
      obtain ⟨e, hok⟩ := g_pr hok
      try subst e
      obtain ⟨e, hok⟩ := g_pr hok
      try subst e
      obtain ⟨e, hok⟩ := g_pr hok
      try subst e
      obtain ⟨e, hok⟩ := g_pr hok
      try subst e
      obtain ⟨e, hok⟩ := g_pr hok
      try subst e
      obtain ⟨e, hok⟩ := g_pr hok
      try subst e
      obtain ⟨e, hok⟩ := g_pr hok
      try subst e
      obtain ⟨e, hok⟩ := g_pr hok
      try subst e
      obtain ⟨e, hok⟩ := g_pr hok
      try subst e
      obtain ⟨e, hok⟩ := g_pr hok
      try subst e
      cases hok
      exact cr_i hx hb hr hlocks hQ dX8_cycles_99 hP hS
    replace hok := g_neg hok c3
    refine lv_tableOut (tgt := 100) hx hb dX8_cycles_31 (by have b0 := lv_neT (a := 0) c0 rfl; have b1 := lv_neT (a := 1) c1 rfl; have b2 := lv_neT (a := 2) c2 rfl; have b3 := lv_neT (a := 3) c3 rfl; omega) (by decide) ?_
    refine lv_aload_n hx hb dX8_cycles_100 rfl (lv_at hl 0 rfl) ?_
    refine va_get (ci := 8) (v := .ref h0_ways) (C := RX8) (T := TX8) (N := 14) hx hb hts hinX8 hown hK hP 0 rfl rfl 4 (by decide) (hts _ (List.mem_of_getElem? (i := 1) rfl)) (fun _ h9 => h9) rfl dX8_cycles_101 ?_
    obtain ⟨r24, hq, hok⟩ := g_bnd1 hok
    refine cG (is := [4, 9, 10]) (wc := (wm_X7_isOnCycle cA h0_ways h0_ways_tails h0_ways_comesTo h0_ways_by h0_ways_onward o2 o3 o4 o5 o6 o17 o18)) (w1 := (wm_X7_isOnCycle cA h0_ways h0_ways_tails h0_ways_comesTo h0_ways_by h0_ways_onward o2 o3 o4 o5 o6 o17 o18)) (rv := (some (.int r24))) (st1 := [.int r24]) (va_runV (Ts := wsX8_cycles) (As := []) (rest := []) ⟨hx, hb, hml, hown, hts⟩ (c_X7_howManyOnCycles l G cA ts h0_ways h0_ways_tails h0_ways_comesTo h0_ways_by h0_ways_onward o2 o3 o4 o5 o6 o17 o18 r24 hq H.size) (cwV 0 hts gX8_cycles_X7_howManyOnCycles rfl rfl rfl (by decide +kernel) ⟨Nat.le_of_ble_eq_true rfl, Nat.le_of_ble_eq_true rfl⟩) (pre_V (ci := 7) (q0 := 4) (is := [4, 9, 10]) rfl rfl hP hD hS hA hK hZ (by decide +kernel) (by rfl)) rfl rfl hl.1 rfl (by exact lv_room (Nat.le_of_ble_eq_true rfl)) dX8_cycles_104 ⟨Nat.le_refl _, Nat.le_refl _⟩) hP hD hS hA (by decide +kernel) (by rfl) (by rfl) rfl (fun H locs hP hD hS => ?_)
    have hP : va_P G vwCl (wm_X8_leads cA h0 h0_filter h0_filter_numbers h0_filter_words h0_ways h0_ways_by h0_ways_by_numbers h0_ways_by_words h0_ways_onward h0_ways_tails h0_ways_comesTo h0_trial h0_kept h0_spread h0_course h0_rows h0_changes h0_tape h0_bodies h0_causes s0__hasImage s0__hasCauses s0__stepsDone s0_filter__all s0_filter__v s0_filter__loss s0_filter__result s0_filter__over s0_filter__heldAll s0_filter__heldRounded s0_filter_numbers s0_filter_words o2 o3 o4 o5 o6 o7 o8 o9 o10 o11 o12 o13 o14 o15 o16 o17 o18) H := hP
    have hD : va_D A (wm_X8_leads cA h0 h0_filter h0_filter_numbers h0_filter_words h0_ways h0_ways_by h0_ways_by_numbers h0_ways_by_words h0_ways_onward h0_ways_tails h0_ways_comesTo h0_trial h0_kept h0_spread h0_course h0_rows h0_changes h0_tape h0_bodies h0_causes s0__hasImage s0__hasCauses s0__stepsDone s0_filter__all s0_filter__v s0_filter__loss s0_filter__result s0_filter__over s0_filter__heldAll s0_filter__heldRounded s0_filter_numbers s0_filter_words o2 o3 o4 o5 o6 o7 o8 o9 o10 o11 o12 o13 o14 o15 o16 o17 o18) := hD
    obtain ⟨e, hok⟩ := g_pr hok
    try subst e
    obtain ⟨e, hok⟩ := g_pr hok
    try subst e
    obtain ⟨e, hok⟩ := g_pr hok
    try subst e
    obtain ⟨e, hok⟩ := g_pr hok
    try subst e
    obtain ⟨e, hok⟩ := g_pr hok
    try subst e
    obtain ⟨e, hok⟩ := g_pr hok
    try subst e
    obtain ⟨e, hok⟩ := g_pr hok
    try subst e
    obtain ⟨e, hok⟩ := g_pr hok
    try subst e
    obtain ⟨e, hok⟩ := g_pr hok
    try subst e
    obtain ⟨e, hok⟩ := g_pr hok
    try subst e
    obtain ⟨e, hok⟩ := g_pr hok
    try subst e
    obtain ⟨e, hok⟩ := g_pr hok
    try subst e
    obtain ⟨e, hok⟩ := g_pr hok
    try subst e
    obtain ⟨e, hok⟩ := g_pr hok
    try subst e
    obtain ⟨e, hok⟩ := g_pr hok
    try subst e
    obtain ⟨e, hok⟩ := g_pr hok
    try subst e
    obtain ⟨e, hok⟩ := g_pr hok
    try subst e
    cases hok
    exact cr_i hx hb hr hlocks hQ dX8_cycles_107 hP hS
  replace hok := g_neg hok c
  refine lv_iconst (v := -1) hx hb dX8_cycles_16 (by decide) ?_
  obtain ⟨e, hok⟩ := g_pr hok
  try subst e
  obtain ⟨e, hok⟩ := g_pr hok
  try subst e
  obtain ⟨e, hok⟩ := g_pr hok
  try subst e
  obtain ⟨e, hok⟩ := g_pr hok
  try subst e
  obtain ⟨e, hok⟩ := g_pr hok
  try subst e
  obtain ⟨e, hok⟩ := g_pr hok
  try subst e
  obtain ⟨e, hok⟩ := g_pr hok
  try subst e
  obtain ⟨e, hok⟩ := g_pr hok
  try subst e
  obtain ⟨e, hok⟩ := g_pr hok
  try subst e
  obtain ⟨e, hok⟩ := g_pr hok
  try subst e
  obtain ⟨e, hok⟩ := g_pr hok
  try subst e
  obtain ⟨e, hok⟩ := g_pr hok
  try subst e
  obtain ⟨e, hok⟩ := g_pr hok
  try subst e
  obtain ⟨e, hok⟩ := g_pr hok
  try subst e
  obtain ⟨e, hok⟩ := g_pr hok
  try subst e
  obtain ⟨e, hok⟩ := g_pr hok
  try subst e
  obtain ⟨e, hok⟩ := g_pr hok
  try subst e
  cases hok
  exact cr_i hx hb hr hlocks hQ dX8_cycles_17 hP hS
