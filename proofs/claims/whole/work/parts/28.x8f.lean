set_option maxHeartbeats 40000000 in
set_option maxRecDepth 100000 in
theorem c_X8_cycle (l : Launch) (G : va_G) (cA : Nat → ClassId) (ts : Nat → Nat) (h0 : Nat) (h0_filter : Nat) (h0_filter_numbers : Nat) (h0_filter_words : Nat) (h0_ways : Nat) (h0_ways_by : Nat) (h0_ways_by_numbers : Nat) (h0_ways_by_words : Nat) (h0_ways_onward : Nat) (h0_ways_tails : Nat) (h0_ways_comesTo : Nat) (h0_trial : Nat) (h0_kept : Nat) (h0_spread : Nat) (h0_course : Nat) (h0_rows : Nat) (h0_changes : Nat) (h0_tape : Nat) (h0_bodies : Nat) (h0_causes : Nat) (x1 : Int32) (x2 : Int32) (x3 : Int32) (s0__hasImage : Int32) (s0__hasCauses : Int32) (s0__stepsDone : Int32) (s0_filter__all : Int32) (s0_filter__v : Int32) (s0_filter__loss : Int32) (s0_filter__result : Int32) (s0_filter__over : Int32) (s0_filter__heldAll : Int32) (s0_filter__heldRounded : Int32) (s0_filter_numbers : Nat → Int32) (s0_filter_words : Nat → Int32) (s0_ways__size : Int32) (s0_ways__told : Int32) (s0_ways__whole : Int32) (s0_ways__anyStuck : Int32) (s0_ways__loudest : Int32) (s0_ways_by__all : Int32) (s0_ways_by__v : Int32) (s0_ways_by__loss : Int32) (s0_ways_by__result : Int32) (s0_ways_by__over : Int32) (s0_ways_by__heldAll : Int32) (s0_ways_by__heldRounded : Int32) (s0_ways_by_numbers : Nat → Int32) (s0_ways_by_words : Nat → Int32) (s0_ways_onward : Nat → Int32) (s0_ways_tails : Nat → Int32) (s0_ways_comesTo : Nat → Int32) (r : Int32) (o0_ways__size : Int32) (o0_ways__told : Int32) (o0_ways__whole : Int32) (o0_ways__anyStuck : Int32) (o0_ways__loudest : Int32) (o0_ways_by__all : Int32) (o0_ways_by__v : Int32) (o0_ways_by__loss : Int32) (o0_ways_by__result : Int32) (o0_ways_by__over : Int32) (o0_ways_by__heldAll : Int32) (o0_ways_by__heldRounded : Int32) (o0_ways_by_numbers : Nat → Int32) (o0_ways_by_words : Nat → Int32) (o0_ways_onward : Nat → Int32) (o0_ways_tails : Nat → Int32) (o0_ways_comesTo : Nat → Int32) (hok : fX8_cycle x1 x2 x3 s0_filter_numbers s0_filter_words s0_ways__size s0_ways__told s0_ways__whole s0_ways__anyStuck s0_ways__loudest s0_ways_by__all s0_ways_by__v s0_ways_by__loss s0_ways_by__result s0_ways_by__over s0_ways_by__heldAll s0_ways_by__heldRounded s0_ways_by_numbers s0_ways_by_words s0_ways_onward s0_ways_tails s0_ways_comesTo = some (r, o0_ways__size, o0_ways__told, o0_ways__whole, o0_ways__anyStuck, o0_ways__loudest, o0_ways_by__all, o0_ways_by__v, o0_ways_by__loss, o0_ways_by__result, o0_ways_by__over, o0_ways_by__heldAll, o0_ways_by__heldRounded, o0_ways_by_numbers, o0_ways_by_words, o0_ways_onward, o0_ways_tails, o0_ways_comesTo)) : Ct l G cA ts yX8_cycle wsX8_cycle 7 172 [.ref h0, .int x1, .int x2, .int x3] (wm_X8_leads cA h0 h0_filter h0_filter_numbers h0_filter_words h0_ways h0_ways_by h0_ways_by_numbers h0_ways_by_words h0_ways_onward h0_ways_tails h0_ways_comesTo h0_trial h0_kept h0_spread h0_course h0_rows h0_changes h0_tape h0_bodies h0_causes s0__hasImage s0__hasCauses s0__stepsDone s0_filter__all s0_filter__v s0_filter__loss s0_filter__result s0_filter__over s0_filter__heldAll s0_filter__heldRounded s0_filter_numbers s0_filter_words s0_ways__size s0_ways__told s0_ways__whole s0_ways__anyStuck s0_ways__loudest s0_ways_by__all s0_ways_by__v s0_ways_by__loss s0_ways_by__result s0_ways_by__over s0_ways_by__heldAll s0_ways_by__heldRounded s0_ways_by_numbers s0_ways_by_words s0_ways_onward s0_ways_tails s0_ways_comesTo) (wm_X8_leads cA h0 h0_filter h0_filter_numbers h0_filter_words h0_ways h0_ways_by h0_ways_by_numbers h0_ways_by_words h0_ways_onward h0_ways_tails h0_ways_comesTo h0_trial h0_kept h0_spread h0_course h0_rows h0_changes h0_tape h0_bodies h0_causes s0__hasImage s0__hasCauses s0__stepsDone s0_filter__all s0_filter__v s0_filter__loss s0_filter__result s0_filter__over s0_filter__heldAll s0_filter__heldRounded s0_filter_numbers s0_filter_words o0_ways__size o0_ways__told o0_ways__whole o0_ways__anyStuck o0_ways__loudest o0_ways_by__all o0_ways_by__v o0_ways_by__loss o0_ways_by__result o0_ways_by__over o0_ways_by__heldAll o0_ways_by__heldRounded o0_ways_by_numbers o0_ways_by_words o0_ways_onward o0_ways_tails o0_ways_comesTo) (some (.int r)) := by
  refine Ct.intro (cc := cX8_cycle) (maxL := 5) (ret := some .int) (by decide +kernel) rfl (Nat.le_of_ble_eq_true rfl) ?_
  intro p e s m ar below meth c A Q hx hb hr hml hown hlocks hts hK hZ hA hQ hP hD hS ls hl
  have hown : s.vm.findClass RX8 = some m.cls := hown
  have hinX8 : ∀ w ∈ wsX80, w ∈ wsX8_cycle := fun _ h => List.mem_cons_of_mem _ (List.mem_append_left _ (List.mem_append_left _ (List.mem_append_right _ (h))))
  have hl : lv_has ls 5 [(0, .ref h0), (1, .int x1), (2, .int x2), (3, .int x3)] := hl
  have hP : va_P G vwCl (wm_X8_leads cA h0 h0_filter h0_filter_numbers h0_filter_words h0_ways h0_ways_by h0_ways_by_numbers h0_ways_by_words h0_ways_onward h0_ways_tails h0_ways_comesTo h0_trial h0_kept h0_spread h0_course h0_rows h0_changes h0_tape h0_bodies h0_causes s0__hasImage s0__hasCauses s0__stepsDone s0_filter__all s0_filter__v s0_filter__loss s0_filter__result s0_filter__over s0_filter__heldAll s0_filter__heldRounded s0_filter_numbers s0_filter_words s0_ways__size s0_ways__told s0_ways__whole s0_ways__anyStuck s0_ways__loudest s0_ways_by__all s0_ways_by__v s0_ways_by__loss s0_ways_by__result s0_ways_by__over s0_ways_by__heldAll s0_ways_by__heldRounded s0_ways_by_numbers s0_ways_by_words s0_ways_onward s0_ways_tails s0_ways_comesTo) s.heap := hP
  have hD : va_D A (wm_X8_leads cA h0 h0_filter h0_filter_numbers h0_filter_words h0_ways h0_ways_by h0_ways_by_numbers h0_ways_by_words h0_ways_onward h0_ways_tails h0_ways_comesTo h0_trial h0_kept h0_spread h0_course h0_rows h0_changes h0_tape h0_bodies h0_causes s0__hasImage s0__hasCauses s0__stepsDone s0_filter__all s0_filter__v s0_filter__loss s0_filter__result s0_filter__over s0_filter__heldAll s0_filter__heldRounded s0_filter_numbers s0_filter_words s0_ways__size s0_ways__told s0_ways__whole s0_ways__anyStuck s0_ways__loudest s0_ways_by__all s0_ways_by__v s0_ways_by__loss s0_ways_by__result s0_ways_by__over s0_ways_by__heldAll s0_ways_by__heldRounded s0_ways_by_numbers s0_ways_by_words s0_ways_onward s0_ways_tails s0_ways_comesTo) := hD
  unfold fX8_cycle at hok
  refine lv_iload_n hx hb dX8_cycle_0 rfl (lv_at hl 1 rfl) ?_
  obtain ⟨r1, hq, hok⟩ := g_bnd1 hok
  refine cG (is := []) (wc := (wm_X0_find cA)) (w1 := (wm_X0_find cA)) (rv := (some (.int r1))) (st1 := [.int r1]) (va_runS (Ts := wsX8_cycle) (As := [.int x1]) (rest := []) ⟨hx, hb, hml, hown, hts⟩ (c_X8_isInput l G cA ts x1 r1 hq s.heap.size) (va_cwS 1 hts gX8_cycle_X8_isInput rfl rfl rfl (by decide +kernel) ⟨Nat.le_of_ble_eq_true rfl, Nat.le_of_ble_eq_true rfl⟩) (pre_S (is := []) hP hD hS hA hK hZ (by decide +kernel) (by rfl)) rfl rfl hl.1 rfl (by exact lv_room (Nat.le_of_ble_eq_true rfl)) dX8_cycle_1 ⟨Nat.le_refl _, Nat.le_refl _⟩) hP hD hS hA (by decide +kernel) (by rfl) (by rfl) rfl (fun H locs hP hD hS => ?_)
  have hP : va_P G vwCl (wm_X8_leads cA h0 h0_filter h0_filter_numbers h0_filter_words h0_ways h0_ways_by h0_ways_by_numbers h0_ways_by_words h0_ways_onward h0_ways_tails h0_ways_comesTo h0_trial h0_kept h0_spread h0_course h0_rows h0_changes h0_tape h0_bodies h0_causes s0__hasImage s0__hasCauses s0__stepsDone s0_filter__all s0_filter__v s0_filter__loss s0_filter__result s0_filter__over s0_filter__heldAll s0_filter__heldRounded s0_filter_numbers s0_filter_words s0_ways__size s0_ways__told s0_ways__whole s0_ways__anyStuck s0_ways__loudest s0_ways_by__all s0_ways_by__v s0_ways_by__loss s0_ways_by__result s0_ways_by__over s0_ways_by__heldAll s0_ways_by__heldRounded s0_ways_by_numbers s0_ways_by_words s0_ways_onward s0_ways_tails s0_ways_comesTo) H := hP
  have hD : va_D A (wm_X8_leads cA h0 h0_filter h0_filter_numbers h0_filter_words h0_ways h0_ways_by h0_ways_by_numbers h0_ways_by_words h0_ways_onward h0_ways_tails h0_ways_comesTo h0_trial h0_kept h0_spread h0_course h0_rows h0_changes h0_tape h0_bodies h0_causes s0__hasImage s0__hasCauses s0__stepsDone s0_filter__all s0_filter__v s0_filter__loss s0_filter__result s0_filter__over s0_filter__heldAll s0_filter__heldRounded s0_filter_numbers s0_filter_words s0_ways__size s0_ways__told s0_ways__whole s0_ways__anyStuck s0_ways__loudest s0_ways_by__all s0_ways_by__v s0_ways_by__loss s0_ways_by__result s0_ways_by__over s0_ways_by__heldAll s0_ways_by__heldRounded s0_ways_by_numbers s0_ways_by_words s0_ways_onward s0_ways_tails s0_ways_comesTo) := hD
  refine lv_if_eq (tgt := 16) hx hb dX8_cycle_4 (by decide) (fun c => ?_) (fun c => ?_)
  · replace hok := g_pos hok c
    refine lv_iconst (v := -1) hx hb dX8_cycle_16 (by decide) ?_
    obtain ⟨e, hok⟩ := g_pr hok
    try subst e
    obtain ⟨e, hok⟩ := g_pr hok
    try subst e
    obtain ⟨e, hok⟩ := g_pr hok
    try subst e
    obtain ⟨e, hok⟩ := g_pr hok
    try subst e
    obtain ⟨e, hok⟩ := g_pr hok
    try subst e
    obtain ⟨e, hok⟩ := g_pr hok
    try subst e
    obtain ⟨e, hok⟩ := g_pr hok
    try subst e
    obtain ⟨e, hok⟩ := g_pr hok
    try subst e
    obtain ⟨e, hok⟩ := g_pr hok
    try subst e
    obtain ⟨e, hok⟩ := g_pr hok
    try subst e
    obtain ⟨e, hok⟩ := g_pr hok
    try subst e
    obtain ⟨e, hok⟩ := g_pr hok
    try subst e
    obtain ⟨e, hok⟩ := g_pr hok
    try subst e
    obtain ⟨e, hok⟩ := g_pr hok
    try subst e
    obtain ⟨e, hok⟩ := g_pr hok
    try subst e
    obtain ⟨e, hok⟩ := g_pr hok
    try subst e
    obtain ⟨e, hok⟩ := g_pr hok
    try subst e
    cases hok
    exact cr_i hx hb hr hlocks hQ dX8_cycle_17 hP hS
  replace hok := g_neg hok c
  refine lv_iload_n hx hb dX8_cycle_7 rfl (lv_at hl 3 rfl) ?_
  refine lv_if_lt (tgt := 16) hx hb dX8_cycle_8 (by decide) (fun c => ?_) (fun c => ?_)
  · replace hok := g_pos hok c
    refine lv_iconst (v := -1) hx hb dX8_cycle_16 (by decide) ?_
    obtain ⟨e, hok⟩ := g_pr hok
    try subst e
    obtain ⟨e, hok⟩ := g_pr hok
    try subst e
    obtain ⟨e, hok⟩ := g_pr hok
    try subst e
    obtain ⟨e, hok⟩ := g_pr hok
    try subst e
    obtain ⟨e, hok⟩ := g_pr hok
    try subst e
    obtain ⟨e, hok⟩ := g_pr hok
    try subst e
    obtain ⟨e, hok⟩ := g_pr hok
    try subst e
    obtain ⟨e, hok⟩ := g_pr hok
    try subst e
    obtain ⟨e, hok⟩ := g_pr hok
    try subst e
    obtain ⟨e, hok⟩ := g_pr hok
    try subst e
    obtain ⟨e, hok⟩ := g_pr hok
    try subst e
    obtain ⟨e, hok⟩ := g_pr hok
    try subst e
    obtain ⟨e, hok⟩ := g_pr hok
    try subst e
    obtain ⟨e, hok⟩ := g_pr hok
    try subst e
    obtain ⟨e, hok⟩ := g_pr hok
    try subst e
    obtain ⟨e, hok⟩ := g_pr hok
    try subst e
    obtain ⟨e, hok⟩ := g_pr hok
    try subst e
    cases hok
    exact cr_i hx hb hr hlocks hQ dX8_cycle_17 hP hS
  replace hok := g_neg hok c
  refine lv_iload_n hx hb dX8_cycle_11 rfl (lv_at hl 3 rfl) ?_
  refine lv_iconst (v := 3) hx hb dX8_cycle_12 (by decide) ?_
  refine lv_icmp_le (tgt := 18) hx hb dX8_cycle_13 (by decide) (fun c => ?_) (fun c => ?_)
  · replace hok := g_pos hok c
    refine lv_aload_n hx hb dX8_cycle_18 rfl (lv_at hl 0 rfl) ?_
    refine va_get (ci := 8) (v := .ref h0_ways) (C := RX8) (T := TX8) (N := 14) hx hb hts hinX8 hown hK hP 0 rfl rfl 4 (by decide) (hts _ (List.mem_of_getElem? (i := 1) rfl)) (fun _ h9 => h9) rfl dX8_cycle_19 ?_
    refine lv_aload_n hx hb dX8_cycle_22 rfl (lv_at hl 0 rfl) ?_
    refine va_get (ci := 8) (v := .ref h0_filter) (C := RX8) (T := TX8) (N := 14) hx hb hts hinX8 hown hK hP 0 rfl rfl 0 (by decide) (hts _ (List.mem_of_getElem? (i := 2) rfl)) (fun _ h9 => h9) rfl dX8_cycle_23 ?_
    refine lv_iload_n hx hb dX8_cycle_26 rfl (lv_at hl 1 rfl) ?_
    obtain ⟨o2, o3, o4, o5, o6, o7, o8, o9, o10, o11, o12, o13, o14, o15, o16, o17, o18, hq, hok⟩ := g_bnd17 hok
    refine cG (is := [4, 5, 6, 7, 8, 9, 10, 1, 2, 3]) (wc := (wm_X7_draw cA h0_ways h0_ways_by h0_ways_by_numbers h0_ways_by_words h0_ways_onward h0_ways_tails h0_ways_comesTo h0_filter h0_filter_numbers h0_filter_words s0_ways__size s0_ways__told s0_ways__whole s0_ways__anyStuck s0_ways__loudest s0_ways_by__all s0_ways_by__v s0_ways_by__loss s0_ways_by__result s0_ways_by__over s0_ways_by__heldAll s0_ways_by__heldRounded s0_ways_by_numbers s0_ways_by_words s0_ways_onward s0_ways_tails s0_ways_comesTo s0_filter__all s0_filter__v s0_filter__loss s0_filter__result s0_filter__over s0_filter__heldAll s0_filter__heldRounded s0_filter_numbers s0_filter_words)) (w1 := (wm_X7_draw cA h0_ways h0_ways_by h0_ways_by_numbers h0_ways_by_words h0_ways_onward h0_ways_tails h0_ways_comesTo h0_filter h0_filter_numbers h0_filter_words o2 o3 o4 o5 o6 o7 o8 o9 o10 o11 o12 o13 o14 o15 o16 o17 o18 s0_filter__all s0_filter__v s0_filter__loss s0_filter__result s0_filter__over s0_filter__heldAll s0_filter__heldRounded s0_filter_numbers s0_filter_words)) (rv := none) (st1 := []) (va_runV (Ts := wsX8_cycle) (As := [.ref h0_filter, .int x1]) (rest := []) ⟨hx, hb, hml, hown, hts⟩ (c_X7_draw l G cA ts h0_ways h0_ways_by h0_ways_by_numbers h0_ways_by_words h0_ways_onward h0_ways_tails h0_ways_comesTo h0_filter h0_filter_numbers h0_filter_words x1 s0_ways__size s0_ways__told s0_ways__whole s0_ways__anyStuck s0_ways__loudest s0_ways_by__all s0_ways_by__v s0_ways_by__loss s0_ways_by__result s0_ways_by__over s0_ways_by__heldAll s0_ways_by__heldRounded s0_ways_by_numbers s0_ways_by_words s0_ways_onward s0_ways_tails s0_ways_comesTo s0_filter__all s0_filter__v s0_filter__loss s0_filter__result s0_filter__over s0_filter__heldAll s0_filter__heldRounded s0_filter_numbers s0_filter_words o2 o3 o4 o5 o6 o7 o8 o9 o10 o11 o12 o13 o14 o15 o16 o17 o18 hq H.size) (cwV 2 hts gX8_cycle_X7_draw rfl rfl rfl (by decide +kernel) ⟨Nat.le_of_ble_eq_true rfl, Nat.le_of_ble_eq_true rfl⟩) (pre_V (ci := 7) (q0 := 4) (is := [4, 5, 6, 7, 8, 9, 10, 1, 2, 3]) rfl rfl hP hD hS hA hK hZ (by decide +kernel) (by rfl)) rfl rfl hl.1 rfl (by exact lv_room (Nat.le_of_ble_eq_true rfl)) dX8_cycle_27 ⟨Nat.le_refl _, Nat.le_refl _⟩) hP hD hS hA (by decide +kernel) (by rfl) (by rfl) rfl (fun H locs hP hD hS => ?_)
    obtain ⟨hP, hD⟩ : va_P G vwCl (wm_X8_leads cA h0 h0_filter h0_filter_numbers h0_filter_words h0_ways h0_ways_by h0_ways_by_numbers h0_ways_by_words h0_ways_onward h0_ways_tails h0_ways_comesTo h0_trial h0_kept h0_spread h0_course h0_rows h0_changes h0_tape h0_bodies h0_causes s0__hasImage s0__hasCauses s0__stepsDone s0_filter__all s0_filter__v s0_filter__loss s0_filter__result s0_filter__over s0_filter__heldAll s0_filter__heldRounded s0_filter_numbers s0_filter_words o2 o3 o4 o5 o6 o7 o8 o9 o10 o11 o12 o13 o14 o15 o16 o17 o18) H ∧ va_D A (wm_X8_leads cA h0 h0_filter h0_filter_numbers h0_filter_words h0_ways h0_ways_by h0_ways_by_numbers h0_ways_by_words h0_ways_onward h0_ways_tails h0_ways_comesTo h0_trial h0_kept h0_spread h0_course h0_rows h0_changes h0_tape h0_bodies h0_causes s0__hasImage s0__hasCauses s0__stepsDone s0_filter__all s0_filter__v s0_filter__loss s0_filter__result s0_filter__over s0_filter__heldAll s0_filter__heldRounded s0_filter_numbers s0_filter_words o2 o3 o4 o5 o6 o7 o8 o9 o10 o11 o12 o13 o14 o15 o16 o17 o18) := PD_eq hP hD (rp_eq (js := [0]) 11 (by decide +kernel) rfl rfl (by rfl) (by rfl) (by decide +kernel))
    refine lv_aload_n hx hb dX8_cycle_30 rfl (lv_at hl 0 rfl) ?_
    refine va_get (ci := 8) (v := .ref h0_ways) (C := RX8) (T := TX8) (N := 14) hx hb hts hinX8 hown hK hP 0 rfl rfl 4 (by decide) (hts _ (List.mem_of_getElem? (i := 1) rfl)) (fun _ h9 => h9) rfl dX8_cycle_31 ?_
    refine lv_iload_n hx hb dX8_cycle_34 rfl (lv_at hl 2 rfl) ?_
    obtain ⟨r19, hq, hok⟩ := g_bnd1 hok
    refine cG (is := [4, 10]) (wc := (wm_X7_cycleFrom cA h0_ways h0_ways_comesTo h0_ways_by h0_ways_onward h0_ways_tails o2 o3 o4 o5 o6 o18)) (w1 := (wm_X7_cycleFrom cA h0_ways h0_ways_comesTo h0_ways_by h0_ways_onward h0_ways_tails o2 o3 o4 o5 o6 o18)) (rv := (some (.int r19))) (st1 := [.int r19]) (va_runV (Ts := wsX8_cycle) (As := [.int x2]) (rest := []) ⟨hx, hb, hml, hown, hts⟩ (c_X7_cycleNumbered l G cA ts h0_ways h0_ways_comesTo h0_ways_by h0_ways_onward h0_ways_tails x2 o2 o3 o4 o5 o6 o18 r19 hq H.size) (cwV 1 hts gX8_cycle_X7_cycleNumbered rfl rfl rfl (by decide +kernel) ⟨Nat.le_of_ble_eq_true rfl, Nat.le_of_ble_eq_true rfl⟩) (pre_V (ci := 7) (q0 := 4) (is := [4, 10]) rfl rfl hP hD hS hA hK hZ (by decide +kernel) (by rfl)) rfl rfl hl.1 rfl (by exact lv_room (Nat.le_of_ble_eq_true rfl)) dX8_cycle_35 ⟨Nat.le_refl _, Nat.le_refl _⟩) hP hD hS hA (by decide +kernel) (by rfl) (by rfl) rfl (fun H locs hP hD hS => ?_)
    have hP : va_P G vwCl (wm_X8_leads cA h0 h0_filter h0_filter_numbers h0_filter_words h0_ways h0_ways_by h0_ways_by_numbers h0_ways_by_words h0_ways_onward h0_ways_tails h0_ways_comesTo h0_trial h0_kept h0_spread h0_course h0_rows h0_changes h0_tape h0_bodies h0_causes s0__hasImage s0__hasCauses s0__stepsDone s0_filter__all s0_filter__v s0_filter__loss s0_filter__result s0_filter__over s0_filter__heldAll s0_filter__heldRounded s0_filter_numbers s0_filter_words o2 o3 o4 o5 o6 o7 o8 o9 o10 o11 o12 o13 o14 o15 o16 o17 o18) H := hP
    have hD : va_D A (wm_X8_leads cA h0 h0_filter h0_filter_numbers h0_filter_words h0_ways h0_ways_by h0_ways_by_numbers h0_ways_by_words h0_ways_onward h0_ways_tails h0_ways_comesTo h0_trial h0_kept h0_spread h0_course h0_rows h0_changes h0_tape h0_bodies h0_causes s0__hasImage s0__hasCauses s0__stepsDone s0_filter__all s0_filter__v s0_filter__loss s0_filter__result s0_filter__over s0_filter__heldAll s0_filter__heldRounded s0_filter_numbers s0_filter_words o2 o3 o4 o5 o6 o7 o8 o9 o10 o11 o12 o13 o14 o15 o16 o17 o18) := hD
    refine lv_istore (lv' := [(4, .int r19), (0, .ref h0), (1, .int x1), (2, .int x2), (3, .int x3)]) hx hb dX8_cycle_38 hl (by decide) rfl (fun ls hl => ?_)
    refine lv_iload hx hb dX8_cycle_40 (lv_at hl 0 rfl) ?_
    refine lv_if_ge (tgt := 48) hx hb dX8_cycle_42 (by decide) (fun c => ?_) (fun c => ?_)
    · replace hok := g_pos hok c
      refine lv_iload_n hx hb dX8_cycle_48 rfl (lv_at hl 4 rfl) ?_
      by_cases c0 : x3 = 0
      · replace hok := g_pos hok c0
        have e9 : (x3).toInt = 0 := by rw [c0]; rfl
        refine lv_tableIn (tgt := 76) (off := 27) hx hb dX8_cycle_49 (by rw [e9]; decide) (by rw [e9]; decide) (by rw [e9]; rfl) (by decide) ?_
        refine lv_iload hx hb dX8_cycle_76 (lv_at hl 0 rfl) ?_
        obtain ⟨e, hok⟩ := g_pr hok
        try subst e
        obtain ⟨e, hok⟩ := g_pr hok
        try subst e
        obtain ⟨e, hok⟩ := g_pr hok
        try subst e
        obtain ⟨e, hok⟩ := g_pr hok
        try subst e
        obtain ⟨e, hok⟩ := g_pr hok
        try subst e
        obtain ⟨e, hok⟩ := g_pr hok
        try subst e
        obtain ⟨e, hok⟩ := g_pr hok
        try subst e
        obtain ⟨e, hok⟩ := g_pr hok
        try subst e
        obtain ⟨e, hok⟩ := g_pr hok
        try subst e
        obtain ⟨e, hok⟩ := g_pr hok
        try subst e
        obtain ⟨e, hok⟩ := g_pr hok
        try subst e
        obtain ⟨e, hok⟩ := g_pr hok
        try subst e
        obtain ⟨e, hok⟩ := g_pr hok
        try subst e
        obtain ⟨e, hok⟩ := g_pr hok
        try subst e
        obtain ⟨e, hok⟩ := g_pr hok
        try subst e
        obtain ⟨e, hok⟩ := g_pr hok
        try subst e
        obtain ⟨e, hok⟩ := g_pr hok
        try subst e
        cases hok
        exact cr_i hx hb hr hlocks hQ dX8_cycle_78 hP hS
      replace hok := g_neg hok c0
      by_cases c1 : x3 = 1
      · replace hok := g_pos hok c1
        have e9 : (x3).toInt = 1 := by rw [c1]; rfl
        refine lv_tableIn (tgt := 79) (off := 30) hx hb dX8_cycle_49 (by rw [e9]; decide) (by rw [e9]; decide) (by rw [e9]; rfl) (by decide) ?_
        refine lv_aload_n hx hb dX8_cycle_79 rfl (lv_at hl 1 rfl) ?_
        refine va_get (ci := 8) (v := .ref h0_ways) (C := RX8) (T := TX8) (N := 14) hx hb hts hinX8 hown hK hP 0 rfl rfl 4 (by decide) (hts _ (List.mem_of_getElem? (i := 1) rfl)) (fun _ h9 => h9) rfl dX8_cycle_80 ?_
        refine lv_iload hx hb dX8_cycle_83 (lv_at hl 0 rfl) ?_
        obtain ⟨r20, hq, hok⟩ := g_bnd1 hok
        refine cG (is := [4, 9, 10]) (wc := (wm_X7_isOnCycle cA h0_ways h0_ways_tails h0_ways_comesTo h0_ways_by h0_ways_onward o2 o3 o4 o5 o6 o17 o18)) (w1 := (wm_X7_isOnCycle cA h0_ways h0_ways_tails h0_ways_comesTo h0_ways_by h0_ways_onward o2 o3 o4 o5 o6 o17 o18)) (rv := (some (.int r20))) (st1 := [.int r20]) (va_runV (Ts := wsX8_cycle) (As := [.int r19]) (rest := []) ⟨hx, hb, hml, hown, hts⟩ (c_X7_periodOf l G cA ts h0_ways h0_ways_tails h0_ways_comesTo h0_ways_by h0_ways_onward r19 o2 o3 o4 o5 o6 o17 o18 r20 hq H.size) (cwV 1 hts gX8_cycle_X7_periodOf rfl rfl rfl (by decide +kernel) ⟨Nat.le_of_ble_eq_true rfl, Nat.le_of_ble_eq_true rfl⟩) (pre_V (ci := 7) (q0 := 4) (is := [4, 9, 10]) rfl rfl hP hD hS hA hK hZ (by decide +kernel) (by rfl)) rfl rfl hl.1 rfl (by exact lv_room (Nat.le_of_ble_eq_true rfl)) dX8_cycle_85 ⟨Nat.le_refl _, Nat.le_refl _⟩) hP hD hS hA (by decide +kernel) (by rfl) (by rfl) rfl (fun H locs hP hD hS => ?_)
        have hP : va_P G vwCl (wm_X8_leads cA h0 h0_filter h0_filter_numbers h0_filter_words h0_ways h0_ways_by h0_ways_by_numbers h0_ways_by_words h0_ways_onward h0_ways_tails h0_ways_comesTo h0_trial h0_kept h0_spread h0_course h0_rows h0_changes h0_tape h0_bodies h0_causes s0__hasImage s0__hasCauses s0__stepsDone s0_filter__all s0_filter__v s0_filter__loss s0_filter__result s0_filter__over s0_filter__heldAll s0_filter__heldRounded s0_filter_numbers s0_filter_words o2 o3 o4 o5 o6 o7 o8 o9 o10 o11 o12 o13 o14 o15 o16 o17 o18) H := hP
        have hD : va_D A (wm_X8_leads cA h0 h0_filter h0_filter_numbers h0_filter_words h0_ways h0_ways_by h0_ways_by_numbers h0_ways_by_words h0_ways_onward h0_ways_tails h0_ways_comesTo h0_trial h0_kept h0_spread h0_course h0_rows h0_changes h0_tape h0_bodies h0_causes s0__hasImage s0__hasCauses s0__stepsDone s0_filter__all s0_filter__v s0_filter__loss s0_filter__result s0_filter__over s0_filter__heldAll s0_filter__heldRounded s0_filter_numbers s0_filter_words o2 o3 o4 o5 o6 o7 o8 o9 o10 o11 o12 o13 o14 o15 o16 o17 o18) := hD
        obtain ⟨e, hok⟩ := g_pr hok
        try subst e
        obtain ⟨e, hok⟩ := g_pr hok
        try subst e
        obtain ⟨e, hok⟩ := g_pr hok
        try subst e
        obtain ⟨e, hok⟩ := g_pr hok
        try subst e
        obtain ⟨e, hok⟩ := g_pr hok
        try subst e
        obtain ⟨e, hok⟩ := g_pr hok
        try subst e
        obtain ⟨e, hok⟩ := g_pr hok
        try subst e
        obtain ⟨e, hok⟩ := g_pr hok
        try subst e
        obtain ⟨e, hok⟩ := g_pr hok
        try subst e
        obtain ⟨e, hok⟩ := g_pr hok
        try subst e
        obtain ⟨e, hok⟩ := g_pr hok
        try subst e
        obtain ⟨e, hok⟩ := g_pr hok
        try subst e
        obtain ⟨e, hok⟩ := g_pr hok
        try subst e
        obtain ⟨e, hok⟩ := g_pr hok
        try subst e
        obtain ⟨e, hok⟩ := g_pr hok
        try subst e
        obtain ⟨e, hok⟩ := g_pr hok
        try subst e
        obtain ⟨e, hok⟩ := g_pr hok
        try subst e
        cases hok
        exact cr_i hx hb hr hlocks hQ dX8_cycle_88 hP hS
      replace hok := g_neg hok c1
      by_cases c2 : x3 = 2
      · replace hok := g_pos hok c2
        have e9 : (x3).toInt = 2 := by rw [c2]; rfl
        refine lv_tableIn (tgt := 89) (off := 40) hx hb dX8_cycle_49 (by rw [e9]; decide) (by rw [e9]; decide) (by rw [e9]; rfl) (by decide) ?_
        refine lv_aload_n hx hb dX8_cycle_89 rfl (lv_at hl 1 rfl) ?_
        refine va_get (ci := 8) (v := .ref h0_ways) (C := RX8) (T := TX8) (N := 14) hx hb hts hinX8 hown hK hP 0 rfl rfl 4 (by decide) (hts _ (List.mem_of_getElem? (i := 1) rfl)) (fun _ h9 => h9) rfl dX8_cycle_90 ?_
        refine lv_iload hx hb dX8_cycle_93 (lv_at hl 0 rfl) ?_
        obtain ⟨r21, hq, hok⟩ := g_bnd1 hok
        refine cG (is := [4, 5, 6, 9, 10]) (wc := (wm_X7_amplitudeOf cA h0_ways h0_ways_by h0_ways_by_numbers h0_ways_tails h0_ways_comesTo h0_ways_onward h0_ways_by_words o2 o3 o4 o5 o6 o7 o8 o9 o10 o11 o12 o13 o14 o17 o18)) (w1 := (wm_X7_amplitudeOf cA h0_ways h0_ways_by h0_ways_by_numbers h0_ways_tails h0_ways_comesTo h0_ways_onward h0_ways_by_words o2 o3 o4 o5 o6 o7 o8 o9 o10 o11 o12 o13 o14 o17 o18)) (rv := (some (.int r21))) (st1 := [.int r21]) (va_runV (Ts := wsX8_cycle) (As := [.int r19]) (rest := []) ⟨hx, hb, hml, hown, hts⟩ (c_X7_amplitudeOf l G cA ts h0_ways h0_ways_by h0_ways_by_numbers h0_ways_tails h0_ways_comesTo h0_ways_onward h0_ways_by_words r19 o2 o3 o4 o5 o6 o7 o8 o9 o10 o11 o12 o13 o14 o17 o18 r21 hq H.size) (cwV 1 hts gX8_cycle_X7_amplitudeOf rfl rfl rfl (by decide +kernel) ⟨Nat.le_of_ble_eq_true rfl, Nat.le_of_ble_eq_true rfl⟩) (pre_V (ci := 7) (q0 := 4) (is := [4, 5, 6, 9, 10]) rfl rfl hP hD hS hA hK hZ (by decide +kernel) (by rfl)) rfl rfl hl.1 rfl (by exact lv_room (Nat.le_of_ble_eq_true rfl)) dX8_cycle_95 ⟨Nat.le_refl _, Nat.le_refl _⟩) hP hD hS hA (by decide +kernel) (by rfl) (by rfl) rfl (fun H locs hP hD hS => ?_)
        have hP : va_P G vwCl (wm_X8_leads cA h0 h0_filter h0_filter_numbers h0_filter_words h0_ways h0_ways_by h0_ways_by_numbers h0_ways_by_words h0_ways_onward h0_ways_tails h0_ways_comesTo h0_trial h0_kept h0_spread h0_course h0_rows h0_changes h0_tape h0_bodies h0_causes s0__hasImage s0__hasCauses s0__stepsDone s0_filter__all s0_filter__v s0_filter__loss s0_filter__result s0_filter__over s0_filter__heldAll s0_filter__heldRounded s0_filter_numbers s0_filter_words o2 o3 o4 o5 o6 o7 o8 o9 o10 o11 o12 o13 o14 o15 o16 o17 o18) H := hP
        have hD : va_D A (wm_X8_leads cA h0 h0_filter h0_filter_numbers h0_filter_words h0_ways h0_ways_by h0_ways_by_numbers h0_ways_by_words h0_ways_onward h0_ways_tails h0_ways_comesTo h0_trial h0_kept h0_spread h0_course h0_rows h0_changes h0_tape h0_bodies h0_causes s0__hasImage s0__hasCauses s0__stepsDone s0_filter__all s0_filter__v s0_filter__loss s0_filter__result s0_filter__over s0_filter__heldAll s0_filter__heldRounded s0_filter_numbers s0_filter_words o2 o3 o4 o5 o6 o7 o8 o9 o10 o11 o12 o13 o14 o15 o16 o17 o18) := hD
        obtain ⟨e, hok⟩ := g_pr hok
        try subst e
        obtain ⟨e, hok⟩ := g_pr hok
        try subst e
        obtain ⟨e, hok⟩ := g_pr hok
        try subst e
        obtain ⟨e, hok⟩ := g_pr hok
        try subst e
        obtain ⟨e, hok⟩ := g_pr hok
        try subst e
        obtain ⟨e, hok⟩ := g_pr hok
        try subst e
        obtain ⟨e, hok⟩ := g_pr hok
        try subst e
        obtain ⟨e, hok⟩ := g_pr hok
        try subst e
        obtain ⟨e, hok⟩ := g_pr hok
        try subst e
        obtain ⟨e, hok⟩ := g_pr hok
        try subst e
        obtain ⟨e, hok⟩ := g_pr hok
        try subst e
        obtain ⟨e, hok⟩ := g_pr hok
        try subst e
        obtain ⟨e, hok⟩ := g_pr hok
        try subst e
        obtain ⟨e, hok⟩ := g_pr hok
        try subst e
        obtain ⟨e, hok⟩ := g_pr hok
        try subst e
        obtain ⟨e, hok⟩ := g_pr hok
        try subst e
        obtain ⟨e, hok⟩ := g_pr hok
        try subst e
        cases hok
        exact cr_i hx hb hr hlocks hQ dX8_cycle_98 hP hS
      replace hok := g_neg hok c2
      refine lv_tableOut (tgt := 99) hx hb dX8_cycle_49 (by have b0 := lv_neT (a := 0) c0 rfl; have b1 := lv_neT (a := 1) c1 rfl; have b2 := lv_neT (a := 2) c2 rfl; omega) (by decide) ?_
      refine lv_aload_n hx hb dX8_cycle_99 rfl (lv_at hl 1 rfl) ?_
      refine va_get (ci := 8) (v := .ref h0_ways) (C := RX8) (T := TX8) (N := 14) hx hb hts hinX8 hown hK hP 0 rfl rfl 4 (by decide) (hts _ (List.mem_of_getElem? (i := 1) rfl)) (fun _ h9 => h9) rfl dX8_cycle_100 ?_
      refine lv_iload hx hb dX8_cycle_103 (lv_at hl 0 rfl) ?_
      obtain ⟨r22, hq, hok⟩ := g_bnd1 hok
      refine cG (is := [4, 10]) (wc := (wm_X7_cycleFrom cA h0_ways h0_ways_comesTo h0_ways_by h0_ways_onward h0_ways_tails o2 o3 o4 o5 o6 o18)) (w1 := (wm_X7_cycleFrom cA h0_ways h0_ways_comesTo h0_ways_by h0_ways_onward h0_ways_tails o2 o3 o4 o5 o6 o18)) (rv := (some (.int r22))) (st1 := [.int r22]) (va_runV (Ts := wsX8_cycle) (As := [.int r19]) (rest := []) ⟨hx, hb, hml, hown, hts⟩ (c_X7_basinOf l G cA ts h0_ways h0_ways_comesTo h0_ways_by h0_ways_onward h0_ways_tails r19 o2 o3 o4 o5 o6 o18 r22 hq H.size) (cwV 1 hts gX8_cycle_X7_basinOf rfl rfl rfl (by decide +kernel) ⟨Nat.le_of_ble_eq_true rfl, Nat.le_of_ble_eq_true rfl⟩) (pre_V (ci := 7) (q0 := 4) (is := [4, 10]) rfl rfl hP hD hS hA hK hZ (by decide +kernel) (by rfl)) rfl rfl hl.1 rfl (by exact lv_room (Nat.le_of_ble_eq_true rfl)) dX8_cycle_105 ⟨Nat.le_refl _, Nat.le_refl _⟩) hP hD hS hA (by decide +kernel) (by rfl) (by rfl) rfl (fun H locs hP hD hS => ?_)
      have hP : va_P G vwCl (wm_X8_leads cA h0 h0_filter h0_filter_numbers h0_filter_words h0_ways h0_ways_by h0_ways_by_numbers h0_ways_by_words h0_ways_onward h0_ways_tails h0_ways_comesTo h0_trial h0_kept h0_spread h0_course h0_rows h0_changes h0_tape h0_bodies h0_causes s0__hasImage s0__hasCauses s0__stepsDone s0_filter__all s0_filter__v s0_filter__loss s0_filter__result s0_filter__over s0_filter__heldAll s0_filter__heldRounded s0_filter_numbers s0_filter_words o2 o3 o4 o5 o6 o7 o8 o9 o10 o11 o12 o13 o14 o15 o16 o17 o18) H := hP
      have hD : va_D A (wm_X8_leads cA h0 h0_filter h0_filter_numbers h0_filter_words h0_ways h0_ways_by h0_ways_by_numbers h0_ways_by_words h0_ways_onward h0_ways_tails h0_ways_comesTo h0_trial h0_kept h0_spread h0_course h0_rows h0_changes h0_tape h0_bodies h0_causes s0__hasImage s0__hasCauses s0__stepsDone s0_filter__all s0_filter__v s0_filter__loss s0_filter__result s0_filter__over s0_filter__heldAll s0_filter__heldRounded s0_filter_numbers s0_filter_words o2 o3 o4 o5 o6 o7 o8 o9 o10 o11 o12 o13 o14 o15 o16 o17 o18) := hD
      obtain ⟨e, hok⟩ := g_pr hok
      try subst e
      obtain ⟨e, hok⟩ := g_pr hok
      try subst e
      obtain ⟨e, hok⟩ := g_pr hok
      try subst e
      obtain ⟨e, hok⟩ := g_pr hok
      try subst e
      obtain ⟨e, hok⟩ := g_pr hok
      try subst e
      obtain ⟨e, hok⟩ := g_pr hok
      try subst e
      obtain ⟨e, hok⟩ := g_pr hok
      try subst e
      obtain ⟨e, hok⟩ := g_pr hok
      try subst e
      obtain ⟨e, hok⟩ := g_pr hok
      try subst e
      obtain ⟨e, hok⟩ := g_pr hok
      try subst e
      obtain ⟨e, hok⟩ := g_pr hok
      try subst e
      obtain ⟨e, hok⟩ := g_pr hok
      try subst e
      obtain ⟨e, hok⟩ := g_pr hok
      try subst e
      obtain ⟨e, hok⟩ := g_pr hok
      try subst e
      obtain ⟨e, hok⟩ := g_pr hok
      try subst e
      obtain ⟨e, hok⟩ := g_pr hok
      try subst e
      obtain ⟨e, hok⟩ := g_pr hok
      try subst e
      cases hok
      exact cr_i hx hb hr hlocks hQ dX8_cycle_108 hP hS
    replace hok := g_neg hok c
    refine lv_bipush (v := -2) hx hb dX8_cycle_45 (by decide) ?_
    obtain ⟨e, hok⟩ := g_pr hok
    try subst e
    obtain ⟨e, hok⟩ := g_pr hok
    try subst e
    obtain ⟨e, hok⟩ := g_pr hok
    try subst e
    obtain ⟨e, hok⟩ := g_pr hok
    try subst e
    obtain ⟨e, hok⟩ := g_pr hok
    try subst e
    obtain ⟨e, hok⟩ := g_pr hok
    try subst e
    obtain ⟨e, hok⟩ := g_pr hok
    try subst e
    obtain ⟨e, hok⟩ := g_pr hok
    try subst e
    obtain ⟨e, hok⟩ := g_pr hok
    try subst e
    obtain ⟨e, hok⟩ := g_pr hok
    try subst e
    obtain ⟨e, hok⟩ := g_pr hok
    try subst e
    obtain ⟨e, hok⟩ := g_pr hok
    try subst e
    obtain ⟨e, hok⟩ := g_pr hok
    try subst e
    obtain ⟨e, hok⟩ := g_pr hok
    try subst e
    obtain ⟨e, hok⟩ := g_pr hok
    try subst e
    obtain ⟨e, hok⟩ := g_pr hok
    try subst e
    obtain ⟨e, hok⟩ := g_pr hok
    try subst e
    cases hok
    exact cr_i hx hb hr hlocks hQ dX8_cycle_47 hP hS
  replace hok := g_neg hok c
  refine lv_iconst (v := -1) hx hb dX8_cycle_16 (by decide) ?_
  obtain ⟨e, hok⟩ := g_pr hok
  try subst e
  obtain ⟨e, hok⟩ := g_pr hok
  try subst e
  obtain ⟨e, hok⟩ := g_pr hok
  try subst e
  obtain ⟨e, hok⟩ := g_pr hok
  try subst e
  obtain ⟨e, hok⟩ := g_pr hok
  try subst e
  obtain ⟨e, hok⟩ := g_pr hok
  try subst e
  obtain ⟨e, hok⟩ := g_pr hok
  try subst e
  obtain ⟨e, hok⟩ := g_pr hok
  try subst e
  obtain ⟨e, hok⟩ := g_pr hok
  try subst e
  obtain ⟨e, hok⟩ := g_pr hok
  try subst e
  obtain ⟨e, hok⟩ := g_pr hok
  try subst e
  obtain ⟨e, hok⟩ := g_pr hok
  try subst e
  obtain ⟨e, hok⟩ := g_pr hok
  try subst e
  obtain ⟨e, hok⟩ := g_pr hok
  try subst e
  obtain ⟨e, hok⟩ := g_pr hok
  try subst e
  obtain ⟨e, hok⟩ := g_pr hok
  try subst e
  obtain ⟨e, hok⟩ := g_pr hok
  try subst e
  cases hok
  exact cr_i hx hb hr hlocks hQ dX8_cycle_17 hP hS
set_option maxHeartbeats 40000000 in
set_option maxRecDepth 100000 in
theorem c_X8_onCycle (l : Launch) (G : va_G) (cA : Nat → ClassId) (ts : Nat → Nat) (h0 : Nat) (h0_filter : Nat) (h0_filter_numbers : Nat) (h0_filter_words : Nat) (h0_ways : Nat) (h0_ways_by : Nat) (h0_ways_by_numbers : Nat) (h0_ways_by_words : Nat) (h0_ways_onward : Nat) (h0_ways_tails : Nat) (h0_ways_comesTo : Nat) (h0_trial : Nat) (h0_kept : Nat) (h0_spread : Nat) (h0_course : Nat) (h0_rows : Nat) (h0_changes : Nat) (h0_tape : Nat) (h0_bodies : Nat) (h0_causes : Nat) (x1 : Int32) (x2 : Int32) (x3 : Int32) (s0__hasImage : Int32) (s0__hasCauses : Int32) (s0__stepsDone : Int32) (s0_filter__all : Int32) (s0_filter__v : Int32) (s0_filter__loss : Int32) (s0_filter__result : Int32) (s0_filter__over : Int32) (s0_filter__heldAll : Int32) (s0_filter__heldRounded : Int32) (s0_filter_numbers : Nat → Int32) (s0_filter_words : Nat → Int32) (s0_ways__size : Int32) (s0_ways__told : Int32) (s0_ways__whole : Int32) (s0_ways__anyStuck : Int32) (s0_ways__loudest : Int32) (s0_ways_by__all : Int32) (s0_ways_by__v : Int32) (s0_ways_by__loss : Int32) (s0_ways_by__result : Int32) (s0_ways_by__over : Int32) (s0_ways_by__heldAll : Int32) (s0_ways_by__heldRounded : Int32) (s0_ways_by_numbers : Nat → Int32) (s0_ways_by_words : Nat → Int32) (s0_ways_onward : Nat → Int32) (s0_ways_tails : Nat → Int32) (s0_ways_comesTo : Nat → Int32) (r : Int32) (o0_ways__size : Int32) (o0_ways__told : Int32) (o0_ways__whole : Int32) (o0_ways__anyStuck : Int32) (o0_ways__loudest : Int32) (o0_ways_by__all : Int32) (o0_ways_by__v : Int32) (o0_ways_by__loss : Int32) (o0_ways_by__result : Int32) (o0_ways_by__over : Int32) (o0_ways_by__heldAll : Int32) (o0_ways_by__heldRounded : Int32) (o0_ways_by_numbers : Nat → Int32) (o0_ways_by_words : Nat → Int32) (o0_ways_onward : Nat → Int32) (o0_ways_tails : Nat → Int32) (o0_ways_comesTo : Nat → Int32) (hok : fX8_onCycle x1 x2 x3 s0_filter_numbers s0_filter_words s0_ways__size s0_ways__told s0_ways__whole s0_ways__anyStuck s0_ways__loudest s0_ways_by__all s0_ways_by__v s0_ways_by__loss s0_ways_by__result s0_ways_by__over s0_ways_by__heldAll s0_ways_by__heldRounded s0_ways_by_numbers s0_ways_by_words s0_ways_onward s0_ways_tails s0_ways_comesTo = some (r, o0_ways__size, o0_ways__told, o0_ways__whole, o0_ways__anyStuck, o0_ways__loudest, o0_ways_by__all, o0_ways_by__v, o0_ways_by__loss, o0_ways_by__result, o0_ways_by__over, o0_ways_by__heldAll, o0_ways_by__heldRounded, o0_ways_by_numbers, o0_ways_by_words, o0_ways_onward, o0_ways_tails, o0_ways_comesTo)) : Ct l G cA ts yX8_onCycle wsX8_onCycle 7 172 [.ref h0, .int x1, .int x2, .int x3] (wm_X8_leads cA h0 h0_filter h0_filter_numbers h0_filter_words h0_ways h0_ways_by h0_ways_by_numbers h0_ways_by_words h0_ways_onward h0_ways_tails h0_ways_comesTo h0_trial h0_kept h0_spread h0_course h0_rows h0_changes h0_tape h0_bodies h0_causes s0__hasImage s0__hasCauses s0__stepsDone s0_filter__all s0_filter__v s0_filter__loss s0_filter__result s0_filter__over s0_filter__heldAll s0_filter__heldRounded s0_filter_numbers s0_filter_words s0_ways__size s0_ways__told s0_ways__whole s0_ways__anyStuck s0_ways__loudest s0_ways_by__all s0_ways_by__v s0_ways_by__loss s0_ways_by__result s0_ways_by__over s0_ways_by__heldAll s0_ways_by__heldRounded s0_ways_by_numbers s0_ways_by_words s0_ways_onward s0_ways_tails s0_ways_comesTo) (wm_X8_leads cA h0 h0_filter h0_filter_numbers h0_filter_words h0_ways h0_ways_by h0_ways_by_numbers h0_ways_by_words h0_ways_onward h0_ways_tails h0_ways_comesTo h0_trial h0_kept h0_spread h0_course h0_rows h0_changes h0_tape h0_bodies h0_causes s0__hasImage s0__hasCauses s0__stepsDone s0_filter__all s0_filter__v s0_filter__loss s0_filter__result s0_filter__over s0_filter__heldAll s0_filter__heldRounded s0_filter_numbers s0_filter_words o0_ways__size o0_ways__told o0_ways__whole o0_ways__anyStuck o0_ways__loudest o0_ways_by__all o0_ways_by__v o0_ways_by__loss o0_ways_by__result o0_ways_by__over o0_ways_by__heldAll o0_ways_by__heldRounded o0_ways_by_numbers o0_ways_by_words o0_ways_onward o0_ways_tails o0_ways_comesTo) (some (.int r)) := by
  refine Ct.intro (cc := cX8_onCycle) (maxL := 5) (ret := some .int) (by decide +kernel) rfl (Nat.le_of_ble_eq_true rfl) ?_
  intro p e s m ar below meth c A Q hx hb hr hml hown hlocks hts hK hZ hA hQ hP hD hS ls hl
  have hown : s.vm.findClass RX8 = some m.cls := hown
  have hinX8 : ∀ w ∈ wsX80, w ∈ wsX8_onCycle := fun _ h => List.mem_cons_of_mem _ (List.mem_append_left _ (List.mem_append_left _ (List.mem_append_right _ (h))))
  have hl : lv_has ls 5 [(0, .ref h0), (1, .int x1), (2, .int x2), (3, .int x3)] := hl
  have hP : va_P G vwCl (wm_X8_leads cA h0 h0_filter h0_filter_numbers h0_filter_words h0_ways h0_ways_by h0_ways_by_numbers h0_ways_by_words h0_ways_onward h0_ways_tails h0_ways_comesTo h0_trial h0_kept h0_spread h0_course h0_rows h0_changes h0_tape h0_bodies h0_causes s0__hasImage s0__hasCauses s0__stepsDone s0_filter__all s0_filter__v s0_filter__loss s0_filter__result s0_filter__over s0_filter__heldAll s0_filter__heldRounded s0_filter_numbers s0_filter_words s0_ways__size s0_ways__told s0_ways__whole s0_ways__anyStuck s0_ways__loudest s0_ways_by__all s0_ways_by__v s0_ways_by__loss s0_ways_by__result s0_ways_by__over s0_ways_by__heldAll s0_ways_by__heldRounded s0_ways_by_numbers s0_ways_by_words s0_ways_onward s0_ways_tails s0_ways_comesTo) s.heap := hP
  have hD : va_D A (wm_X8_leads cA h0 h0_filter h0_filter_numbers h0_filter_words h0_ways h0_ways_by h0_ways_by_numbers h0_ways_by_words h0_ways_onward h0_ways_tails h0_ways_comesTo h0_trial h0_kept h0_spread h0_course h0_rows h0_changes h0_tape h0_bodies h0_causes s0__hasImage s0__hasCauses s0__stepsDone s0_filter__all s0_filter__v s0_filter__loss s0_filter__result s0_filter__over s0_filter__heldAll s0_filter__heldRounded s0_filter_numbers s0_filter_words s0_ways__size s0_ways__told s0_ways__whole s0_ways__anyStuck s0_ways__loudest s0_ways_by__all s0_ways_by__v s0_ways_by__loss s0_ways_by__result s0_ways_by__over s0_ways_by__heldAll s0_ways_by__heldRounded s0_ways_by_numbers s0_ways_by_words s0_ways_onward s0_ways_tails s0_ways_comesTo) := hD
  unfold fX8_onCycle at hok
  refine lv_iload_n hx hb dX8_onCycle_0 rfl (lv_at hl 1 rfl) ?_
  obtain ⟨r1, hq, hok⟩ := g_bnd1 hok
  refine cG (is := []) (wc := (wm_X0_find cA)) (w1 := (wm_X0_find cA)) (rv := (some (.int r1))) (st1 := [.int r1]) (va_runS (Ts := wsX8_onCycle) (As := [.int x1]) (rest := []) ⟨hx, hb, hml, hown, hts⟩ (c_X8_isInput l G cA ts x1 r1 hq s.heap.size) (va_cwS 1 hts gX8_onCycle_X8_isInput rfl rfl rfl (by decide +kernel) ⟨Nat.le_of_ble_eq_true rfl, Nat.le_of_ble_eq_true rfl⟩) (pre_S (is := []) hP hD hS hA hK hZ (by decide +kernel) (by rfl)) rfl rfl hl.1 rfl (by exact lv_room (Nat.le_of_ble_eq_true rfl)) dX8_onCycle_1 ⟨Nat.le_refl _, Nat.le_refl _⟩) hP hD hS hA (by decide +kernel) (by rfl) (by rfl) rfl (fun H locs hP hD hS => ?_)
  have hP : va_P G vwCl (wm_X8_leads cA h0 h0_filter h0_filter_numbers h0_filter_words h0_ways h0_ways_by h0_ways_by_numbers h0_ways_by_words h0_ways_onward h0_ways_tails h0_ways_comesTo h0_trial h0_kept h0_spread h0_course h0_rows h0_changes h0_tape h0_bodies h0_causes s0__hasImage s0__hasCauses s0__stepsDone s0_filter__all s0_filter__v s0_filter__loss s0_filter__result s0_filter__over s0_filter__heldAll s0_filter__heldRounded s0_filter_numbers s0_filter_words s0_ways__size s0_ways__told s0_ways__whole s0_ways__anyStuck s0_ways__loudest s0_ways_by__all s0_ways_by__v s0_ways_by__loss s0_ways_by__result s0_ways_by__over s0_ways_by__heldAll s0_ways_by__heldRounded s0_ways_by_numbers s0_ways_by_words s0_ways_onward s0_ways_tails s0_ways_comesTo) H := hP
  have hD : va_D A (wm_X8_leads cA h0 h0_filter h0_filter_numbers h0_filter_words h0_ways h0_ways_by h0_ways_by_numbers h0_ways_by_words h0_ways_onward h0_ways_tails h0_ways_comesTo h0_trial h0_kept h0_spread h0_course h0_rows h0_changes h0_tape h0_bodies h0_causes s0__hasImage s0__hasCauses s0__stepsDone s0_filter__all s0_filter__v s0_filter__loss s0_filter__result s0_filter__over s0_filter__heldAll s0_filter__heldRounded s0_filter_numbers s0_filter_words s0_ways__size s0_ways__told s0_ways__whole s0_ways__anyStuck s0_ways__loudest s0_ways_by__all s0_ways_by__v s0_ways_by__loss s0_ways_by__result s0_ways_by__over s0_ways_by__heldAll s0_ways_by__heldRounded s0_ways_by_numbers s0_ways_by_words s0_ways_onward s0_ways_tails s0_ways_comesTo) := hD
  refine lv_if_eq (tgt := 11) hx hb dX8_onCycle_4 (by decide) (fun c => ?_) (fun c => ?_)
  · replace hok := g_pos hok c
    refine lv_iconst (v := -1) hx hb dX8_onCycle_11 (by decide) ?_
    obtain ⟨e, hok⟩ := g_pr hok
    try subst e
    obtain ⟨e, hok⟩ := g_pr hok
    try subst e
    obtain ⟨e, hok⟩ := g_pr hok
    try subst e
    obtain ⟨e, hok⟩ := g_pr hok
    try subst e
    obtain ⟨e, hok⟩ := g_pr hok
    try subst e
    obtain ⟨e, hok⟩ := g_pr hok
    try subst e
    obtain ⟨e, hok⟩ := g_pr hok
    try subst e
    obtain ⟨e, hok⟩ := g_pr hok
    try subst e
    obtain ⟨e, hok⟩ := g_pr hok
    try subst e
    obtain ⟨e, hok⟩ := g_pr hok
    try subst e
    obtain ⟨e, hok⟩ := g_pr hok
    try subst e
    obtain ⟨e, hok⟩ := g_pr hok
    try subst e
    obtain ⟨e, hok⟩ := g_pr hok
    try subst e
    obtain ⟨e, hok⟩ := g_pr hok
    try subst e
    obtain ⟨e, hok⟩ := g_pr hok
    try subst e
    obtain ⟨e, hok⟩ := g_pr hok
    try subst e
    obtain ⟨e, hok⟩ := g_pr hok
    try subst e
    cases hok
    exact cr_i hx hb hr hlocks hQ dX8_onCycle_12 hP hS
  replace hok := g_neg hok c
  refine lv_iload_n hx hb dX8_onCycle_7 rfl (lv_at hl 3 rfl) ?_
  refine lv_if_ge (tgt := 13) hx hb dX8_onCycle_8 (by decide) (fun c => ?_) (fun c => ?_)
  · replace hok := g_pos hok c
    refine lv_aload_n hx hb dX8_onCycle_13 rfl (lv_at hl 0 rfl) ?_
    refine va_get (ci := 8) (v := .ref h0_ways) (C := RX8) (T := TX8) (N := 14) hx hb hts hinX8 hown hK hP 0 rfl rfl 4 (by decide) (hts _ (List.mem_of_getElem? (i := 1) rfl)) (fun _ h9 => h9) rfl dX8_onCycle_14 ?_
    refine lv_aload_n hx hb dX8_onCycle_17 rfl (lv_at hl 0 rfl) ?_
    refine va_get (ci := 8) (v := .ref h0_filter) (C := RX8) (T := TX8) (N := 14) hx hb hts hinX8 hown hK hP 0 rfl rfl 0 (by decide) (hts _ (List.mem_of_getElem? (i := 2) rfl)) (fun _ h9 => h9) rfl dX8_onCycle_18 ?_
    refine lv_iload_n hx hb dX8_onCycle_21 rfl (lv_at hl 1 rfl) ?_
    obtain ⟨o2, o3, o4, o5, o6, o7, o8, o9, o10, o11, o12, o13, o14, o15, o16, o17, o18, hq, hok⟩ := g_bnd17 hok
    refine cG (is := [4, 5, 6, 7, 8, 9, 10, 1, 2, 3]) (wc := (wm_X7_draw cA h0_ways h0_ways_by h0_ways_by_numbers h0_ways_by_words h0_ways_onward h0_ways_tails h0_ways_comesTo h0_filter h0_filter_numbers h0_filter_words s0_ways__size s0_ways__told s0_ways__whole s0_ways__anyStuck s0_ways__loudest s0_ways_by__all s0_ways_by__v s0_ways_by__loss s0_ways_by__result s0_ways_by__over s0_ways_by__heldAll s0_ways_by__heldRounded s0_ways_by_numbers s0_ways_by_words s0_ways_onward s0_ways_tails s0_ways_comesTo s0_filter__all s0_filter__v s0_filter__loss s0_filter__result s0_filter__over s0_filter__heldAll s0_filter__heldRounded s0_filter_numbers s0_filter_words)) (w1 := (wm_X7_draw cA h0_ways h0_ways_by h0_ways_by_numbers h0_ways_by_words h0_ways_onward h0_ways_tails h0_ways_comesTo h0_filter h0_filter_numbers h0_filter_words o2 o3 o4 o5 o6 o7 o8 o9 o10 o11 o12 o13 o14 o15 o16 o17 o18 s0_filter__all s0_filter__v s0_filter__loss s0_filter__result s0_filter__over s0_filter__heldAll s0_filter__heldRounded s0_filter_numbers s0_filter_words)) (rv := none) (st1 := []) (va_runV (Ts := wsX8_onCycle) (As := [.ref h0_filter, .int x1]) (rest := []) ⟨hx, hb, hml, hown, hts⟩ (c_X7_draw l G cA ts h0_ways h0_ways_by h0_ways_by_numbers h0_ways_by_words h0_ways_onward h0_ways_tails h0_ways_comesTo h0_filter h0_filter_numbers h0_filter_words x1 s0_ways__size s0_ways__told s0_ways__whole s0_ways__anyStuck s0_ways__loudest s0_ways_by__all s0_ways_by__v s0_ways_by__loss s0_ways_by__result s0_ways_by__over s0_ways_by__heldAll s0_ways_by__heldRounded s0_ways_by_numbers s0_ways_by_words s0_ways_onward s0_ways_tails s0_ways_comesTo s0_filter__all s0_filter__v s0_filter__loss s0_filter__result s0_filter__over s0_filter__heldAll s0_filter__heldRounded s0_filter_numbers s0_filter_words o2 o3 o4 o5 o6 o7 o8 o9 o10 o11 o12 o13 o14 o15 o16 o17 o18 hq H.size) (cwV 2 hts gX8_onCycle_X7_draw rfl rfl rfl (by decide +kernel) ⟨Nat.le_of_ble_eq_true rfl, Nat.le_of_ble_eq_true rfl⟩) (pre_V (ci := 7) (q0 := 4) (is := [4, 5, 6, 7, 8, 9, 10, 1, 2, 3]) rfl rfl hP hD hS hA hK hZ (by decide +kernel) (by rfl)) rfl rfl hl.1 rfl (by exact lv_room (Nat.le_of_ble_eq_true rfl)) dX8_onCycle_22 ⟨Nat.le_refl _, Nat.le_refl _⟩) hP hD hS hA (by decide +kernel) (by rfl) (by rfl) rfl (fun H locs hP hD hS => ?_)
    obtain ⟨hP, hD⟩ : va_P G vwCl (wm_X8_leads cA h0 h0_filter h0_filter_numbers h0_filter_words h0_ways h0_ways_by h0_ways_by_numbers h0_ways_by_words h0_ways_onward h0_ways_tails h0_ways_comesTo h0_trial h0_kept h0_spread h0_course h0_rows h0_changes h0_tape h0_bodies h0_causes s0__hasImage s0__hasCauses s0__stepsDone s0_filter__all s0_filter__v s0_filter__loss s0_filter__result s0_filter__over s0_filter__heldAll s0_filter__heldRounded s0_filter_numbers s0_filter_words o2 o3 o4 o5 o6 o7 o8 o9 o10 o11 o12 o13 o14 o15 o16 o17 o18) H ∧ va_D A (wm_X8_leads cA h0 h0_filter h0_filter_numbers h0_filter_words h0_ways h0_ways_by h0_ways_by_numbers h0_ways_by_words h0_ways_onward h0_ways_tails h0_ways_comesTo h0_trial h0_kept h0_spread h0_course h0_rows h0_changes h0_tape h0_bodies h0_causes s0__hasImage s0__hasCauses s0__stepsDone s0_filter__all s0_filter__v s0_filter__loss s0_filter__result s0_filter__over s0_filter__heldAll s0_filter__heldRounded s0_filter_numbers s0_filter_words o2 o3 o4 o5 o6 o7 o8 o9 o10 o11 o12 o13 o14 o15 o16 o17 o18) := PD_eq hP hD (rp_eq (js := [0]) 11 (by decide +kernel) rfl rfl (by rfl) (by rfl) (by decide +kernel))
    refine lv_aload_n hx hb dX8_onCycle_25 rfl (lv_at hl 0 rfl) ?_
    refine va_get (ci := 8) (v := .ref h0_ways) (C := RX8) (T := TX8) (N := 14) hx hb hts hinX8 hown hK hP 0 rfl rfl 4 (by decide) (hts _ (List.mem_of_getElem? (i := 1) rfl)) (fun _ h9 => h9) rfl dX8_onCycle_26 ?_
    refine lv_iload_n hx hb dX8_onCycle_29 rfl (lv_at hl 2 rfl) ?_
    obtain ⟨r19, hq, hok⟩ := g_bnd1 hok
    refine cG (is := [4, 10]) (wc := (wm_X7_cycleFrom cA h0_ways h0_ways_comesTo h0_ways_by h0_ways_onward h0_ways_tails o2 o3 o4 o5 o6 o18)) (w1 := (wm_X7_cycleFrom cA h0_ways h0_ways_comesTo h0_ways_by h0_ways_onward h0_ways_tails o2 o3 o4 o5 o6 o18)) (rv := (some (.int r19))) (st1 := [.int r19]) (va_runV (Ts := wsX8_onCycle) (As := [.int x2]) (rest := []) ⟨hx, hb, hml, hown, hts⟩ (c_X7_cycleNumbered l G cA ts h0_ways h0_ways_comesTo h0_ways_by h0_ways_onward h0_ways_tails x2 o2 o3 o4 o5 o6 o18 r19 hq H.size) (cwV 1 hts gX8_onCycle_X7_cycleNumbered rfl rfl rfl (by decide +kernel) ⟨Nat.le_of_ble_eq_true rfl, Nat.le_of_ble_eq_true rfl⟩) (pre_V (ci := 7) (q0 := 4) (is := [4, 10]) rfl rfl hP hD hS hA hK hZ (by decide +kernel) (by rfl)) rfl rfl hl.1 rfl (by exact lv_room (Nat.le_of_ble_eq_true rfl)) dX8_onCycle_30 ⟨Nat.le_refl _, Nat.le_refl _⟩) hP hD hS hA (by decide +kernel) (by rfl) (by rfl) rfl (fun H locs hP hD hS => ?_)
    have hP : va_P G vwCl (wm_X8_leads cA h0 h0_filter h0_filter_numbers h0_filter_words h0_ways h0_ways_by h0_ways_by_numbers h0_ways_by_words h0_ways_onward h0_ways_tails h0_ways_comesTo h0_trial h0_kept h0_spread h0_course h0_rows h0_changes h0_tape h0_bodies h0_causes s0__hasImage s0__hasCauses s0__stepsDone s0_filter__all s0_filter__v s0_filter__loss s0_filter__result s0_filter__over s0_filter__heldAll s0_filter__heldRounded s0_filter_numbers s0_filter_words o2 o3 o4 o5 o6 o7 o8 o9 o10 o11 o12 o13 o14 o15 o16 o17 o18) H := hP
    have hD : va_D A (wm_X8_leads cA h0 h0_filter h0_filter_numbers h0_filter_words h0_ways h0_ways_by h0_ways_by_numbers h0_ways_by_words h0_ways_onward h0_ways_tails h0_ways_comesTo h0_trial h0_kept h0_spread h0_course h0_rows h0_changes h0_tape h0_bodies h0_causes s0__hasImage s0__hasCauses s0__stepsDone s0_filter__all s0_filter__v s0_filter__loss s0_filter__result s0_filter__over s0_filter__heldAll s0_filter__heldRounded s0_filter_numbers s0_filter_words o2 o3 o4 o5 o6 o7 o8 o9 o10 o11 o12 o13 o14 o15 o16 o17 o18) := hD
    refine lv_istore (lv' := [(4, .int r19), (0, .ref h0), (1, .int x1), (2, .int x2), (3, .int x3)]) hx hb dX8_onCycle_33 hl (by decide) rfl (fun ls hl => ?_)
    refine lv_iload hx hb dX8_onCycle_35 (lv_at hl 0 rfl) ?_
    refine lv_if_ge (tgt := 45) hx hb dX8_onCycle_37 (by decide) (fun c => ?_) (fun c => ?_)
    · replace hok := g_pos hok c
      refine lv_aload_n hx hb dX8_onCycle_45 rfl (lv_at hl 1 rfl) ?_
      refine va_get (ci := 8) (v := .ref h0_ways) (C := RX8) (T := TX8) (N := 14) hx hb hts hinX8 hown hK hP 0 rfl rfl 4 (by decide) (hts _ (List.mem_of_getElem? (i := 1) rfl)) (fun _ h9 => h9) rfl dX8_onCycle_46 ?_
      refine lv_iload hx hb dX8_onCycle_49 (lv_at hl 0 rfl) ?_
      refine lv_iload_n hx hb dX8_onCycle_51 rfl (lv_at hl 4 rfl) ?_
      obtain ⟨r20, hq, hok⟩ := g_bnd1 hok
      refine cG (is := [4, 8, 9, 10]) (wc := (wm_X7_joinWay cA h0_ways h0_ways_onward h0_ways_tails h0_ways_comesTo h0_ways_by o2 o3 o4 o5 o6 o16 o17 o18)) (w1 := (wm_X7_joinWay cA h0_ways h0_ways_onward h0_ways_tails h0_ways_comesTo h0_ways_by o2 o3 o4 o5 o6 o16 o17 o18)) (rv := (some (.int r20))) (st1 := [.int r20]) (va_runV (Ts := wsX8_onCycle) (As := [.int r19, .int x3]) (rest := []) ⟨hx, hb, hml, hown, hts⟩ (c_X7_behindOnCycle l G cA ts h0_ways h0_ways_onward h0_ways_tails h0_ways_comesTo h0_ways_by r19 x3 o2 o3 o4 o5 o6 o16 o17 o18 r20 hq H.size) (cwV 2 hts gX8_onCycle_X7_behindOnCycle rfl rfl rfl (by decide +kernel) ⟨Nat.le_of_ble_eq_true rfl, Nat.le_of_ble_eq_true rfl⟩) (pre_V (ci := 7) (q0 := 4) (is := [4, 8, 9, 10]) rfl rfl hP hD hS hA hK hZ (by decide +kernel) (by rfl)) rfl rfl hl.1 rfl (by exact lv_room (Nat.le_of_ble_eq_true rfl)) dX8_onCycle_52 ⟨Nat.le_refl _, Nat.le_refl _⟩) hP hD hS hA (by decide +kernel) (by rfl) (by rfl) rfl (fun H locs hP hD hS => ?_)
      have hP : va_P G vwCl (wm_X8_leads cA h0 h0_filter h0_filter_numbers h0_filter_words h0_ways h0_ways_by h0_ways_by_numbers h0_ways_by_words h0_ways_onward h0_ways_tails h0_ways_comesTo h0_trial h0_kept h0_spread h0_course h0_rows h0_changes h0_tape h0_bodies h0_causes s0__hasImage s0__hasCauses s0__stepsDone s0_filter__all s0_filter__v s0_filter__loss s0_filter__result s0_filter__over s0_filter__heldAll s0_filter__heldRounded s0_filter_numbers s0_filter_words o2 o3 o4 o5 o6 o7 o8 o9 o10 o11 o12 o13 o14 o15 o16 o17 o18) H := hP
      have hD : va_D A (wm_X8_leads cA h0 h0_filter h0_filter_numbers h0_filter_words h0_ways h0_ways_by h0_ways_by_numbers h0_ways_by_words h0_ways_onward h0_ways_tails h0_ways_comesTo h0_trial h0_kept h0_spread h0_course h0_rows h0_changes h0_tape h0_bodies h0_causes s0__hasImage s0__hasCauses s0__stepsDone s0_filter__all s0_filter__v s0_filter__loss s0_filter__result s0_filter__over s0_filter__heldAll s0_filter__heldRounded s0_filter_numbers s0_filter_words o2 o3 o4 o5 o6 o7 o8 o9 o10 o11 o12 o13 o14 o15 o16 o17 o18) := hD
      obtain ⟨e, hok⟩ := g_pr hok
      try subst e
      obtain ⟨e, hok⟩ := g_pr hok
      try subst e
      obtain ⟨e, hok⟩ := g_pr hok
      try subst e
      obtain ⟨e, hok⟩ := g_pr hok
      try subst e
      obtain ⟨e, hok⟩ := g_pr hok
      try subst e
      obtain ⟨e, hok⟩ := g_pr hok
      try subst e
      obtain ⟨e, hok⟩ := g_pr hok
      try subst e
      obtain ⟨e, hok⟩ := g_pr hok
      try subst e
      obtain ⟨e, hok⟩ := g_pr hok
      try subst e
      obtain ⟨e, hok⟩ := g_pr hok
      try subst e
      obtain ⟨e, hok⟩ := g_pr hok
      try subst e
      obtain ⟨e, hok⟩ := g_pr hok
      try subst e
      obtain ⟨e, hok⟩ := g_pr hok
      try subst e
      obtain ⟨e, hok⟩ := g_pr hok
      try subst e
      obtain ⟨e, hok⟩ := g_pr hok
      try subst e
      obtain ⟨e, hok⟩ := g_pr hok
      try subst e
      obtain ⟨e, hok⟩ := g_pr hok
      try subst e
      cases hok
      exact cr_i hx hb hr hlocks hQ dX8_onCycle_55 hP hS
    replace hok := g_neg hok c
    refine lv_bipush (v := -2) hx hb dX8_onCycle_40 (by decide) ?_
    refine lv_goto (tgt := 55) hx hb dX8_onCycle_42 (by decide) ?_
    obtain ⟨e, hok⟩ := g_pr hok
    try subst e
    obtain ⟨e, hok⟩ := g_pr hok
    try subst e
    obtain ⟨e, hok⟩ := g_pr hok
    try subst e
    obtain ⟨e, hok⟩ := g_pr hok
    try subst e
    obtain ⟨e, hok⟩ := g_pr hok
    try subst e
    obtain ⟨e, hok⟩ := g_pr hok
    try subst e
    obtain ⟨e, hok⟩ := g_pr hok
    try subst e
    obtain ⟨e, hok⟩ := g_pr hok
    try subst e
    obtain ⟨e, hok⟩ := g_pr hok
    try subst e
    obtain ⟨e, hok⟩ := g_pr hok
    try subst e
    obtain ⟨e, hok⟩ := g_pr hok
    try subst e
    obtain ⟨e, hok⟩ := g_pr hok
    try subst e
    obtain ⟨e, hok⟩ := g_pr hok
    try subst e
    obtain ⟨e, hok⟩ := g_pr hok
    try subst e
    obtain ⟨e, hok⟩ := g_pr hok
    try subst e
    obtain ⟨e, hok⟩ := g_pr hok
    try subst e
    obtain ⟨e, hok⟩ := g_pr hok
    try subst e
    cases hok
    exact cr_i hx hb hr hlocks hQ dX8_onCycle_55 hP hS
  replace hok := g_neg hok c
  refine lv_iconst (v := -1) hx hb dX8_onCycle_11 (by decide) ?_
  obtain ⟨e, hok⟩ := g_pr hok
  try subst e
  obtain ⟨e, hok⟩ := g_pr hok
  try subst e
  obtain ⟨e, hok⟩ := g_pr hok
  try subst e
  obtain ⟨e, hok⟩ := g_pr hok
  try subst e
  obtain ⟨e, hok⟩ := g_pr hok
  try subst e
  obtain ⟨e, hok⟩ := g_pr hok
  try subst e
  obtain ⟨e, hok⟩ := g_pr hok
  try subst e
  obtain ⟨e, hok⟩ := g_pr hok
  try subst e
  obtain ⟨e, hok⟩ := g_pr hok
  try subst e
  obtain ⟨e, hok⟩ := g_pr hok
  try subst e
  obtain ⟨e, hok⟩ := g_pr hok
  try subst e
  obtain ⟨e, hok⟩ := g_pr hok
  try subst e
  obtain ⟨e, hok⟩ := g_pr hok
  try subst e
  obtain ⟨e, hok⟩ := g_pr hok
  try subst e
  obtain ⟨e, hok⟩ := g_pr hok
  try subst e
  obtain ⟨e, hok⟩ := g_pr hok
  try subst e
  obtain ⟨e, hok⟩ := g_pr hok
  try subst e
  cases hok
  exact cr_i hx hb hr hlocks hQ dX8_onCycle_12 hP hS
set_option maxHeartbeats 40000000 in
set_option maxRecDepth 100000 in
theorem c_X8_reach (l : Launch) (G : va_G) (cA : Nat → ClassId) (ts : Nat → Nat) (h0 : Nat) (h0_filter : Nat) (h0_filter_numbers : Nat) (h0_filter_words : Nat) (h0_trial : Nat) (h0_trial_numbers : Nat) (h0_trial_words : Nat) (h0_spread : Nat) (h0_spread_queue : Nat) (h0_spread_seen : Nat) (h0_kept : Nat) (h0_ways : Nat) (h0_course : Nat) (h0_rows : Nat) (h0_changes : Nat) (h0_tape : Nat) (h0_bodies : Nat) (h0_causes : Nat) (x1 : Int32) (x2 : Int32) (s0__hasImage : Int32) (s0__hasCauses : Int32) (s0__stepsDone : Int32) (s0_filter__all : Int32) (s0_filter__v : Int32) (s0_filter__loss : Int32) (s0_filter__result : Int32) (s0_filter__over : Int32) (s0_filter__heldAll : Int32) (s0_filter__heldRounded : Int32) (s0_filter_numbers : Nat → Int32) (s0_filter_words : Nat → Int32) (s0_trial__all : Int32) (s0_trial__v : Int32) (s0_trial__loss : Int32) (s0_trial__result : Int32) (s0_trial__over : Int32) (s0_trial__heldAll : Int32) (s0_trial__heldRounded : Int32) (s0_trial_numbers : Nat → Int32) (s0_trial_words : Nat → Int32) (s0_spread__found : Int32) (s0_spread__over : Int32) (s0_spread_queue : Nat → Int32) (s0_spread_seen : Nat → Int32) (r : Int32) (o0_trial__all : Int32) (o0_trial__v : Int32) (o0_trial__loss : Int32) (o0_trial__result : Int32) (o0_trial__over : Int32) (o0_trial__heldAll : Int32) (o0_trial__heldRounded : Int32) (o0_trial_numbers : Nat → Int32) (o0_trial_words : Nat → Int32) (o0_spread__found : Int32) (o0_spread__over : Int32) (o0_spread_queue : Nat → Int32) (o0_spread_seen : Nat → Int32) (hok : fX8_reach x1 x2 s0_filter_numbers s0_filter_words s0_trial__all s0_trial__v s0_trial__loss s0_trial__result s0_trial__over s0_trial__heldAll s0_trial__heldRounded s0_trial_numbers s0_trial_words s0_spread__found s0_spread__over s0_spread_queue s0_spread_seen = some (r, o0_trial__all, o0_trial__v, o0_trial__loss, o0_trial__result, o0_trial__over, o0_trial__heldAll, o0_trial__heldRounded, o0_trial_numbers, o0_trial_words, o0_spread__found, o0_spread__over, o0_spread_queue, o0_spread_seen)) : Ct l G cA ts yX8_reach wsX8_reach 6 153 [.ref h0, .int x1, .int x2] (wm_X8_reach cA h0 h0_filter h0_filter_numbers h0_filter_words h0_trial h0_trial_numbers h0_trial_words h0_spread h0_spread_queue h0_spread_seen h0_kept h0_ways h0_course h0_rows h0_changes h0_tape h0_bodies h0_causes s0__hasImage s0__hasCauses s0__stepsDone s0_filter__all s0_filter__v s0_filter__loss s0_filter__result s0_filter__over s0_filter__heldAll s0_filter__heldRounded s0_filter_numbers s0_filter_words s0_trial__all s0_trial__v s0_trial__loss s0_trial__result s0_trial__over s0_trial__heldAll s0_trial__heldRounded s0_trial_numbers s0_trial_words s0_spread__found s0_spread__over s0_spread_queue s0_spread_seen) (wm_X8_reach cA h0 h0_filter h0_filter_numbers h0_filter_words h0_trial h0_trial_numbers h0_trial_words h0_spread h0_spread_queue h0_spread_seen h0_kept h0_ways h0_course h0_rows h0_changes h0_tape h0_bodies h0_causes s0__hasImage s0__hasCauses s0__stepsDone s0_filter__all s0_filter__v s0_filter__loss s0_filter__result s0_filter__over s0_filter__heldAll s0_filter__heldRounded s0_filter_numbers s0_filter_words o0_trial__all o0_trial__v o0_trial__loss o0_trial__result o0_trial__over o0_trial__heldAll o0_trial__heldRounded o0_trial_numbers o0_trial_words o0_spread__found o0_spread__over o0_spread_queue o0_spread_seen) (some (.int r)) := by
  refine Ct.intro (cc := cX8_reach) (maxL := 3) (ret := some .int) (by decide +kernel) rfl (Nat.le_of_ble_eq_true rfl) ?_
  intro p e s m ar below meth c A Q hx hb hr hml hown hlocks hts hK hZ hA hQ hP hD hS ls hl
  have hown : s.vm.findClass RX8 = some m.cls := hown
  have hinX5 : ∀ w ∈ wsX50, w ∈ wsX8_reach := fun _ h => List.mem_cons_of_mem _ (List.mem_append_left _ (List.mem_append_right _ (h)))
  have hinX8 : ∀ w ∈ wsX80, w ∈ wsX8_reach := fun _ h => List.mem_cons_of_mem _ (List.mem_append_left _ (List.mem_append_left _ (List.mem_append_right _ (h))))
  have hl : lv_has ls 3 [(0, .ref h0), (1, .int x1), (2, .int x2)] := hl
  have hP : va_P G vwCl (wm_X8_reach cA h0 h0_filter h0_filter_numbers h0_filter_words h0_trial h0_trial_numbers h0_trial_words h0_spread h0_spread_queue h0_spread_seen h0_kept h0_ways h0_course h0_rows h0_changes h0_tape h0_bodies h0_causes s0__hasImage s0__hasCauses s0__stepsDone s0_filter__all s0_filter__v s0_filter__loss s0_filter__result s0_filter__over s0_filter__heldAll s0_filter__heldRounded s0_filter_numbers s0_filter_words s0_trial__all s0_trial__v s0_trial__loss s0_trial__result s0_trial__over s0_trial__heldAll s0_trial__heldRounded s0_trial_numbers s0_trial_words s0_spread__found s0_spread__over s0_spread_queue s0_spread_seen) s.heap := hP
  have hD : va_D A (wm_X8_reach cA h0 h0_filter h0_filter_numbers h0_filter_words h0_trial h0_trial_numbers h0_trial_words h0_spread h0_spread_queue h0_spread_seen h0_kept h0_ways h0_course h0_rows h0_changes h0_tape h0_bodies h0_causes s0__hasImage s0__hasCauses s0__stepsDone s0_filter__all s0_filter__v s0_filter__loss s0_filter__result s0_filter__over s0_filter__heldAll s0_filter__heldRounded s0_filter_numbers s0_filter_words s0_trial__all s0_trial__v s0_trial__loss s0_trial__result s0_trial__over s0_trial__heldAll s0_trial__heldRounded s0_trial_numbers s0_trial_words s0_spread__found s0_spread__over s0_spread_queue s0_spread_seen) := hD
  unfold fX8_reach at hok
  refine lv_iload_n hx hb dX8_reach_0 rfl (lv_at hl 1 rfl) ?_
  refine lv_if_lt (tgt := 19) hx hb dX8_reach_1 (by decide) (fun c => ?_) (fun c => ?_)
  · replace hok := g_pos hok c
    refine lv_iconst (v := -1) hx hb dX8_reach_19 (by decide) ?_
    obtain ⟨e, hok⟩ := g_pr hok
    try subst e
    obtain ⟨e, hok⟩ := g_pr hok
    try subst e
    obtain ⟨e, hok⟩ := g_pr hok
    try subst e
    obtain ⟨e, hok⟩ := g_pr hok
    try subst e
    obtain ⟨e, hok⟩ := g_pr hok
    try subst e
    obtain ⟨e, hok⟩ := g_pr hok
    try subst e
    obtain ⟨e, hok⟩ := g_pr hok
    try subst e
    obtain ⟨e, hok⟩ := g_pr hok
    try subst e
    obtain ⟨e, hok⟩ := g_pr hok
    try subst e
    obtain ⟨e, hok⟩ := g_pr hok
    try subst e
    obtain ⟨e, hok⟩ := g_pr hok
    try subst e
    obtain ⟨e, hok⟩ := g_pr hok
    try subst e
    obtain ⟨e, hok⟩ := g_pr hok
    try subst e
    cases hok
    exact cr_i hx hb hr hlocks hQ dX8_reach_20 hP hS
  replace hok := g_neg hok c
  refine lv_iload_n hx hb dX8_reach_4 rfl (lv_at hl 1 rfl) ?_
  refine lv_bipush (v := 20) hx hb dX8_reach_5 (by decide) ?_
  refine lv_icmp_gt (tgt := 19) hx hb dX8_reach_7 (by decide) (fun c => ?_) (fun c => ?_)
  · replace hok := g_pos hok c
    refine lv_iconst (v := -1) hx hb dX8_reach_19 (by decide) ?_
    obtain ⟨e, hok⟩ := g_pr hok
    try subst e
    obtain ⟨e, hok⟩ := g_pr hok
    try subst e
    obtain ⟨e, hok⟩ := g_pr hok
    try subst e
    obtain ⟨e, hok⟩ := g_pr hok
    try subst e
    obtain ⟨e, hok⟩ := g_pr hok
    try subst e
    obtain ⟨e, hok⟩ := g_pr hok
    try subst e
    obtain ⟨e, hok⟩ := g_pr hok
    try subst e
    obtain ⟨e, hok⟩ := g_pr hok
    try subst e
    obtain ⟨e, hok⟩ := g_pr hok
    try subst e
    obtain ⟨e, hok⟩ := g_pr hok
    try subst e
    obtain ⟨e, hok⟩ := g_pr hok
    try subst e
    obtain ⟨e, hok⟩ := g_pr hok
    try subst e
    obtain ⟨e, hok⟩ := g_pr hok
    try subst e
    cases hok
    exact cr_i hx hb hr hlocks hQ dX8_reach_20 hP hS
  replace hok := g_neg hok c
  refine lv_iload_n hx hb dX8_reach_10 rfl (lv_at hl 2 rfl) ?_
  refine lv_if_lt (tgt := 19) hx hb dX8_reach_11 (by decide) (fun c => ?_) (fun c => ?_)
  · replace hok := g_pos hok c
    refine lv_iconst (v := -1) hx hb dX8_reach_19 (by decide) ?_
    obtain ⟨e, hok⟩ := g_pr hok
    try subst e
    obtain ⟨e, hok⟩ := g_pr hok
    try subst e
    obtain ⟨e, hok⟩ := g_pr hok
    try subst e
    obtain ⟨e, hok⟩ := g_pr hok
    try subst e
    obtain ⟨e, hok⟩ := g_pr hok
    try subst e
    obtain ⟨e, hok⟩ := g_pr hok
    try subst e
    obtain ⟨e, hok⟩ := g_pr hok
    try subst e
    obtain ⟨e, hok⟩ := g_pr hok
    try subst e
    obtain ⟨e, hok⟩ := g_pr hok
    try subst e
    obtain ⟨e, hok⟩ := g_pr hok
    try subst e
    obtain ⟨e, hok⟩ := g_pr hok
    try subst e
    obtain ⟨e, hok⟩ := g_pr hok
    try subst e
    obtain ⟨e, hok⟩ := g_pr hok
    try subst e
    cases hok
    exact cr_i hx hb hr hlocks hQ dX8_reach_20 hP hS
  replace hok := g_neg hok c
  refine lv_iload_n hx hb dX8_reach_14 rfl (lv_at hl 2 rfl) ?_
  refine lv_iconst (v := 1) hx hb dX8_reach_15 (by decide) ?_
  refine lv_icmp_le (tgt := 21) hx hb dX8_reach_16 (by decide) (fun c => ?_) (fun c => ?_)
  · replace hok := g_pos hok c
    refine lv_aload_n hx hb dX8_reach_21 rfl (lv_at hl 0 rfl) ?_
    refine va_get (ci := 8) (v := .ref h0_trial) (C := RX8) (T := TX8) (N := 14) hx hb hts hinX8 hown hK hP 0 rfl rfl 1 (by decide) (hts _ (List.mem_of_getElem? (i := 1) rfl)) (fun _ h9 => h9) rfl dX8_reach_22 ?_
    refine lv_aload_n hx hb dX8_reach_25 rfl (lv_at hl 0 rfl) ?_
    refine va_get (ci := 8) (v := .ref h0_filter) (C := RX8) (T := TX8) (N := 14) hx hb hts hinX8 hown hK hP 0 rfl rfl 0 (by decide) (hts _ (List.mem_of_getElem? (i := 2) rfl)) (fun _ h9 => h9) rfl dX8_reach_26 ?_
    obtain ⟨o1, o2, hq, hok⟩ := g_bnd2 hok
    refine cG (is := [4, 5, 6, 1, 2, 3]) (wc := (wm_X3_take cA h0_trial h0_trial_numbers h0_trial_words h0_filter h0_filter_numbers h0_filter_words s0_trial__all s0_trial__v s0_trial__loss s0_trial__result s0_trial__over s0_trial__heldAll s0_trial__heldRounded s0_trial_numbers s0_trial_words s0_filter__all s0_filter__v s0_filter__loss s0_filter__result s0_filter__over s0_filter__heldAll s0_filter__heldRounded s0_filter_numbers s0_filter_words)) (w1 := (wm_X3_take cA h0_trial h0_trial_numbers h0_trial_words h0_filter h0_filter_numbers h0_filter_words s0_trial__all s0_trial__v s0_trial__loss s0_trial__result s0_trial__over s0_trial__heldAll s0_trial__heldRounded o1 o2 s0_filter__all s0_filter__v s0_filter__loss s0_filter__result s0_filter__over s0_filter__heldAll s0_filter__heldRounded s0_filter_numbers s0_filter_words)) (rv := none) (st1 := []) (va_runV (Ts := wsX8_reach) (As := [.ref h0_filter]) (rest := []) ⟨hx, hb, hml, hown, hts⟩ (c_X3_take l G cA ts h0_trial h0_trial_numbers h0_trial_words h0_filter h0_filter_numbers h0_filter_words s0_trial__all s0_trial__v s0_trial__loss s0_trial__result s0_trial__over s0_trial__heldAll s0_trial__heldRounded s0_trial_numbers s0_trial_words s0_filter__all s0_filter__v s0_filter__loss s0_filter__result s0_filter__over s0_filter__heldAll s0_filter__heldRounded s0_filter_numbers s0_filter_words o1 o2 hq s.heap.size) (cwV 1 hts gX8_reach_X3_take rfl rfl rfl (by decide +kernel) ⟨Nat.le_of_ble_eq_true rfl, Nat.le_of_ble_eq_true rfl⟩) (pre_V (ci := 3) (q0 := 4) (is := [4, 5, 6, 1, 2, 3]) rfl rfl hP hD hS hA hK hZ (by decide +kernel) (by rfl)) rfl rfl hl.1 rfl (by exact lv_room (Nat.le_of_ble_eq_true rfl)) dX8_reach_29 ⟨Nat.le_refl _, Nat.le_refl _⟩) hP hD hS hA (by decide +kernel) (by rfl) (by rfl) rfl (fun H locs hP hD hS => ?_)
    have hP : va_P G vwCl (wm_X8_reach cA h0 h0_filter h0_filter_numbers h0_filter_words h0_trial h0_trial_numbers h0_trial_words h0_spread h0_spread_queue h0_spread_seen h0_kept h0_ways h0_course h0_rows h0_changes h0_tape h0_bodies h0_causes s0__hasImage s0__hasCauses s0__stepsDone s0_filter__all s0_filter__v s0_filter__loss s0_filter__result s0_filter__over s0_filter__heldAll s0_filter__heldRounded s0_filter_numbers s0_filter_words s0_trial__all s0_trial__v s0_trial__loss s0_trial__result s0_trial__over s0_trial__heldAll s0_trial__heldRounded o1 o2 s0_spread__found s0_spread__over s0_spread_queue s0_spread_seen) H := hP
    have hD : va_D A (wm_X8_reach cA h0 h0_filter h0_filter_numbers h0_filter_words h0_trial h0_trial_numbers h0_trial_words h0_spread h0_spread_queue h0_spread_seen h0_kept h0_ways h0_course h0_rows h0_changes h0_tape h0_bodies h0_causes s0__hasImage s0__hasCauses s0__stepsDone s0_filter__all s0_filter__v s0_filter__loss s0_filter__result s0_filter__over s0_filter__heldAll s0_filter__heldRounded s0_filter_numbers s0_filter_words s0_trial__all s0_trial__v s0_trial__loss s0_trial__result s0_trial__over s0_trial__heldAll s0_trial__heldRounded o1 o2 s0_spread__found s0_spread__over s0_spread_queue s0_spread_seen) := hD
    refine lv_aload_n hx hb dX8_reach_32 rfl (lv_at hl 0 rfl) ?_
    refine va_get (ci := 8) (v := .ref h0_spread) (C := RX8) (T := TX8) (N := 14) hx hb hts hinX8 hown hK hP 0 rfl rfl 5 (by decide) (hts _ (List.mem_of_getElem? (i := 3) rfl)) (fun _ h9 => h9) rfl dX8_reach_33 ?_
    refine lv_aload_n hx hb dX8_reach_36 rfl (lv_at hl 0 rfl) ?_
    refine va_get (ci := 8) (v := .ref h0_trial) (C := RX8) (T := TX8) (N := 14) hx hb hts hinX8 hown hK hP 0 rfl rfl 1 (by decide) (hts _ (List.mem_of_getElem? (i := 1) rfl)) (fun _ h9 => h9) rfl dX8_reach_37 ?_
    refine lv_iload_n hx hb dX8_reach_40 rfl (lv_at hl 1 rfl) ?_
    refine lv_iconst (v := 0) hx hb dX8_reach_41 (by decide) ?_
    obtain ⟨o3, o4, o5, o6, o7, o8, o9, o10, o11, o12, o13, o14, hq, hok⟩ := g_bnd12 hok
    refine cG (is := [7, 8, 9, 4, 5, 6]) (wc := (wm_X5_leadOn cA h0_spread h0_spread_queue h0_spread_seen h0_trial h0_trial_numbers h0_trial_words s0_spread__found s0_spread__over s0_spread_queue s0_spread_seen s0_trial__all s0_trial__v s0_trial__loss s0_trial__result s0_trial__over s0_trial__heldAll s0_trial__heldRounded o1 o2)) (w1 := (wm_X5_leadOn cA h0_spread h0_spread_queue h0_spread_seen h0_trial h0_trial_numbers h0_trial_words o3 o4 o5 o6 o7 o8 o9 o10 o11 o12 o13 o1 o14)) (rv := none) (st1 := []) (va_runV (Ts := wsX8_reach) (As := [.ref h0_trial, .int x1, .int (0:Int32)]) (rest := []) ⟨hx, hb, hml, hown, hts⟩ (c_X5_search l G cA ts h0_spread h0_spread_queue h0_spread_seen h0_trial h0_trial_numbers h0_trial_words x1 (0:Int32) s0_spread__found s0_spread__over s0_spread_queue s0_spread_seen s0_trial__all s0_trial__v s0_trial__loss s0_trial__result s0_trial__over s0_trial__heldAll s0_trial__heldRounded o1 o2 o3 o4 o5 o6 o7 o8 o9 o10 o11 o12 o13 o14 hq H.size) (cwV 3 hts gX8_reach_X5_search rfl rfl rfl (by decide +kernel) ⟨Nat.le_of_ble_eq_true rfl, Nat.le_of_ble_eq_true rfl⟩) (pre_V (ci := 5) (q0 := 7) (is := [7, 8, 9, 4, 5, 6]) rfl rfl hP hD hS hA hK hZ (by decide +kernel) (by rfl)) rfl rfl hl.1 rfl (by exact lv_room (Nat.le_of_ble_eq_true rfl)) dX8_reach_42 ⟨Nat.le_refl _, Nat.le_refl _⟩) hP hD hS hA (by decide +kernel) (by rfl) (by rfl) rfl (fun H locs hP hD hS => ?_)
    have hP : va_P G vwCl (wm_X8_reach cA h0 h0_filter h0_filter_numbers h0_filter_words h0_trial h0_trial_numbers h0_trial_words h0_spread h0_spread_queue h0_spread_seen h0_kept h0_ways h0_course h0_rows h0_changes h0_tape h0_bodies h0_causes s0__hasImage s0__hasCauses s0__stepsDone s0_filter__all s0_filter__v s0_filter__loss s0_filter__result s0_filter__over s0_filter__heldAll s0_filter__heldRounded s0_filter_numbers s0_filter_words o7 o8 o9 o10 o11 o12 o13 o1 o14 o3 o4 o5 o6) H := hP
    have hD : va_D A (wm_X8_reach cA h0 h0_filter h0_filter_numbers h0_filter_words h0_trial h0_trial_numbers h0_trial_words h0_spread h0_spread_queue h0_spread_seen h0_kept h0_ways h0_course h0_rows h0_changes h0_tape h0_bodies h0_causes s0__hasImage s0__hasCauses s0__stepsDone s0_filter__all s0_filter__v s0_filter__loss s0_filter__result s0_filter__over s0_filter__heldAll s0_filter__heldRounded s0_filter_numbers s0_filter_words o7 o8 o9 o10 o11 o12 o13 o1 o14 o3 o4 o5 o6) := hD
    refine lv_iload_n hx hb dX8_reach_45 rfl (lv_at hl 2 rfl) ?_
    refine lv_if_ne (tgt := 59) hx hb dX8_reach_46 (by decide) (fun c => ?_) (fun c => ?_)
    · replace hok := g_neg hok c
      refine lv_aload_n hx hb dX8_reach_59 rfl (lv_at hl 0 rfl) ?_
      refine va_get (ci := 8) (v := .ref h0_spread) (C := RX8) (T := TX8) (N := 14) hx hb hts hinX8 hown hK hP 0 rfl rfl 5 (by decide) (hts _ (List.mem_of_getElem? (i := 3) rfl)) (fun _ h9 => h9) rfl dX8_reach_60 ?_
      refine va_get (ci := 5) (v := .int o4) (C := RX5) (T := TX5) (N := 4) hx hb hts hinX5 hown hK hP 7 rfl rfl 3 (by decide) (hts _ (List.mem_of_getElem? (i := 5) rfl)) (fun _ h9 => h9) rfl dX8_reach_63 ?_
      refine lv_if_eq (tgt := 73) hx hb dX8_reach_66 (by decide) (fun c => ?_) (fun c => ?_)
      · replace hok := g_pos hok c
        refine lv_iconst (v := 0) hx hb dX8_reach_73 (by decide) ?_
        obtain ⟨e, hok⟩ := g_pr hok
        try subst e
        obtain ⟨e, hok⟩ := g_pr hok
        try subst e
        obtain ⟨e, hok⟩ := g_pr hok
        try subst e
        obtain ⟨e, hok⟩ := g_pr hok
        try subst e
        obtain ⟨e, hok⟩ := g_pr hok
        try subst e
        obtain ⟨e, hok⟩ := g_pr hok
        try subst e
        obtain ⟨e, hok⟩ := g_pr hok
        try subst e
        obtain ⟨e, hok⟩ := g_pr hok
        try subst e
        obtain ⟨e, hok⟩ := g_pr hok
        try subst e
        obtain ⟨e, hok⟩ := g_pr hok
        try subst e
        obtain ⟨e, hok⟩ := g_pr hok
        try subst e
        obtain ⟨e, hok⟩ := g_pr hok
        try subst e
        obtain ⟨e, hok⟩ := g_pr hok
        try subst e
        cases hok
        exact cr_i hx hb hr hlocks hQ dX8_reach_74 hP hS
      replace hok := g_neg hok c
      refine lv_iconst (v := 1) hx hb dX8_reach_69 (by decide) ?_
      refine lv_goto (tgt := 74) hx hb dX8_reach_70 (by decide) ?_
      obtain ⟨e, hok⟩ := g_pr hok
      try subst e
      obtain ⟨e, hok⟩ := g_pr hok
      try subst e
      obtain ⟨e, hok⟩ := g_pr hok
      try subst e
      obtain ⟨e, hok⟩ := g_pr hok
      try subst e
      obtain ⟨e, hok⟩ := g_pr hok
      try subst e
      obtain ⟨e, hok⟩ := g_pr hok
      try subst e
      obtain ⟨e, hok⟩ := g_pr hok
      try subst e
      obtain ⟨e, hok⟩ := g_pr hok
      try subst e
      obtain ⟨e, hok⟩ := g_pr hok
      try subst e
      obtain ⟨e, hok⟩ := g_pr hok
      try subst e
      obtain ⟨e, hok⟩ := g_pr hok
      try subst e
      obtain ⟨e, hok⟩ := g_pr hok
      try subst e
      obtain ⟨e, hok⟩ := g_pr hok
      try subst e
      cases hok
      exact cr_i hx hb hr hlocks hQ dX8_reach_74 hP hS
    replace hok := g_pos hok c
    refine lv_aload_n hx hb dX8_reach_49 rfl (lv_at hl 0 rfl) ?_
    refine va_get (ci := 8) (v := .ref h0_spread) (C := RX8) (T := TX8) (N := 14) hx hb hts hinX8 hown hK hP 0 rfl rfl 5 (by decide) (hts _ (List.mem_of_getElem? (i := 3) rfl)) (fun _ h9 => h9) rfl dX8_reach_50 ?_
    refine va_get (ci := 5) (v := .int o3) (C := RX5) (T := TX5) (N := 4) hx hb hts hinX5 hown hK hP 7 rfl rfl 2 (by decide) (hts _ (List.mem_of_getElem? (i := 4) rfl)) (fun _ h9 => h9) rfl dX8_reach_53 ?_
    refine lv_goto (tgt := 74) hx hb dX8_reach_56 (by decide) ?_
    obtain ⟨e, hok⟩ := g_pr hok
    try subst e
    obtain ⟨e, hok⟩ := g_pr hok
    try subst e
    obtain ⟨e, hok⟩ := g_pr hok
    try subst e
    obtain ⟨e, hok⟩ := g_pr hok
    try subst e
    obtain ⟨e, hok⟩ := g_pr hok
    try subst e
    obtain ⟨e, hok⟩ := g_pr hok
    try subst e
    obtain ⟨e, hok⟩ := g_pr hok
    try subst e
    obtain ⟨e, hok⟩ := g_pr hok
    try subst e
    obtain ⟨e, hok⟩ := g_pr hok
    try subst e
    obtain ⟨e, hok⟩ := g_pr hok
    try subst e
    obtain ⟨e, hok⟩ := g_pr hok
    try subst e
    obtain ⟨e, hok⟩ := g_pr hok
    try subst e
    obtain ⟨e, hok⟩ := g_pr hok
    try subst e
    cases hok
    exact cr_i hx hb hr hlocks hQ dX8_reach_74 hP hS
  replace hok := g_neg hok c
  refine lv_iconst (v := -1) hx hb dX8_reach_19 (by decide) ?_
  obtain ⟨e, hok⟩ := g_pr hok
  try subst e
  obtain ⟨e, hok⟩ := g_pr hok
  try subst e
  obtain ⟨e, hok⟩ := g_pr hok
  try subst e
  obtain ⟨e, hok⟩ := g_pr hok
  try subst e
  obtain ⟨e, hok⟩ := g_pr hok
  try subst e
  obtain ⟨e, hok⟩ := g_pr hok
  try subst e
  obtain ⟨e, hok⟩ := g_pr hok
  try subst e
  obtain ⟨e, hok⟩ := g_pr hok
  try subst e
  obtain ⟨e, hok⟩ := g_pr hok
  try subst e
  obtain ⟨e, hok⟩ := g_pr hok
  try subst e
  obtain ⟨e, hok⟩ := g_pr hok
  try subst e
  obtain ⟨e, hok⟩ := g_pr hok
  try subst e
  obtain ⟨e, hok⟩ := g_pr hok
  try subst e
  cases hok
  exact cr_i hx hb hr hlocks hQ dX8_reach_20 hP hS
set_option maxHeartbeats 40000000 in
set_option maxRecDepth 100000 in
theorem c_X8_scale (l : Launch) (G : va_G) (cA : Nat → ClassId) (ts : Nat → Nat) (h0 : Nat) (h0_filter : Nat) (h0_filter_numbers : Nat) (h0_filter_words : Nat) (h0_trial : Nat) (h0_trial_numbers : Nat) (h0_trial_words : Nat) (h0_spread : Nat) (h0_spread_queue : Nat) (h0_spread_seen : Nat) (h0_kept : Nat) (h0_ways : Nat) (h0_course : Nat) (h0_rows : Nat) (h0_changes : Nat) (h0_tape : Nat) (h0_bodies : Nat) (h0_causes : Nat) (x1 : Int32) (s0__hasImage : Int32) (s0__hasCauses : Int32) (s0__stepsDone : Int32) (s0_filter__all : Int32) (s0_filter__v : Int32) (s0_filter__loss : Int32) (s0_filter__result : Int32) (s0_filter__over : Int32) (s0_filter__heldAll : Int32) (s0_filter__heldRounded : Int32) (s0_filter_numbers : Nat → Int32) (s0_filter_words : Nat → Int32) (s0_trial__all : Int32) (s0_trial__v : Int32) (s0_trial__loss : Int32) (s0_trial__result : Int32) (s0_trial__over : Int32) (s0_trial__heldAll : Int32) (s0_trial__heldRounded : Int32) (s0_trial_numbers : Nat → Int32) (s0_trial_words : Nat → Int32) (s0_spread__found : Int32) (s0_spread__over : Int32) (s0_spread_queue : Nat → Int32) (s0_spread_seen : Nat → Int32) (r : Int32) (o0_trial__all : Int32) (o0_trial__v : Int32) (o0_trial__loss : Int32) (o0_trial__result : Int32) (o0_trial__over : Int32) (o0_trial__heldAll : Int32) (o0_trial__heldRounded : Int32) (o0_trial_numbers : Nat → Int32) (o0_trial_words : Nat → Int32) (o0_spread__found : Int32) (o0_spread__over : Int32) (o0_spread_queue : Nat → Int32) (o0_spread_seen : Nat → Int32) (hok : fX8_scale x1 s0_filter_numbers s0_filter_words s0_trial__all s0_trial__v s0_trial__loss s0_trial__result s0_trial__over s0_trial__heldAll s0_trial__heldRounded s0_trial_numbers s0_trial_words s0_spread__found s0_spread__over s0_spread_queue s0_spread_seen = some (r, o0_trial__all, o0_trial__v, o0_trial__loss, o0_trial__result, o0_trial__over, o0_trial__heldAll, o0_trial__heldRounded, o0_trial_numbers, o0_trial_words, o0_spread__found, o0_spread__over, o0_spread_queue, o0_spread_seen)) : Ct l G cA ts yX8_scale wsX8_scale 6 153 [.ref h0, .int x1] (wm_X8_reach cA h0 h0_filter h0_filter_numbers h0_filter_words h0_trial h0_trial_numbers h0_trial_words h0_spread h0_spread_queue h0_spread_seen h0_kept h0_ways h0_course h0_rows h0_changes h0_tape h0_bodies h0_causes s0__hasImage s0__hasCauses s0__stepsDone s0_filter__all s0_filter__v s0_filter__loss s0_filter__result s0_filter__over s0_filter__heldAll s0_filter__heldRounded s0_filter_numbers s0_filter_words s0_trial__all s0_trial__v s0_trial__loss s0_trial__result s0_trial__over s0_trial__heldAll s0_trial__heldRounded s0_trial_numbers s0_trial_words s0_spread__found s0_spread__over s0_spread_queue s0_spread_seen) (wm_X8_reach cA h0 h0_filter h0_filter_numbers h0_filter_words h0_trial h0_trial_numbers h0_trial_words h0_spread h0_spread_queue h0_spread_seen h0_kept h0_ways h0_course h0_rows h0_changes h0_tape h0_bodies h0_causes s0__hasImage s0__hasCauses s0__stepsDone s0_filter__all s0_filter__v s0_filter__loss s0_filter__result s0_filter__over s0_filter__heldAll s0_filter__heldRounded s0_filter_numbers s0_filter_words o0_trial__all o0_trial__v o0_trial__loss o0_trial__result o0_trial__over o0_trial__heldAll o0_trial__heldRounded o0_trial_numbers o0_trial_words o0_spread__found o0_spread__over o0_spread_queue o0_spread_seen) (some (.int r)) := by
  refine Ct.intro (cc := cX8_scale) (maxL := 3) (ret := some .int) (by decide +kernel) rfl (Nat.le_of_ble_eq_true rfl) ?_
  intro p e s m ar below meth c A Q hx hb hr hml hown hlocks hts hK hZ hA hQ hP hD hS ls hl
  have hown : s.vm.findClass RX8 = some m.cls := hown
  have hinX5 : ∀ w ∈ wsX50, w ∈ wsX8_scale := fun _ h => List.mem_cons_of_mem _ (List.mem_append_left _ (List.mem_append_right _ (h)))
  have hinX8 : ∀ w ∈ wsX80, w ∈ wsX8_scale := fun _ h => List.mem_cons_of_mem _ (List.mem_append_left _ (List.mem_append_left _ (List.mem_append_right _ (h))))
  have hl : lv_has ls 3 [(0, .ref h0), (1, .int x1)] := hl
  have hP : va_P G vwCl (wm_X8_reach cA h0 h0_filter h0_filter_numbers h0_filter_words h0_trial h0_trial_numbers h0_trial_words h0_spread h0_spread_queue h0_spread_seen h0_kept h0_ways h0_course h0_rows h0_changes h0_tape h0_bodies h0_causes s0__hasImage s0__hasCauses s0__stepsDone s0_filter__all s0_filter__v s0_filter__loss s0_filter__result s0_filter__over s0_filter__heldAll s0_filter__heldRounded s0_filter_numbers s0_filter_words s0_trial__all s0_trial__v s0_trial__loss s0_trial__result s0_trial__over s0_trial__heldAll s0_trial__heldRounded s0_trial_numbers s0_trial_words s0_spread__found s0_spread__over s0_spread_queue s0_spread_seen) s.heap := hP
  have hD : va_D A (wm_X8_reach cA h0 h0_filter h0_filter_numbers h0_filter_words h0_trial h0_trial_numbers h0_trial_words h0_spread h0_spread_queue h0_spread_seen h0_kept h0_ways h0_course h0_rows h0_changes h0_tape h0_bodies h0_causes s0__hasImage s0__hasCauses s0__stepsDone s0_filter__all s0_filter__v s0_filter__loss s0_filter__result s0_filter__over s0_filter__heldAll s0_filter__heldRounded s0_filter_numbers s0_filter_words s0_trial__all s0_trial__v s0_trial__loss s0_trial__result s0_trial__over s0_trial__heldAll s0_trial__heldRounded s0_trial_numbers s0_trial_words s0_spread__found s0_spread__over s0_spread_queue s0_spread_seen) := hD
  have L_25 : ∀ (n : Nat) (y2 : Int32) (c0_trial__all : Int32) (c0_trial__v : Int32) (c0_trial__loss : Int32) (c0_trial__result : Int32) (c0_trial__over : Int32) (c0_trial__heldAll : Int32) (c0_trial__heldRounded : Int32) (c0_trial_numbers : Nat → Int32) (c0_trial_words : Nat → Int32) (c0_spread__found : Int32) (c0_spread__over : Int32) (c0_spread_queue : Nat → Int32) (c0_spread_seen : Nat → Int32) (oE : ((Int32) × (Int32) × (Int32) × (Int32) × (Int32) × (Int32) × (Int32) × (Int32) × (Nat → Int32) × (Int32) × (Int32) × (Nat → Int32) × (Nat → Int32)) ⊕ ((Int32) × (Int32) × (Int32) × (Int32) × (Int32) × (Int32) × (Int32) × (Nat → Int32) × (Int32) × (Int32) × (Nat → Int32) × (Nat → Int32))) (H : Heap) (locs : List Loc) (ls : Array Slot), va_P G vwCl (wm_X8_reach cA h0 h0_filter h0_filter_numbers h0_filter_words h0_trial h0_trial_numbers h0_trial_words h0_spread h0_spread_queue h0_spread_seen h0_kept h0_ways h0_course h0_rows h0_changes h0_tape h0_bodies h0_causes s0__hasImage s0__hasCauses s0__stepsDone s0_filter__all s0_filter__v s0_filter__loss s0_filter__result s0_filter__over s0_filter__heldAll s0_filter__heldRounded s0_filter_numbers s0_filter_words c0_trial__all c0_trial__v c0_trial__loss c0_trial__result c0_trial__over c0_trial__heldAll c0_trial__heldRounded c0_trial_numbers c0_trial_words c0_spread__found c0_spread__over c0_spread_queue c0_spread_seen) H → va_D A (wm_X8_reach cA h0 h0_filter h0_filter_numbers h0_filter_words h0_trial h0_trial_numbers h0_trial_words h0_spread h0_spread_queue h0_spread_seen h0_kept h0_ways h0_course h0_rows h0_changes h0_tape h0_bodies h0_causes s0__hasImage s0__hasCauses s0__stepsDone s0_filter__all s0_filter__v s0_filter__loss s0_filter__result s0_filter__over s0_filter__heldAll s0_filter__heldRounded s0_filter_numbers s0_filter_words c0_trial__all c0_trial__v c0_trial__loss c0_trial__result c0_trial__over c0_trial__heldAll c0_trial__heldRounded c0_trial_numbers c0_trial_words c0_spread__found c0_spread__over c0_spread_queue c0_spread_seen) → va_S A s.heap H locs → lv_has ls 3 [(0, .ref h0), (1, .int x1), (2, .int y2)] → fX8_scale_L25 x1 s0_filter_numbers s0_filter_words n y2 c0_trial__all c0_trial__v c0_trial__loss c0_trial__result c0_trial__over c0_trial__heldAll c0_trial__heldRounded c0_trial_numbers c0_trial_words c0_spread__found c0_spread__over c0_spread_queue c0_spread_seen = some oE → (∀ (p0_0 : Int32) (p0_1 : Int32) (p0_2 : Int32) (p0_3 : Int32) (p0_4 : Int32) (p0_5 : Int32) (p0_6 : Int32) (p0_7 : Int32) (p0_8 : Nat → Int32) (p0_9 : Int32) (p0_10 : Int32) (p0_11 : Nat → Int32) (p0_12 : Nat → Int32), oE = .inl (p0_0, p0_1, p0_2, p0_3, p0_4, p0_5, p0_6, p0_7, p0_8, p0_9, p0_10, p0_11, p0_12) → ∀ (H : Heap) (locs : List Loc) (ls : Array Slot), va_P G vwCl (wm_X8_reach cA h0 h0_filter h0_filter_numbers h0_filter_words h0_trial h0_trial_numbers h0_trial_words h0_spread h0_spread_queue h0_spread_seen h0_kept h0_ways h0_course h0_rows h0_changes h0_tape h0_bodies h0_causes s0__hasImage s0__hasCauses s0__stepsDone s0_filter__all s0_filter__v s0_filter__loss s0_filter__result s0_filter__over s0_filter__heldAll s0_filter__heldRounded s0_filter_numbers s0_filter_words p0_1 p0_2 p0_3 p0_4 p0_5 p0_6 p0_7 c0_trial_numbers p0_8 p0_9 p0_10 p0_11 p0_12) H → va_D A (wm_X8_reach cA h0 h0_filter h0_filter_numbers h0_filter_words h0_trial h0_trial_numbers h0_trial_words h0_spread h0_spread_queue h0_spread_seen h0_kept h0_ways h0_course h0_rows h0_changes h0_tape h0_bodies h0_causes s0__hasImage s0__hasCauses s0__stepsDone s0_filter__all s0_filter__v s0_filter__loss s0_filter__result s0_filter__over s0_filter__heldAll s0_filter__heldRounded s0_filter_numbers s0_filter_words p0_1 p0_2 p0_3 p0_4 p0_5 p0_6 p0_7 c0_trial_numbers p0_8 p0_9 p0_10 p0_11 p0_12) → va_S A s.heap H locs → lv_has ls 3 [(2, .int p0_0)] → W p l e (rmX 6 153) s m ar below meth c H locs 0 0 Q (F0 m 60 ls [])) → (∀ (p1_0 : Int32) (p1_1 : Int32) (p1_2 : Int32) (p1_3 : Int32) (p1_4 : Int32) (p1_5 : Int32) (p1_6 : Int32) (p1_7 : Nat → Int32) (p1_8 : Int32) (p1_9 : Int32) (p1_10 : Nat → Int32) (p1_11 : Nat → Int32), oE = .inr ((p1_0, p1_1, p1_2, p1_3, p1_4, p1_5, p1_6, p1_7, p1_8, p1_9, p1_10, p1_11)) → ∀ (H : Heap) (locs : List Loc) (ls : Array Slot), va_P G vwCl (wm_X8_reach cA h0 h0_filter h0_filter_numbers h0_filter_words h0_trial h0_trial_numbers h0_trial_words h0_spread h0_spread_queue h0_spread_seen h0_kept h0_ways h0_course h0_rows h0_changes h0_tape h0_bodies h0_causes s0__hasImage s0__hasCauses s0__stepsDone s0_filter__all s0_filter__v s0_filter__loss s0_filter__result s0_filter__over s0_filter__heldAll s0_filter__heldRounded s0_filter_numbers s0_filter_words p1_0 p1_1 p1_2 p1_3 p1_4 p1_5 p1_6 c0_trial_numbers p1_7 p1_8 p1_9 p1_10 p1_11) H → va_D A (wm_X8_reach cA h0 h0_filter h0_filter_numbers h0_filter_words h0_trial h0_trial_numbers h0_trial_words h0_spread h0_spread_queue h0_spread_seen h0_kept h0_ways h0_course h0_rows h0_changes h0_tape h0_bodies h0_causes s0__hasImage s0__hasCauses s0__stepsDone s0_filter__all s0_filter__v s0_filter__loss s0_filter__result s0_filter__over s0_filter__heldAll s0_filter__heldRounded s0_filter_numbers s0_filter_words p1_0 p1_1 p1_2 p1_3 p1_4 p1_5 p1_6 c0_trial_numbers p1_7 p1_8 p1_9 p1_10 p1_11) → va_S A s.heap H locs → lv_has ls 3 [] → W p l e (rmX 6 153) s m ar below meth c H locs 0 0 Q (F0 m 68 ls [])) → W p l e (rmX 6 153) s m ar below meth c H locs 0 0 Q (F0 m 25 ls []) := by
    intro n
    induction n with
    | zero =>
      intro y2 c0_trial__all c0_trial__v c0_trial__loss c0_trial__result c0_trial__over c0_trial__heldAll c0_trial__heldRounded c0_trial_numbers c0_trial_words c0_spread__found c0_spread__over c0_spread_queue c0_spread_seen oE H locs ls hP hD hS hl hok
      rw [fX8_scale_L25] at hok
      cases hok
    | succ n ih =>
      intro y2 c0_trial__all c0_trial__v c0_trial__loss c0_trial__result c0_trial__over c0_trial__heldAll c0_trial__heldRounded c0_trial_numbers c0_trial_words c0_spread__found c0_spread__over c0_spread_queue c0_spread_seen oE H locs ls hP hD hS hl hok  K0 K1
      rw [fX8_scale_L25] at hok
      refine lv_iload_n hx hb dX8_scale_25 rfl (lv_at hl 2 rfl) ?_
      refine va_gets hx hb hZ.1.1.2.1.1 hS hown (hts _ (List.mem_of_getElem? (i := 3) rfl)) (fun _ h9 => h9) dX8_scale_26 ?_
      refine lv_bipush (v := 6) hx hb dX8_scale_29 (by decide) ?_
      refine va_ti (v := .int (tb tHIGH 6)) hx hb hZ.1.1.2.1.2 hS (show ¬ ((6:Int32) < 0 ∨ 10 ≤ (6:Int32).toNatClampNeg) by decide) rfl dX8_scale_31 ?_
      refine lv_icmp_gt (tgt := 68) hx hb dX8_scale_32 (by decide) (fun c => ?_) (fun c => ?_)
      · replace hok := g_pos hok c
        cases hok
        exact K1 _ _ _ _ _ _ _ _ _ _ _ _ rfl _ _ _ hP hD hS (lv_sub hl [] rfl)
      replace hok := g_neg hok c
      refine lv_aload_n hx hb dX8_scale_35 rfl (lv_at hl 0 rfl) ?_
      refine va_get (ci := 8) (v := .ref h0_spread) (C := RX8) (T := TX8) (N := 14) hx hb hts hinX8 hown hK hP 0 rfl rfl 5 (by decide) (hts _ (List.mem_of_getElem? (i := 4) rfl)) (fun _ h9 => h9) rfl dX8_scale_36 ?_
      refine lv_aload_n hx hb dX8_scale_39 rfl (lv_at hl 0 rfl) ?_
      refine va_get (ci := 8) (v := .ref h0_trial) (C := RX8) (T := TX8) (N := 14) hx hb hts hinX8 hown hK hP 0 rfl rfl 1 (by decide) (hts _ (List.mem_of_getElem? (i := 1) rfl)) (fun _ h9 => h9) rfl dX8_scale_40 ?_
      refine lv_iload_n hx hb dX8_scale_43 rfl (lv_at hl 1 rfl) ?_
      refine lv_iload_n hx hb dX8_scale_44 rfl (lv_at hl 2 rfl) ?_
      refine lv_ishr hx hb dX8_scale_45 ?_
      refine lv_iconst (v := 1) hx hb dX8_scale_46 (by decide) ?_
      obtain ⟨o3, o4, o5, o6, o7, o8, o9, o10, o11, o12, o13, o14, hq, hok⟩ := g_bnd12 hok
      refine cG (is := [7, 8, 9, 4, 5, 6]) (wc := (wm_X5_leadOn cA h0_spread h0_spread_queue h0_spread_seen h0_trial h0_trial_numbers h0_trial_words c0_spread__found c0_spread__over c0_spread_queue c0_spread_seen c0_trial__all c0_trial__v c0_trial__loss c0_trial__result c0_trial__over c0_trial__heldAll c0_trial__heldRounded c0_trial_numbers c0_trial_words)) (w1 := (wm_X5_leadOn cA h0_spread h0_spread_queue h0_spread_seen h0_trial h0_trial_numbers h0_trial_words o3 o4 o5 o6 o7 o8 o9 o10 o11 o12 o13 c0_trial_numbers o14)) (rv := none) (st1 := []) (va_runV (Ts := wsX8_scale) (As := [.ref h0_trial, .int (x1 >>> (y2 &&& 31)), .int (1:Int32)]) (rest := []) ⟨hx, hb, hml, hown, hts⟩ (c_X5_search l G cA ts h0_spread h0_spread_queue h0_spread_seen h0_trial h0_trial_numbers h0_trial_words (x1 >>> (y2 &&& 31)) (1:Int32) c0_spread__found c0_spread__over c0_spread_queue c0_spread_seen c0_trial__all c0_trial__v c0_trial__loss c0_trial__result c0_trial__over c0_trial__heldAll c0_trial__heldRounded c0_trial_numbers c0_trial_words o3 o4 o5 o6 o7 o8 o9 o10 o11 o12 o13 o14 hq H.size) (cwV 3 hts gX8_scale_X5_search rfl rfl rfl (by decide +kernel) ⟨Nat.le_of_ble_eq_true rfl, Nat.le_of_ble_eq_true rfl⟩) (pre_V (ci := 5) (q0 := 7) (is := [7, 8, 9, 4, 5, 6]) rfl rfl hP hD hS hA hK hZ (by decide +kernel) (by rfl)) rfl rfl hl.1 rfl (by exact lv_room (Nat.le_of_ble_eq_true rfl)) dX8_scale_47 ⟨Nat.le_refl _, Nat.le_refl _⟩) hP hD hS hA (by decide +kernel) (by rfl) (by rfl) rfl (fun H locs hP hD hS => ?_)
      have hP : va_P G vwCl (wm_X8_reach cA h0 h0_filter h0_filter_numbers h0_filter_words h0_trial h0_trial_numbers h0_trial_words h0_spread h0_spread_queue h0_spread_seen h0_kept h0_ways h0_course h0_rows h0_changes h0_tape h0_bodies h0_causes s0__hasImage s0__hasCauses s0__stepsDone s0_filter__all s0_filter__v s0_filter__loss s0_filter__result s0_filter__over s0_filter__heldAll s0_filter__heldRounded s0_filter_numbers s0_filter_words o7 o8 o9 o10 o11 o12 o13 c0_trial_numbers o14 o3 o4 o5 o6) H := hP
      have hD : va_D A (wm_X8_reach cA h0 h0_filter h0_filter_numbers h0_filter_words h0_trial h0_trial_numbers h0_trial_words h0_spread h0_spread_queue h0_spread_seen h0_kept h0_ways h0_course h0_rows h0_changes h0_tape h0_bodies h0_causes s0__hasImage s0__hasCauses s0__stepsDone s0_filter__all s0_filter__v s0_filter__loss s0_filter__result s0_filter__over s0_filter__heldAll s0_filter__heldRounded s0_filter_numbers s0_filter_words o7 o8 o9 o10 o11 o12 o13 c0_trial_numbers o14 o3 o4 o5 o6) := hD
      refine lv_aload_n hx hb dX8_scale_50 rfl (lv_at hl 0 rfl) ?_
      refine va_get (ci := 8) (v := .ref h0_spread) (C := RX8) (T := TX8) (N := 14) hx hb hts hinX8 hown hK hP 0 rfl rfl 5 (by decide) (hts _ (List.mem_of_getElem? (i := 4) rfl)) (fun _ h9 => h9) rfl dX8_scale_51 ?_
      refine va_get (ci := 5) (v := .int o4) (C := RX5) (T := TX5) (N := 4) hx hb hts hinX5 hown hK hP 7 rfl rfl 3 (by decide) (hts _ (List.mem_of_getElem? (i := 5) rfl)) (fun _ h9 => h9) rfl dX8_scale_54 ?_
      refine lv_if_ne (tgt := 62) hx hb dX8_scale_57 (by decide) (fun c => ?_) (fun c => ?_)
      · replace hok := g_neg hok c
        refine lv_iinc (v := (y2 + 1)) (lv' := [(2, .int (y2 + 1)), (0, .ref h0), (1, .int x1)]) hx hb dX8_scale_62 hl (k := 2) rfl rfl (by decide) rfl (fun ls hl => ?_)
        refine lv_goto (tgt := 25) hx hb dX8_scale_65 (by decide) ?_
        exact ih (y2 + 1) o7 o8 o9 o10 o11 o12 o13 c0_trial_numbers o14 o3 o4 o5 o6 oE _ _ _ hP hD hS (lv_sub hl [1, 2, 0] rfl) hok K0 K1
      replace hok := g_pos hok c
      cases hok
      exact K0 _ _ _ _ _ _ _ _ _ _ _ _ _ rfl _ _ _ hP hD hS (lv_sub hl [2] rfl)
  unfold fX8_scale at hok
  refine lv_iload_n hx hb dX8_scale_0 rfl (lv_at hl 1 rfl) ?_
  refine lv_if_lt (tgt := 10) hx hb dX8_scale_1 (by decide) (fun c => ?_) (fun c => ?_)
  · replace hok := g_pos hok c
    refine lv_iconst (v := -1) hx hb dX8_scale_10 (by decide) ?_
    obtain ⟨e, hok⟩ := g_pr hok
    try subst e
    obtain ⟨e, hok⟩ := g_pr hok
    try subst e
    obtain ⟨e, hok⟩ := g_pr hok
    try subst e
    obtain ⟨e, hok⟩ := g_pr hok
    try subst e
    obtain ⟨e, hok⟩ := g_pr hok
    try subst e
    obtain ⟨e, hok⟩ := g_pr hok
    try subst e
    obtain ⟨e, hok⟩ := g_pr hok
    try subst e
    obtain ⟨e, hok⟩ := g_pr hok
    try subst e
    obtain ⟨e, hok⟩ := g_pr hok
    try subst e
    obtain ⟨e, hok⟩ := g_pr hok
    try subst e
    obtain ⟨e, hok⟩ := g_pr hok
    try subst e
    obtain ⟨e, hok⟩ := g_pr hok
    try subst e
    obtain ⟨e, hok⟩ := g_pr hok
    try subst e
    cases hok
    exact cr_i hx hb hr hlocks hQ dX8_scale_11 hP hS
  replace hok := g_neg hok c
  refine lv_iload_n hx hb dX8_scale_4 rfl (lv_at hl 1 rfl) ?_
  refine lv_bipush (v := 20) hx hb dX8_scale_5 (by decide) ?_
  refine lv_icmp_le (tgt := 12) hx hb dX8_scale_7 (by decide) (fun c => ?_) (fun c => ?_)
  · replace hok := g_pos hok c
    refine lv_aload_n hx hb dX8_scale_12 rfl (lv_at hl 0 rfl) ?_
    refine va_get (ci := 8) (v := .ref h0_trial) (C := RX8) (T := TX8) (N := 14) hx hb hts hinX8 hown hK hP 0 rfl rfl 1 (by decide) (hts _ (List.mem_of_getElem? (i := 1) rfl)) (fun _ h9 => h9) rfl dX8_scale_13 ?_
    refine lv_aload_n hx hb dX8_scale_16 rfl (lv_at hl 0 rfl) ?_
    refine va_get (ci := 8) (v := .ref h0_filter) (C := RX8) (T := TX8) (N := 14) hx hb hts hinX8 hown hK hP 0 rfl rfl 0 (by decide) (hts _ (List.mem_of_getElem? (i := 2) rfl)) (fun _ h9 => h9) rfl dX8_scale_17 ?_
    obtain ⟨o1, o2, hq, hok⟩ := g_bnd2 hok
    refine cG (is := [4, 5, 6, 1, 2, 3]) (wc := (wm_X3_take cA h0_trial h0_trial_numbers h0_trial_words h0_filter h0_filter_numbers h0_filter_words s0_trial__all s0_trial__v s0_trial__loss s0_trial__result s0_trial__over s0_trial__heldAll s0_trial__heldRounded s0_trial_numbers s0_trial_words s0_filter__all s0_filter__v s0_filter__loss s0_filter__result s0_filter__over s0_filter__heldAll s0_filter__heldRounded s0_filter_numbers s0_filter_words)) (w1 := (wm_X3_take cA h0_trial h0_trial_numbers h0_trial_words h0_filter h0_filter_numbers h0_filter_words s0_trial__all s0_trial__v s0_trial__loss s0_trial__result s0_trial__over s0_trial__heldAll s0_trial__heldRounded o1 o2 s0_filter__all s0_filter__v s0_filter__loss s0_filter__result s0_filter__over s0_filter__heldAll s0_filter__heldRounded s0_filter_numbers s0_filter_words)) (rv := none) (st1 := []) (va_runV (Ts := wsX8_scale) (As := [.ref h0_filter]) (rest := []) ⟨hx, hb, hml, hown, hts⟩ (c_X3_take l G cA ts h0_trial h0_trial_numbers h0_trial_words h0_filter h0_filter_numbers h0_filter_words s0_trial__all s0_trial__v s0_trial__loss s0_trial__result s0_trial__over s0_trial__heldAll s0_trial__heldRounded s0_trial_numbers s0_trial_words s0_filter__all s0_filter__v s0_filter__loss s0_filter__result s0_filter__over s0_filter__heldAll s0_filter__heldRounded s0_filter_numbers s0_filter_words o1 o2 hq s.heap.size) (cwV 1 hts gX8_scale_X3_take rfl rfl rfl (by decide +kernel) ⟨Nat.le_of_ble_eq_true rfl, Nat.le_of_ble_eq_true rfl⟩) (pre_V (ci := 3) (q0 := 4) (is := [4, 5, 6, 1, 2, 3]) rfl rfl hP hD hS hA hK hZ (by decide +kernel) (by rfl)) rfl rfl hl.1 rfl (by exact lv_room (Nat.le_of_ble_eq_true rfl)) dX8_scale_20 ⟨Nat.le_refl _, Nat.le_refl _⟩) hP hD hS hA (by decide +kernel) (by rfl) (by rfl) rfl (fun H locs hP hD hS => ?_)
    have hP : va_P G vwCl (wm_X8_reach cA h0 h0_filter h0_filter_numbers h0_filter_words h0_trial h0_trial_numbers h0_trial_words h0_spread h0_spread_queue h0_spread_seen h0_kept h0_ways h0_course h0_rows h0_changes h0_tape h0_bodies h0_causes s0__hasImage s0__hasCauses s0__stepsDone s0_filter__all s0_filter__v s0_filter__loss s0_filter__result s0_filter__over s0_filter__heldAll s0_filter__heldRounded s0_filter_numbers s0_filter_words s0_trial__all s0_trial__v s0_trial__loss s0_trial__result s0_trial__over s0_trial__heldAll s0_trial__heldRounded o1 o2 s0_spread__found s0_spread__over s0_spread_queue s0_spread_seen) H := hP
    have hD : va_D A (wm_X8_reach cA h0 h0_filter h0_filter_numbers h0_filter_words h0_trial h0_trial_numbers h0_trial_words h0_spread h0_spread_queue h0_spread_seen h0_kept h0_ways h0_course h0_rows h0_changes h0_tape h0_bodies h0_causes s0__hasImage s0__hasCauses s0__stepsDone s0_filter__all s0_filter__v s0_filter__loss s0_filter__result s0_filter__over s0_filter__heldAll s0_filter__heldRounded s0_filter_numbers s0_filter_words s0_trial__all s0_trial__v s0_trial__loss s0_trial__result s0_trial__over s0_trial__heldAll s0_trial__heldRounded o1 o2 s0_spread__found s0_spread__over s0_spread_queue s0_spread_seen) := hD
    refine lv_iconst (v := 0) hx hb dX8_scale_23 (by decide) ?_
    refine lv_istore_n (lv' := [(2, .int (0:Int32)), (0, .ref h0), (1, .int x1)]) hx hb dX8_scale_24 rfl hl (by decide) rfl (fun ls hl => ?_)
    obtain ⟨o15, hq, hok⟩ := g_bnd1 hok
    refine L_25 FUEL (0:Int32) s0_trial__all s0_trial__v s0_trial__loss s0_trial__result s0_trial__over s0_trial__heldAll s0_trial__heldRounded o1 o2 s0_spread__found s0_spread__over s0_spread_queue s0_spread_seen o15 _ _ _ hP hD hS (lv_sub hl [1, 2, 0] rfl) hq (fun p0_0 p0_1 p0_2 p0_3 p0_4 p0_5 p0_6 p0_7 p0_8 p0_9 p0_10 p0_11 p0_12 ho H locs ls hP hD hS hl => ?_) (fun p1_0 p1_1 p1_2 p1_3 p1_4 p1_5 p1_6 p1_7 p1_8 p1_9 p1_10 p1_11 ho H locs ls hP hD hS hl => ?_)
    · subst ho
      replace hok := g_inl hok
      replace hok := g_c13 hok
      refine lv_iload_n hx hb dX8_scale_60 rfl (lv_at hl 0 rfl) ?_
      obtain ⟨e, hok⟩ := g_pr hok
      try subst e
      obtain ⟨e, hok⟩ := g_pr hok
      try subst e
      obtain ⟨e, hok⟩ := g_pr hok
      try subst e
      obtain ⟨e, hok⟩ := g_pr hok
      try subst e
      obtain ⟨e, hok⟩ := g_pr hok
      try subst e
      obtain ⟨e, hok⟩ := g_pr hok
      try subst e
      obtain ⟨e, hok⟩ := g_pr hok
      try subst e
      obtain ⟨e, hok⟩ := g_pr hok
      try subst e
      obtain ⟨e, hok⟩ := g_pr hok
      try subst e
      obtain ⟨e, hok⟩ := g_pr hok
      try subst e
      obtain ⟨e, hok⟩ := g_pr hok
      try subst e
      obtain ⟨e, hok⟩ := g_pr hok
      try subst e
      obtain ⟨e, hok⟩ := g_pr hok
      try subst e
      cases hok
      exact cr_i hx hb hr hlocks hQ dX8_scale_61 hP hS
    subst ho
    replace hok := g_inr hok
    replace hok := g_c12 hok
    refine lv_bipush (v := -2) hx hb dX8_scale_68 (by decide) ?_
    obtain ⟨e, hok⟩ := g_pr hok
    try subst e
    obtain ⟨e, hok⟩ := g_pr hok
    try subst e
    obtain ⟨e, hok⟩ := g_pr hok
    try subst e
    obtain ⟨e, hok⟩ := g_pr hok
    try subst e
    obtain ⟨e, hok⟩ := g_pr hok
    try subst e
    obtain ⟨e, hok⟩ := g_pr hok
    try subst e
    obtain ⟨e, hok⟩ := g_pr hok
    try subst e
    obtain ⟨e, hok⟩ := g_pr hok
    try subst e
    obtain ⟨e, hok⟩ := g_pr hok
    try subst e
    obtain ⟨e, hok⟩ := g_pr hok
    try subst e
    obtain ⟨e, hok⟩ := g_pr hok
    try subst e
    obtain ⟨e, hok⟩ := g_pr hok
    try subst e
    obtain ⟨e, hok⟩ := g_pr hok
    try subst e
    cases hok
    exact cr_i hx hb hr hlocks hQ dX8_scale_70 hP hS
  replace hok := g_neg hok c
  refine lv_iconst (v := -1) hx hb dX8_scale_10 (by decide) ?_
  obtain ⟨e, hok⟩ := g_pr hok
  try subst e
  obtain ⟨e, hok⟩ := g_pr hok
  try subst e
  obtain ⟨e, hok⟩ := g_pr hok
  try subst e
  obtain ⟨e, hok⟩ := g_pr hok
  try subst e
  obtain ⟨e, hok⟩ := g_pr hok
  try subst e
  obtain ⟨e, hok⟩ := g_pr hok
  try subst e
  obtain ⟨e, hok⟩ := g_pr hok
  try subst e
  obtain ⟨e, hok⟩ := g_pr hok
  try subst e
  obtain ⟨e, hok⟩ := g_pr hok
  try subst e
  obtain ⟨e, hok⟩ := g_pr hok
  try subst e
  obtain ⟨e, hok⟩ := g_pr hok
  try subst e
  obtain ⟨e, hok⟩ := g_pr hok
  try subst e
  obtain ⟨e, hok⟩ := g_pr hok
  try subst e
  cases hok
  exact cr_i hx hb hr hlocks hQ dX8_scale_11 hP hS
