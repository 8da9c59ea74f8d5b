set_option maxHeartbeats 40000000 in
set_option maxRecDepth 100000 in
theorem c_X8_feed (l : Launch) (G : va_G) (cA : Nat → ClassId) (ts : Nat → Nat) (h0 : Nat) (h0_tape : Nat) (h0_tape_bytes : Nat) (h0_filter : Nat) (h0_trial : Nat) (h0_kept : Nat) (h0_ways : Nat) (h0_spread : Nat) (h0_course : Nat) (h0_rows : Nat) (h0_changes : Nat) (h0_bodies : Nat) (h0_causes : Nat) (h0_tape_letters : Nat) (h0_tape_firsts : Nat) (h0_tape_seconds : Nat) (x1 : Int32) (s0__hasImage : Int32) (s0__hasCauses : Int32) (s0__stepsDone : Int32) (s0_tape__size : Int32) (s0_tape__acts : Int32) (s0_tape__state : Int32) (s0_tape__numbersLeft : Int32) (s0_tape__inSecond : Int32) (s0_tape__isBelow : Int32) (s0_tape_bytes : Nat → Int32) (r : Int32) (o0_tape__size : Int32) (o0_tape_bytes : Nat → Int32) (hok : fX8_feed x1 s0_tape__size s0_tape_bytes = some (r, o0_tape__size, o0_tape_bytes)) : Ct l G cA ts yX8_feed wsX8_feed 1 40 [.ref h0, .int x1] (wm_X8_feed cA h0 h0_tape h0_tape_bytes h0_filter h0_trial h0_kept h0_ways h0_spread h0_course h0_rows h0_changes h0_bodies h0_causes h0_tape_letters h0_tape_firsts h0_tape_seconds s0__hasImage s0__hasCauses s0__stepsDone s0_tape__size s0_tape__acts s0_tape__state s0_tape__numbersLeft s0_tape__inSecond s0_tape__isBelow s0_tape_bytes) (wm_X8_feed cA h0 h0_tape h0_tape_bytes h0_filter h0_trial h0_kept h0_ways h0_spread h0_course h0_rows h0_changes h0_bodies h0_causes h0_tape_letters h0_tape_firsts h0_tape_seconds s0__hasImage s0__hasCauses s0__stepsDone o0_tape__size s0_tape__acts s0_tape__state s0_tape__numbersLeft s0_tape__inSecond s0_tape__isBelow o0_tape_bytes) (some (.int r)) := by
  refine Ct.intro (cc := cX8_feed) (maxL := 2) (ret := some .int) (by decide +kernel) rfl (Nat.le_of_ble_eq_true rfl) ?_
  intro p e s m ar below meth c A Q hx hb hr hml hown hlocks hts hK hZ hA hQ hP hD hS ls hl
  have hown : s.vm.findClass RX8 = some m.cls := hown
  have hinX6 : ∀ w ∈ wsX60, w ∈ wsX8_feed := fun _ h => List.mem_cons_of_mem _ (List.mem_append_right _ (h))
  have hinX8 : ∀ w ∈ wsX80, w ∈ wsX8_feed := fun _ h => List.mem_cons_of_mem _ (List.mem_append_left _ (List.mem_append_right _ (h)))
  have hl : lv_has ls 2 [(0, .ref h0), (1, .int x1)] := hl
  have hP : va_P G vwCl (wm_X8_feed cA h0 h0_tape h0_tape_bytes h0_filter h0_trial h0_kept h0_ways h0_spread h0_course h0_rows h0_changes h0_bodies h0_causes h0_tape_letters h0_tape_firsts h0_tape_seconds s0__hasImage s0__hasCauses s0__stepsDone s0_tape__size s0_tape__acts s0_tape__state s0_tape__numbersLeft s0_tape__inSecond s0_tape__isBelow s0_tape_bytes) s.heap := hP
  have hD : va_D A (wm_X8_feed cA h0 h0_tape h0_tape_bytes h0_filter h0_trial h0_kept h0_ways h0_spread h0_course h0_rows h0_changes h0_bodies h0_causes h0_tape_letters h0_tape_firsts h0_tape_seconds s0__hasImage s0__hasCauses s0__stepsDone s0_tape__size s0_tape__acts s0_tape__state s0_tape__numbersLeft s0_tape__inSecond s0_tape__isBelow s0_tape_bytes) := hD
  unfold fX8_feed at hok
  refine lv_iload_n hx hb dX8_feed_0 rfl (lv_at hl 1 rfl) ?_
  refine lv_bipush (v := 32) hx hb dX8_feed_1 (by decide) ?_
  refine lv_icmp_lt (tgt := 12) hx hb dX8_feed_3 (by decide) (fun c => ?_) (fun c => ?_)
  · replace hok := g_pos hok c
    refine lv_iconst (v := -1) hx hb dX8_feed_12 (by decide) ?_
    cases hok
    exact cr_i hx hb hr hlocks hQ dX8_feed_13 hP hS
  replace hok := g_neg hok c
  refine lv_iload_n hx hb dX8_feed_6 rfl (lv_at hl 1 rfl) ?_
  refine lv_bipush (v := 126) hx hb dX8_feed_7 (by decide) ?_
  refine lv_icmp_le (tgt := 14) hx hb dX8_feed_9 (by decide) (fun c => ?_) (fun c => ?_)
  · replace hok := g_pos hok c
    refine lv_aload_n hx hb dX8_feed_14 rfl (lv_at hl 0 rfl) ?_
    refine va_get (ci := 8) (v := .ref h0_tape) (C := RX8) (T := TX8) (N := 14) hx hb hts hinX8 hown hK hP 0 rfl rfl 9 (by decide) (hts _ (List.mem_of_getElem? (i := 1) rfl)) (fun _ h9 => h9) rfl dX8_feed_15 ?_
    refine va_get (ci := 6) (v := .int s0_tape__size) (C := RX6) (T := TX6) (N := 10) hx hb hts hinX6 hown hK hP 1 rfl rfl 1 (by decide) (hts _ (List.mem_of_getElem? (i := 2) rfl)) (fun _ h9 => h9) rfl dX8_feed_18 ?_
    refine lv_if_lt (tgt := 36) hx hb dX8_feed_21 (by decide) (fun c => ?_) (fun c => ?_)
    · replace hok := g_pos hok c
      refine lv_bipush (v := -3) hx hb dX8_feed_36 (by decide) ?_
      cases hok
      exact cr_i hx hb hr hlocks hQ dX8_feed_38 hP hS
    replace hok := g_neg hok c
    refine lv_aload_n hx hb dX8_feed_24 rfl (lv_at hl 0 rfl) ?_
    refine va_get (ci := 8) (v := .ref h0_tape) (C := RX8) (T := TX8) (N := 14) hx hb hts hinX8 hown hK hP 0 rfl rfl 9 (by decide) (hts _ (List.mem_of_getElem? (i := 1) rfl)) (fun _ h9 => h9) rfl dX8_feed_25 ?_
    refine va_get (ci := 6) (v := .int s0_tape__size) (C := RX6) (T := TX6) (N := 10) hx hb hts hinX6 hown hK hP 1 rfl rfl 1 (by decide) (hts _ (List.mem_of_getElem? (i := 2) rfl)) (fun _ h9 => h9) rfl dX8_feed_28 ?_
    refine lv_bipush (v := 80) hx hb dX8_feed_31 (by decide) ?_
    refine lv_icmp_lt (tgt := 39) hx hb dX8_feed_33 (by decide) (fun c => ?_) (fun c => ?_)
    · replace hok := g_pos hok c
      refine lv_aload_n hx hb dX8_feed_39 rfl (lv_at hl 0 rfl) ?_
      refine va_get (ci := 8) (v := .ref h0_tape) (C := RX8) (T := TX8) (N := 14) hx hb hts hinX8 hown hK hP 0 rfl rfl 9 (by decide) (hts _ (List.mem_of_getElem? (i := 1) rfl)) (fun _ h9 => h9) rfl dX8_feed_40 ?_
      refine va_get (ci := 6) (v := .ref h0_tape_bytes) (C := RX6) (T := TX6) (N := 10) hx hb hts hinX6 hown hK hP 1 rfl rfl 0 (by decide) (hts _ (List.mem_of_getElem? (i := 3) rfl)) (fun _ h9 => h9) rfl dX8_feed_43 ?_
      refine lv_aload_n hx hb dX8_feed_46 rfl (lv_at hl 0 rfl) ?_
      refine va_get (ci := 8) (v := .ref h0_tape) (C := RX8) (T := TX8) (N := 14) hx hb hts hinX8 hown hK hP 0 rfl rfl 9 (by decide) (hts _ (List.mem_of_getElem? (i := 1) rfl)) (fun _ h9 => h9) rfl dX8_feed_47 ?_
      refine va_get (ci := 6) (v := .int s0_tape__size) (C := RX6) (T := TX6) (N := 10) hx hb hts hinX6 hown hK hP 1 rfl rfl 1 (by decide) (hts _ (List.mem_of_getElem? (i := 2) rfl)) (fun _ h9 => h9) rfl dX8_feed_50 ?_
      refine lv_iload_n hx hb dX8_feed_53 rfl (lv_at hl 1 rfl) ?_
      refine lv_i2b (v := (x1.toInt8.toInt32)) hx hb dX8_feed_54 rfl ?_
      obtain ⟨hin, hok⟩ := g_no hok
      refine x_bast (k := s0_tape__size.toNatClampNeg) hx hb hK hP hD hS 2 2 rfl rfl hin rfl dX8_feed_55 (fun H locs hP hD hS => ?_)
      have hP : va_P G vwCl (wm_X8_feed cA h0 h0_tape h0_tape_bytes h0_filter h0_trial h0_kept h0_ways h0_spread h0_course h0_rows h0_changes h0_bodies h0_causes h0_tape_letters h0_tape_firsts h0_tape_seconds s0__hasImage s0__hasCauses s0__stepsDone s0_tape__size s0_tape__acts s0_tape__state s0_tape__numbersLeft s0_tape__inSecond s0_tape__isBelow (upd s0_tape_bytes s0_tape__size.toNatClampNeg (vp_nar .byte (x1.toInt8.toInt32)))) H := hP
      have hD : va_D A (wm_X8_feed cA h0 h0_tape h0_tape_bytes h0_filter h0_trial h0_kept h0_ways h0_spread h0_course h0_rows h0_changes h0_bodies h0_causes h0_tape_letters h0_tape_firsts h0_tape_seconds s0__hasImage s0__hasCauses s0__stepsDone s0_tape__size s0_tape__acts s0_tape__state s0_tape__numbersLeft s0_tape__inSecond s0_tape__isBelow (upd s0_tape_bytes s0_tape__size.toNatClampNeg (vp_nar .byte (x1.toInt8.toInt32)))) := hD
      refine lv_aload_n hx hb dX8_feed_56 rfl (lv_at hl 0 rfl) ?_
      refine va_get (ci := 8) (v := .ref h0_tape) (C := RX8) (T := TX8) (N := 14) hx hb hts hinX8 hown hK hP 0 rfl rfl 9 (by decide) (hts _ (List.mem_of_getElem? (i := 1) rfl)) (fun _ h9 => h9) rfl dX8_feed_57 ?_
      refine lv_dup hx hb dX8_feed_60 rfl ?_
      refine va_get (ci := 6) (v := .int s0_tape__size) (C := RX6) (T := TX6) (N := 10) hx hb hts hinX6 hown hK hP 1 rfl rfl 1 (by decide) (hts _ (List.mem_of_getElem? (i := 2) rfl)) (fun _ h9 => h9) rfl dX8_feed_61 ?_
      refine lv_iconst (v := 1) hx hb dX8_feed_64 (by decide) ?_
      refine lv_iadd hx hb dX8_feed_65 ?_
      refine va_put (D := G) (ci := 6) (v := .int (s0_tape__size + (1:Int32))) (ty := .int) (C := RX6) (T := TX6) (N := 10) hx hb hts hinX6 tyX6 tyX6_ok nmX6 hown hK hP hD hS 1 rfl rfl 1 (by decide) (hts _ (List.mem_of_getElem? (i := 2) rfl)) (fun _ h9 => h9) rfl (by decide +kernel) rfl rfl (Nat.le_of_ble_eq_true rfl) dX8_feed_66 (fun H locs hP hD hS => ?_)
      have hP : va_P G vwCl (wm_X8_feed cA h0 h0_tape h0_tape_bytes h0_filter h0_trial h0_kept h0_ways h0_spread h0_course h0_rows h0_changes h0_bodies h0_causes h0_tape_letters h0_tape_firsts h0_tape_seconds s0__hasImage s0__hasCauses s0__stepsDone (s0_tape__size + (1:Int32)) s0_tape__acts s0_tape__state s0_tape__numbersLeft s0_tape__inSecond s0_tape__isBelow (upd s0_tape_bytes s0_tape__size.toNatClampNeg (vp_nar .byte (x1.toInt8.toInt32)))) H := hP
      have hD : va_D A (wm_X8_feed cA h0 h0_tape h0_tape_bytes h0_filter h0_trial h0_kept h0_ways h0_spread h0_course h0_rows h0_changes h0_bodies h0_causes h0_tape_letters h0_tape_firsts h0_tape_seconds s0__hasImage s0__hasCauses s0__stepsDone (s0_tape__size + (1:Int32)) s0_tape__acts s0_tape__state s0_tape__numbersLeft s0_tape__inSecond s0_tape__isBelow (upd s0_tape_bytes s0_tape__size.toNatClampNeg (vp_nar .byte (x1.toInt8.toInt32)))) := hD
      refine lv_aload_n hx hb dX8_feed_69 rfl (lv_at hl 0 rfl) ?_
      refine va_get (ci := 8) (v := .ref h0_tape) (C := RX8) (T := TX8) (N := 14) hx hb hts hinX8 hown hK hP 0 rfl rfl 9 (by decide) (hts _ (List.mem_of_getElem? (i := 1) rfl)) (fun _ h9 => h9) rfl dX8_feed_70 ?_
      refine va_get (ci := 6) (v := .int (s0_tape__size + (1:Int32))) (C := RX6) (T := TX6) (N := 10) hx hb hts hinX6 hown hK hP 1 rfl rfl 1 (by decide) (hts _ (List.mem_of_getElem? (i := 2) rfl)) (fun _ h9 => h9) rfl dX8_feed_73 ?_
      cases hok
      exact cr_i hx hb hr hlocks hQ dX8_feed_76 hP hS
    replace hok := g_neg hok c
    refine lv_bipush (v := -3) hx hb dX8_feed_36 (by decide) ?_
    cases hok
    exact cr_i hx hb hr hlocks hQ dX8_feed_38 hP hS
  replace hok := g_neg hok c
  refine lv_iconst (v := -1) hx hb dX8_feed_12 (by decide) ?_
  cases hok
  exact cr_i hx hb hr hlocks hQ dX8_feed_13 hP hS
set_option maxHeartbeats 40000000 in
set_option maxRecDepth 100000 in
theorem c_X8_wipe (l : Launch) (G : va_G) (cA : Nat → ClassId) (ts : Nat → Nat) (h0 : Nat) (h0_tape : Nat) (h0_filter : Nat) (h0_trial : Nat) (h0_kept : Nat) (h0_ways : Nat) (h0_spread : Nat) (h0_course : Nat) (h0_rows : Nat) (h0_changes : Nat) (h0_bodies : Nat) (h0_causes : Nat) (h0_tape_bytes : Nat) (h0_tape_letters : Nat) (h0_tape_firsts : Nat) (h0_tape_seconds : Nat) (s0__hasImage : Int32) (s0__hasCauses : Int32) (s0__stepsDone : Int32) (s0_tape__size : Int32) (s0_tape__acts : Int32) (s0_tape__state : Int32) (s0_tape__numbersLeft : Int32) (s0_tape__inSecond : Int32) (s0_tape__isBelow : Int32) (r : Int32) (o0_tape__size : Int32) (hok : fX8_wipe s0_tape__size = some (r, o0_tape__size)) : Ct l G cA ts yX8_wipe wsX8_wipe 1 40 [.ref h0] (wm_X8_wipe cA h0 h0_tape h0_filter h0_trial h0_kept h0_ways h0_spread h0_course h0_rows h0_changes h0_bodies h0_causes h0_tape_bytes h0_tape_letters h0_tape_firsts h0_tape_seconds s0__hasImage s0__hasCauses s0__stepsDone s0_tape__size s0_tape__acts s0_tape__state s0_tape__numbersLeft s0_tape__inSecond s0_tape__isBelow) (wm_X8_wipe cA h0 h0_tape h0_filter h0_trial h0_kept h0_ways h0_spread h0_course h0_rows h0_changes h0_bodies h0_causes h0_tape_bytes h0_tape_letters h0_tape_firsts h0_tape_seconds s0__hasImage s0__hasCauses s0__stepsDone o0_tape__size s0_tape__acts s0_tape__state s0_tape__numbersLeft s0_tape__inSecond s0_tape__isBelow) (some (.int r)) := by
  refine Ct.intro (cc := cX8_wipe) (maxL := 2) (ret := some .int) (by decide +kernel) rfl (Nat.le_of_ble_eq_true rfl) ?_
  intro p e s m ar below meth c A Q hx hb hr hml hown hlocks hts hK hZ hA hQ hP hD hS ls hl
  have hown : s.vm.findClass RX8 = some m.cls := hown
  have hinX6 : ∀ w ∈ wsX60, w ∈ wsX8_wipe := fun _ h => List.mem_cons_of_mem _ (List.mem_append_right _ (h))
  have hinX8 : ∀ w ∈ wsX80, w ∈ wsX8_wipe := fun _ h => List.mem_cons_of_mem _ (List.mem_append_left _ (List.mem_append_right _ (h)))
  have hl : lv_has ls 2 [(0, .ref h0)] := hl
  have hP : va_P G vwCl (wm_X8_wipe cA h0 h0_tape h0_filter h0_trial h0_kept h0_ways h0_spread h0_course h0_rows h0_changes h0_bodies h0_causes h0_tape_bytes h0_tape_letters h0_tape_firsts h0_tape_seconds s0__hasImage s0__hasCauses s0__stepsDone s0_tape__size s0_tape__acts s0_tape__state s0_tape__numbersLeft s0_tape__inSecond s0_tape__isBelow) s.heap := hP
  have hD : va_D A (wm_X8_wipe cA h0 h0_tape h0_filter h0_trial h0_kept h0_ways h0_spread h0_course h0_rows h0_changes h0_bodies h0_causes h0_tape_bytes h0_tape_letters h0_tape_firsts h0_tape_seconds s0__hasImage s0__hasCauses s0__stepsDone s0_tape__size s0_tape__acts s0_tape__state s0_tape__numbersLeft s0_tape__inSecond s0_tape__isBelow) := hD
  unfold fX8_wipe at hok
  refine lv_aload_n hx hb dX8_wipe_0 rfl (lv_at hl 0 rfl) ?_
  refine va_get (ci := 8) (v := .ref h0_tape) (C := RX8) (T := TX8) (N := 14) hx hb hts hinX8 hown hK hP 0 rfl rfl 9 (by decide) (hts _ (List.mem_of_getElem? (i := 1) rfl)) (fun _ h9 => h9) rfl dX8_wipe_1 ?_
  refine va_get (ci := 6) (v := .int s0_tape__size) (C := RX6) (T := TX6) (N := 10) hx hb hts hinX6 hown hK hP 1 rfl rfl 1 (by decide) (hts _ (List.mem_of_getElem? (i := 2) rfl)) (fun _ h9 => h9) rfl dX8_wipe_4 ?_
  refine lv_istore_n (lv' := [(1, .int s0_tape__size), (0, .ref h0)]) hx hb dX8_wipe_7 rfl hl (by decide) rfl (fun ls hl => ?_)
  refine lv_aload_n hx hb dX8_wipe_8 rfl (lv_at hl 1 rfl) ?_
  refine va_get (ci := 8) (v := .ref h0_tape) (C := RX8) (T := TX8) (N := 14) hx hb hts hinX8 hown hK hP 0 rfl rfl 9 (by decide) (hts _ (List.mem_of_getElem? (i := 1) rfl)) (fun _ h9 => h9) rfl dX8_wipe_9 ?_
  refine lv_iconst (v := 0) hx hb dX8_wipe_12 (by decide) ?_
  refine va_put (D := G) (ci := 6) (v := .int (0:Int32)) (ty := .int) (C := RX6) (T := TX6) (N := 10) hx hb hts hinX6 tyX6 tyX6_ok nmX6 hown hK hP hD hS 1 rfl rfl 1 (by decide) (hts _ (List.mem_of_getElem? (i := 2) rfl)) (fun _ h9 => h9) rfl (by decide +kernel) rfl rfl (Nat.le_of_ble_eq_true rfl) dX8_wipe_13 (fun H locs hP hD hS => ?_)
  have hP : va_P G vwCl (wm_X8_wipe cA h0 h0_tape h0_filter h0_trial h0_kept h0_ways h0_spread h0_course h0_rows h0_changes h0_bodies h0_causes h0_tape_bytes h0_tape_letters h0_tape_firsts h0_tape_seconds s0__hasImage s0__hasCauses s0__stepsDone (0:Int32) s0_tape__acts s0_tape__state s0_tape__numbersLeft s0_tape__inSecond s0_tape__isBelow) H := hP
  have hD : va_D A (wm_X8_wipe cA h0 h0_tape h0_filter h0_trial h0_kept h0_ways h0_spread h0_course h0_rows h0_changes h0_bodies h0_causes h0_tape_bytes h0_tape_letters h0_tape_firsts h0_tape_seconds s0__hasImage s0__hasCauses s0__stepsDone (0:Int32) s0_tape__acts s0_tape__state s0_tape__numbersLeft s0_tape__inSecond s0_tape__isBelow) := hD
  refine lv_iload_n hx hb dX8_wipe_16 rfl (lv_at hl 0 rfl) ?_
  cases hok
  exact cr_i hx hb hr hlocks hQ dX8_wipe_17 hP hS
set_option maxHeartbeats 40000000 in
set_option maxRecDepth 100000 in
theorem c_X8_perform (l : Launch) (G : va_G) (cA : Nat → ClassId) (ts : Nat → Nat) (h0 : Nat) (h0_filter : Nat) (h0_filter_numbers : Nat) (h0_filter_words : Nat) (h0_changes : Nat) (h0_changes_slots : Nat) (h0_changes_olds : Nat) (h0_changes_news : Nat) (h0_causes : Nat) (h0_trial : Nat) (h0_kept : Nat) (h0_ways : Nat) (h0_spread : Nat) (h0_course : Nat) (h0_rows : Nat) (h0_tape : Nat) (h0_bodies : Nat) (x1 : Int32) (x2 : Int32) (x3 : Int32) (s0__hasImage : Int32) (s0__hasCauses : Int32) (s0__stepsDone : Int32) (s0_filter__all : Int32) (s0_filter__v : Int32) (s0_filter__loss : Int32) (s0_filter__result : Int32) (s0_filter__over : Int32) (s0_filter__heldAll : Int32) (s0_filter__heldRounded : Int32) (s0_filter_numbers : Nat → Int32) (s0_filter_words : Nat → Int32) (s0_changes__done : Int32) (s0_changes__undone : Int32) (s0_changes_slots : Nat → Int32) (s0_changes_olds : Nat → Int32) (s0_changes_news : Nat → Int32) (s0_causes : Nat → Int32) (r : Int32) (o0__hasCauses : Int32) (o0__stepsDone : Int32) (o0_filter__all : Int32) (o0_filter__v : Int32) (o0_filter__loss : Int32) (o0_filter__result : Int32) (o0_filter__over : Int32) (o0_filter__heldAll : Int32) (o0_filter__heldRounded : Int32) (o0_filter_numbers : Nat → Int32) (o0_filter_words : Nat → Int32) (o0_changes__done : Int32) (o0_changes__undone : Int32) (o0_changes_slots : Nat → Int32) (o0_changes_olds : Nat → Int32) (o0_changes_news : Nat → Int32) (o0_causes : Nat → Int32) (hok : fX8_perform x1 x2 x3 s0__hasCauses s0__stepsDone s0_filter__all s0_filter__v s0_filter__loss s0_filter__result s0_filter__over s0_filter__heldAll s0_filter__heldRounded s0_filter_numbers s0_filter_words s0_changes__done s0_changes__undone s0_changes_slots s0_changes_olds s0_changes_news s0_causes = some (r, o0__hasCauses, o0__stepsDone, o0_filter__all, o0_filter__v, o0_filter__loss, o0_filter__result, o0_filter__over, o0_filter__heldAll, o0_filter__heldRounded, o0_filter_numbers, o0_filter_words, o0_changes__done, o0_changes__undone, o0_changes_slots, o0_changes_olds, o0_changes_news, o0_causes)) : Ct l G cA ts yX8_perform wsX8_perform 6 147 [.ref h0, .int x1, .int x2, .int x3] (wm_X8_perform cA h0 h0_filter h0_filter_numbers h0_filter_words h0_changes h0_changes_slots h0_changes_olds h0_changes_news h0_causes h0_trial h0_kept h0_ways h0_spread h0_course h0_rows h0_tape h0_bodies s0__hasImage s0__hasCauses s0__stepsDone s0_filter__all s0_filter__v s0_filter__loss s0_filter__result s0_filter__over s0_filter__heldAll s0_filter__heldRounded s0_filter_numbers s0_filter_words s0_changes__done s0_changes__undone s0_changes_slots s0_changes_olds s0_changes_news s0_causes) (wm_X8_perform cA h0 h0_filter h0_filter_numbers h0_filter_words h0_changes h0_changes_slots h0_changes_olds h0_changes_news h0_causes h0_trial h0_kept h0_ways h0_spread h0_course h0_rows h0_tape h0_bodies s0__hasImage o0__hasCauses o0__stepsDone o0_filter__all o0_filter__v o0_filter__loss o0_filter__result o0_filter__over o0_filter__heldAll o0_filter__heldRounded o0_filter_numbers o0_filter_words o0_changes__done o0_changes__undone o0_changes_slots o0_changes_olds o0_changes_news o0_causes) (some (.int r)) := by
  refine Ct.intro (cc := cX8_perform) (maxL := 4) (ret := some .int) (by decide +kernel) rfl (Nat.le_of_ble_eq_true rfl) ?_
  intro p e s m ar below meth c A Q hx hb hr hml hown hlocks hts hK hZ hA hQ hP hD hS ls hl
  have hown : s.vm.findClass RX8 = some m.cls := hown
  have hl : lv_has ls 4 [(0, .ref h0), (1, .int x1), (2, .int x2), (3, .int x3)] := hl
  have hP : va_P G vwCl (wm_X8_perform cA h0 h0_filter h0_filter_numbers h0_filter_words h0_changes h0_changes_slots h0_changes_olds h0_changes_news h0_causes h0_trial h0_kept h0_ways h0_spread h0_course h0_rows h0_tape h0_bodies s0__hasImage s0__hasCauses s0__stepsDone s0_filter__all s0_filter__v s0_filter__loss s0_filter__result s0_filter__over s0_filter__heldAll s0_filter__heldRounded s0_filter_numbers s0_filter_words s0_changes__done s0_changes__undone s0_changes_slots s0_changes_olds s0_changes_news s0_causes) s.heap := hP
  have hD : va_D A (wm_X8_perform cA h0 h0_filter h0_filter_numbers h0_filter_words h0_changes h0_changes_slots h0_changes_olds h0_changes_news h0_causes h0_trial h0_kept h0_ways h0_spread h0_course h0_rows h0_tape h0_bodies s0__hasImage s0__hasCauses s0__stepsDone s0_filter__all s0_filter__v s0_filter__loss s0_filter__result s0_filter__over s0_filter__heldAll s0_filter__heldRounded s0_filter_numbers s0_filter_words s0_changes__done s0_changes__undone s0_changes_slots s0_changes_olds s0_changes_news s0_causes) := hD
  unfold fX8_perform at hok
  refine lv_iload_n hx hb dX8_perform_0 rfl (lv_at hl 1 rfl) ?_
  refine lv_bipush (v := 9) hx hb dX8_perform_1 (by decide) ?_
  refine lv_icmp_ne (tgt := 12) hx hb dX8_perform_3 (by decide) (fun c => ?_) (fun c => ?_)
  · replace hok := g_neg hok c
    refine lv_iload_n hx hb dX8_perform_12 rfl (lv_at hl 1 rfl) ?_
    refine lv_bipush (v := 8) hx hb dX8_perform_13 (by decide) ?_
    refine lv_icmp_ne (tgt := 25) hx hb dX8_perform_15 (by decide) (fun c => ?_) (fun c => ?_)
    · replace hok := g_neg hok c
      refine lv_iload_n hx hb dX8_perform_25 rfl (lv_at hl 1 rfl) ?_
      refine lv_iconst (v := 2) hx hb dX8_perform_26 (by decide) ?_
      refine lv_icmp_ne (tgt := 40) hx hb dX8_perform_27 (by decide) (fun c => ?_) (fun c => ?_)
      · replace hok := g_neg hok c
        refine lv_aload_n hx hb dX8_perform_40 rfl (lv_at hl 0 rfl) ?_
        refine lv_iload_n hx hb dX8_perform_41 rfl (lv_at hl 1 rfl) ?_
        refine lv_iconst (v := 0) hx hb dX8_perform_42 (by decide) ?_
        refine lv_iload_n hx hb dX8_perform_43 rfl (lv_at hl 2 rfl) ?_
        obtain ⟨r1, o2, o3, o4, o5, o6, o7, o8, hq, hok⟩ := g_bnd8 hok
        refine cG (is := [0, 1, 2, 3, 4, 5, 6, 7]) (wc := (wm_X8_set cA h0 h0_filter h0_filter_numbers h0_filter_words h0_changes h0_changes_slots h0_changes_olds h0_changes_news h0_trial h0_kept h0_ways h0_spread h0_course h0_rows h0_tape h0_bodies h0_causes s0__hasImage s0__hasCauses s0__stepsDone s0_filter__all s0_filter__v s0_filter__loss s0_filter__result s0_filter__over s0_filter__heldAll s0_filter__heldRounded s0_filter_numbers s0_filter_words s0_changes__done s0_changes__undone s0_changes_slots s0_changes_olds s0_changes_news)) (w1 := (wm_X8_set cA h0 h0_filter h0_filter_numbers h0_filter_words h0_changes h0_changes_slots h0_changes_olds h0_changes_news h0_trial h0_kept h0_ways h0_spread h0_course h0_rows h0_tape h0_bodies h0_causes s0__hasImage s0__hasCauses s0__stepsDone s0_filter__all s0_filter__v s0_filter__loss s0_filter__result s0_filter__over s0_filter__heldAll s0_filter__heldRounded o2 o3 o4 o5 o6 o7 o8)) (rv := (some (.int r1))) (st1 := [.int r1]) (va_runV (Ts := wsX8_perform) (As := [.int x1, .int (0:Int32), .int x2]) (rest := []) ⟨hx, hb, hml, hown, hts⟩ (c_X8_set l G cA ts h0 h0_filter h0_filter_numbers h0_filter_words h0_changes h0_changes_slots h0_changes_olds h0_changes_news h0_trial h0_kept h0_ways h0_spread h0_course h0_rows h0_tape h0_bodies h0_causes x1 (0:Int32) x2 s0__hasImage s0__hasCauses s0__stepsDone s0_filter__all s0_filter__v s0_filter__loss s0_filter__result s0_filter__over s0_filter__heldAll s0_filter__heldRounded s0_filter_numbers s0_filter_words s0_changes__done s0_changes__undone s0_changes_slots s0_changes_olds s0_changes_news r1 o2 o3 o4 o5 o6 o7 o8 hq s.heap.size) (cwV 3 hts gX8_perform_X8_set rfl rfl rfl (by decide +kernel) ⟨Nat.le_of_ble_eq_true rfl, Nat.le_of_ble_eq_true rfl⟩) (pre_V (ci := 8) (q0 := 0) (is := [0, 1, 2, 3, 4, 5, 6, 7]) rfl rfl hP hD hS hA hK hZ (by decide +kernel) (by rfl)) rfl rfl hl.1 rfl (by exact lv_room (Nat.le_of_ble_eq_true rfl)) dX8_perform_44 ⟨Nat.le_refl _, Nat.le_refl _⟩) hP hD hS hA (by decide +kernel) (by rfl) (by rfl) rfl (fun H locs hP hD hS => ?_)
        have hP : va_P G vwCl (wm_X8_perform cA h0 h0_filter h0_filter_numbers h0_filter_words h0_changes h0_changes_slots h0_changes_olds h0_changes_news h0_causes h0_trial h0_kept h0_ways h0_spread h0_course h0_rows h0_tape h0_bodies s0__hasImage s0__hasCauses s0__stepsDone s0_filter__all s0_filter__v s0_filter__loss s0_filter__result s0_filter__over s0_filter__heldAll s0_filter__heldRounded o2 o3 o4 o5 o6 o7 o8 s0_causes) H := hP
        have hD : va_D A (wm_X8_perform cA h0 h0_filter h0_filter_numbers h0_filter_words h0_changes h0_changes_slots h0_changes_olds h0_changes_news h0_causes h0_trial h0_kept h0_ways h0_spread h0_course h0_rows h0_tape h0_bodies s0__hasImage s0__hasCauses s0__stepsDone s0_filter__all s0_filter__v s0_filter__loss s0_filter__result s0_filter__over s0_filter__heldAll s0_filter__heldRounded o2 o3 o4 o5 o6 o7 o8 s0_causes) := hD
        obtain ⟨e, hok⟩ := g_pr hok
        try subst e
        obtain ⟨e, hok⟩ := g_pr hok
        try subst e
        obtain ⟨e, hok⟩ := g_pr hok
        try subst e
        obtain ⟨e, hok⟩ := g_pr hok
        try subst e
        obtain ⟨e, hok⟩ := g_pr hok
        try subst e
        obtain ⟨e, hok⟩ := g_pr hok
        try subst e
        obtain ⟨e, hok⟩ := g_pr hok
        try subst e
        obtain ⟨e, hok⟩ := g_pr hok
        try subst e
        obtain ⟨e, hok⟩ := g_pr hok
        try subst e
        obtain ⟨e, hok⟩ := g_pr hok
        try subst e
        obtain ⟨e, hok⟩ := g_pr hok
        try subst e
        obtain ⟨e, hok⟩ := g_pr hok
        try subst e
        obtain ⟨e, hok⟩ := g_pr hok
        try subst e
        obtain ⟨e, hok⟩ := g_pr hok
        try subst e
        obtain ⟨e, hok⟩ := g_pr hok
        try subst e
        obtain ⟨e, hok⟩ := g_pr hok
        try subst e
        obtain ⟨e, hok⟩ := g_pr hok
        try subst e
        cases hok
        exact cr_i hx hb hr hlocks hQ dX8_perform_47 hP hS
      replace hok := g_pos hok c
      refine lv_aload_n hx hb dX8_perform_30 rfl (lv_at hl 0 rfl) ?_
      refine lv_iload_n hx hb dX8_perform_31 rfl (lv_at hl 1 rfl) ?_
      refine lv_iload_n hx hb dX8_perform_32 rfl (lv_at hl 2 rfl) ?_
      refine lv_iload_n hx hb dX8_perform_33 rfl (lv_at hl 3 rfl) ?_
      obtain ⟨r9, o10, o11, o12, o13, o14, o15, o16, hq, hok⟩ := g_bnd8 hok
      refine cG (is := [0, 1, 2, 3, 4, 5, 6, 7]) (wc := (wm_X8_set cA h0 h0_filter h0_filter_numbers h0_filter_words h0_changes h0_changes_slots h0_changes_olds h0_changes_news h0_trial h0_kept h0_ways h0_spread h0_course h0_rows h0_tape h0_bodies h0_causes s0__hasImage s0__hasCauses s0__stepsDone s0_filter__all s0_filter__v s0_filter__loss s0_filter__result s0_filter__over s0_filter__heldAll s0_filter__heldRounded s0_filter_numbers s0_filter_words s0_changes__done s0_changes__undone s0_changes_slots s0_changes_olds s0_changes_news)) (w1 := (wm_X8_set cA h0 h0_filter h0_filter_numbers h0_filter_words h0_changes h0_changes_slots h0_changes_olds h0_changes_news h0_trial h0_kept h0_ways h0_spread h0_course h0_rows h0_tape h0_bodies h0_causes s0__hasImage s0__hasCauses s0__stepsDone s0_filter__all s0_filter__v s0_filter__loss s0_filter__result s0_filter__over s0_filter__heldAll s0_filter__heldRounded o10 o11 o12 o13 o14 o15 o16)) (rv := (some (.int r9))) (st1 := [.int r9]) (va_runV (Ts := wsX8_perform) (As := [.int x1, .int x2, .int x3]) (rest := []) ⟨hx, hb, hml, hown, hts⟩ (c_X8_set l G cA ts h0 h0_filter h0_filter_numbers h0_filter_words h0_changes h0_changes_slots h0_changes_olds h0_changes_news h0_trial h0_kept h0_ways h0_spread h0_course h0_rows h0_tape h0_bodies h0_causes x1 x2 x3 s0__hasImage s0__hasCauses s0__stepsDone s0_filter__all s0_filter__v s0_filter__loss s0_filter__result s0_filter__over s0_filter__heldAll s0_filter__heldRounded s0_filter_numbers s0_filter_words s0_changes__done s0_changes__undone s0_changes_slots s0_changes_olds s0_changes_news r9 o10 o11 o12 o13 o14 o15 o16 hq s.heap.size) (cwV 3 hts gX8_perform_X8_set rfl rfl rfl (by decide +kernel) ⟨Nat.le_of_ble_eq_true rfl, Nat.le_of_ble_eq_true rfl⟩) (pre_V (ci := 8) (q0 := 0) (is := [0, 1, 2, 3, 4, 5, 6, 7]) rfl rfl hP hD hS hA hK hZ (by decide +kernel) (by rfl)) rfl rfl hl.1 rfl (by exact lv_room (Nat.le_of_ble_eq_true rfl)) dX8_perform_34 ⟨Nat.le_refl _, Nat.le_refl _⟩) hP hD hS hA (by decide +kernel) (by rfl) (by rfl) rfl (fun H locs hP hD hS => ?_)
      have hP : va_P G vwCl (wm_X8_perform cA h0 h0_filter h0_filter_numbers h0_filter_words h0_changes h0_changes_slots h0_changes_olds h0_changes_news h0_causes h0_trial h0_kept h0_ways h0_spread h0_course h0_rows h0_tape h0_bodies s0__hasImage s0__hasCauses s0__stepsDone s0_filter__all s0_filter__v s0_filter__loss s0_filter__result s0_filter__over s0_filter__heldAll s0_filter__heldRounded o10 o11 o12 o13 o14 o15 o16 s0_causes) H := hP
      have hD : va_D A (wm_X8_perform cA h0 h0_filter h0_filter_numbers h0_filter_words h0_changes h0_changes_slots h0_changes_olds h0_changes_news h0_causes h0_trial h0_kept h0_ways h0_spread h0_course h0_rows h0_tape h0_bodies s0__hasImage s0__hasCauses s0__stepsDone s0_filter__all s0_filter__v s0_filter__loss s0_filter__result s0_filter__over s0_filter__heldAll s0_filter__heldRounded o10 o11 o12 o13 o14 o15 o16 s0_causes) := hD
      refine lv_goto (tgt := 47) hx hb dX8_perform_37 (by decide) ?_
      obtain ⟨e, hok⟩ := g_pr hok
      try subst e
      obtain ⟨e, hok⟩ := g_pr hok
      try subst e
      obtain ⟨e, hok⟩ := g_pr hok
      try subst e
      obtain ⟨e, hok⟩ := g_pr hok
      try subst e
      obtain ⟨e, hok⟩ := g_pr hok
      try subst e
      obtain ⟨e, hok⟩ := g_pr hok
      try subst e
      obtain ⟨e, hok⟩ := g_pr hok
      try subst e
      obtain ⟨e, hok⟩ := g_pr hok
      try subst e
      obtain ⟨e, hok⟩ := g_pr hok
      try subst e
      obtain ⟨e, hok⟩ := g_pr hok
      try subst e
      obtain ⟨e, hok⟩ := g_pr hok
      try subst e
      obtain ⟨e, hok⟩ := g_pr hok
      try subst e
      obtain ⟨e, hok⟩ := g_pr hok
      try subst e
      obtain ⟨e, hok⟩ := g_pr hok
      try subst e
      obtain ⟨e, hok⟩ := g_pr hok
      try subst e
      obtain ⟨e, hok⟩ := g_pr hok
      try subst e
      obtain ⟨e, hok⟩ := g_pr hok
      try subst e
      cases hok
      exact cr_i hx hb hr hlocks hQ dX8_perform_47 hP hS
    replace hok := g_pos hok c
    refine lv_aload_n hx hb dX8_perform_18 rfl (lv_at hl 0 rfl) ?_
    refine lv_iload_n hx hb dX8_perform_19 rfl (lv_at hl 2 rfl) ?_
    refine lv_iload_n hx hb dX8_perform_20 rfl (lv_at hl 3 rfl) ?_
    obtain ⟨r17, o18, hq, hok⟩ := g_bnd2 hok
    refine cG (is := [0, 1, 2, 3]) (wc := (wm_X8_past cA h0 h0_filter h0_filter_numbers h0_filter_words h0_trial h0_kept h0_ways h0_spread h0_course h0_rows h0_changes h0_tape h0_bodies h0_causes s0__hasImage s0__hasCauses s0__stepsDone s0_filter__all s0_filter__v s0_filter__loss s0_filter__result s0_filter__over s0_filter__heldAll s0_filter__heldRounded s0_filter_numbers s0_filter_words)) (w1 := (wm_X8_past cA h0 h0_filter h0_filter_numbers h0_filter_words h0_trial h0_kept h0_ways h0_spread h0_course h0_rows h0_changes h0_tape h0_bodies h0_causes s0__hasImage s0__hasCauses s0__stepsDone s0_filter__all s0_filter__v s0_filter__loss s0_filter__result s0_filter__over s0_filter__heldAll s0_filter__heldRounded s0_filter_numbers o18)) (rv := (some (.int r17))) (st1 := [.int r17]) (va_runV (Ts := wsX8_perform) (As := [.int x2, .int x3]) (rest := []) ⟨hx, hb, hml, hown, hts⟩ (c_X8_past l G cA ts h0 h0_filter h0_filter_numbers h0_filter_words h0_trial h0_kept h0_ways h0_spread h0_course h0_rows h0_changes h0_tape h0_bodies h0_causes x2 x3 s0__hasImage s0__hasCauses s0__stepsDone s0_filter__all s0_filter__v s0_filter__loss s0_filter__result s0_filter__over s0_filter__heldAll s0_filter__heldRounded s0_filter_numbers s0_filter_words r17 o18 hq s.heap.size) (cwV 2 hts gX8_perform_X8_past rfl rfl rfl (by decide +kernel) ⟨Nat.le_of_ble_eq_true rfl, Nat.le_of_ble_eq_true rfl⟩) (pre_V (ci := 8) (q0 := 0) (is := [0, 1, 2, 3]) rfl rfl hP hD hS hA hK hZ (by decide +kernel) (by rfl)) rfl rfl hl.1 rfl (by exact lv_room (Nat.le_of_ble_eq_true rfl)) dX8_perform_21 ⟨Nat.le_refl _, Nat.le_refl _⟩) hP hD hS hA (by decide +kernel) (by rfl) (by rfl) rfl (fun H locs hP hD hS => ?_)
    have hP : va_P G vwCl (wm_X8_perform cA h0 h0_filter h0_filter_numbers h0_filter_words h0_changes h0_changes_slots h0_changes_olds h0_changes_news h0_causes h0_trial h0_kept h0_ways h0_spread h0_course h0_rows h0_tape h0_bodies s0__hasImage s0__hasCauses s0__stepsDone s0_filter__all s0_filter__v s0_filter__loss s0_filter__result s0_filter__over s0_filter__heldAll s0_filter__heldRounded s0_filter_numbers o18 s0_changes__done s0_changes__undone s0_changes_slots s0_changes_olds s0_changes_news s0_causes) H := hP
    have hD : va_D A (wm_X8_perform cA h0 h0_filter h0_filter_numbers h0_filter_words h0_changes h0_changes_slots h0_changes_olds h0_changes_news h0_causes h0_trial h0_kept h0_ways h0_spread h0_course h0_rows h0_tape h0_bodies s0__hasImage s0__hasCauses s0__stepsDone s0_filter__all s0_filter__v s0_filter__loss s0_filter__result s0_filter__over s0_filter__heldAll s0_filter__heldRounded s0_filter_numbers o18 s0_changes__done s0_changes__undone s0_changes_slots s0_changes_olds s0_changes_news s0_causes) := hD
    obtain ⟨e, hok⟩ := g_pr hok
    try subst e
    obtain ⟨e, hok⟩ := g_pr hok
    try subst e
    obtain ⟨e, hok⟩ := g_pr hok
    try subst e
    obtain ⟨e, hok⟩ := g_pr hok
    try subst e
    obtain ⟨e, hok⟩ := g_pr hok
    try subst e
    obtain ⟨e, hok⟩ := g_pr hok
    try subst e
    obtain ⟨e, hok⟩ := g_pr hok
    try subst e
    obtain ⟨e, hok⟩ := g_pr hok
    try subst e
    obtain ⟨e, hok⟩ := g_pr hok
    try subst e
    obtain ⟨e, hok⟩ := g_pr hok
    try subst e
    obtain ⟨e, hok⟩ := g_pr hok
    try subst e
    obtain ⟨e, hok⟩ := g_pr hok
    try subst e
    obtain ⟨e, hok⟩ := g_pr hok
    try subst e
    obtain ⟨e, hok⟩ := g_pr hok
    try subst e
    obtain ⟨e, hok⟩ := g_pr hok
    try subst e
    obtain ⟨e, hok⟩ := g_pr hok
    try subst e
    obtain ⟨e, hok⟩ := g_pr hok
    try subst e
    cases hok
    exact cr_i hx hb hr hlocks hQ dX8_perform_24 hP hS
  replace hok := g_pos hok c
  refine lv_aload_n hx hb dX8_perform_6 rfl (lv_at hl 0 rfl) ?_
  refine lv_iload_n hx hb dX8_perform_7 rfl (lv_at hl 2 rfl) ?_
  obtain ⟨r19, o20, o21, o22, o23, o24, o25, o26, o27, o28, o29, o30, hq, hok⟩ := g_bnd12 hok
  refine cG (is := [0, 1, 2, 3, 8]) (wc := (wm_X8_step cA h0 h0_filter h0_filter_numbers h0_filter_words h0_causes h0_trial h0_kept h0_ways h0_spread h0_course h0_rows h0_changes h0_tape h0_bodies s0__hasImage s0__hasCauses s0__stepsDone s0_filter__all s0_filter__v s0_filter__loss s0_filter__result s0_filter__over s0_filter__heldAll s0_filter__heldRounded s0_filter_numbers s0_filter_words s0_causes)) (w1 := (wm_X8_step cA h0 h0_filter h0_filter_numbers h0_filter_words h0_causes h0_trial h0_kept h0_ways h0_spread h0_course h0_rows h0_changes h0_tape h0_bodies s0__hasImage o20 o21 o22 o23 o24 o25 o26 o27 o28 s0_filter_numbers o29 o30)) (rv := (some (.int r19))) (st1 := [.int r19]) (va_runV (Ts := wsX8_perform) (As := [.int x2]) (rest := []) ⟨hx, hb, hml, hown, hts⟩ (c_X8_step l G cA ts h0 h0_filter h0_filter_numbers h0_filter_words h0_causes h0_trial h0_kept h0_ways h0_spread h0_course h0_rows h0_changes h0_tape h0_bodies x2 s0__hasImage s0__hasCauses s0__stepsDone s0_filter__all s0_filter__v s0_filter__loss s0_filter__result s0_filter__over s0_filter__heldAll s0_filter__heldRounded s0_filter_numbers s0_filter_words s0_causes r19 o20 o21 o22 o23 o24 o25 o26 o27 o28 o29 o30 hq s.heap.size) (cwV 1 hts gX8_perform_X8_step rfl rfl rfl (by decide +kernel) ⟨Nat.le_of_ble_eq_true rfl, Nat.le_of_ble_eq_true rfl⟩) (pre_V (ci := 8) (q0 := 0) (is := [0, 1, 2, 3, 8]) rfl rfl hP hD hS hA hK hZ (by decide +kernel) (by rfl)) rfl rfl hl.1 rfl (by exact lv_room (Nat.le_of_ble_eq_true rfl)) dX8_perform_8 ⟨Nat.le_refl _, Nat.le_refl _⟩) hP hD hS hA (by decide +kernel) (by rfl) (by rfl) rfl (fun H locs hP hD hS => ?_)
  have hP : va_P G vwCl (wm_X8_perform cA h0 h0_filter h0_filter_numbers h0_filter_words h0_changes h0_changes_slots h0_changes_olds h0_changes_news h0_causes h0_trial h0_kept h0_ways h0_spread h0_course h0_rows h0_tape h0_bodies s0__hasImage o20 o21 o22 o23 o24 o25 o26 o27 o28 s0_filter_numbers o29 s0_changes__done s0_changes__undone s0_changes_slots s0_changes_olds s0_changes_news o30) H := hP
  have hD : va_D A (wm_X8_perform cA h0 h0_filter h0_filter_numbers h0_filter_words h0_changes h0_changes_slots h0_changes_olds h0_changes_news h0_causes h0_trial h0_kept h0_ways h0_spread h0_course h0_rows h0_tape h0_bodies s0__hasImage o20 o21 o22 o23 o24 o25 o26 o27 o28 s0_filter_numbers o29 s0_changes__done s0_changes__undone s0_changes_slots s0_changes_olds s0_changes_news o30) := hD
  obtain ⟨e, hok⟩ := g_pr hok
  try subst e
  obtain ⟨e, hok⟩ := g_pr hok
  try subst e
  obtain ⟨e, hok⟩ := g_pr hok
  try subst e
  obtain ⟨e, hok⟩ := g_pr hok
  try subst e
  obtain ⟨e, hok⟩ := g_pr hok
  try subst e
  obtain ⟨e, hok⟩ := g_pr hok
  try subst e
  obtain ⟨e, hok⟩ := g_pr hok
  try subst e
  obtain ⟨e, hok⟩ := g_pr hok
  try subst e
  obtain ⟨e, hok⟩ := g_pr hok
  try subst e
  obtain ⟨e, hok⟩ := g_pr hok
  try subst e
  obtain ⟨e, hok⟩ := g_pr hok
  try subst e
  obtain ⟨e, hok⟩ := g_pr hok
  try subst e
  obtain ⟨e, hok⟩ := g_pr hok
  try subst e
  obtain ⟨e, hok⟩ := g_pr hok
  try subst e
  obtain ⟨e, hok⟩ := g_pr hok
  try subst e
  obtain ⟨e, hok⟩ := g_pr hok
  try subst e
  obtain ⟨e, hok⟩ := g_pr hok
  try subst e
  cases hok
  exact cr_i hx hb hr hlocks hQ dX8_perform_11 hP hS
set_option maxHeartbeats 40000000 in
set_option maxRecDepth 100000 in
theorem c_X8_read (l : Launch) (G : va_G) (cA : Nat → ClassId) (ts : Nat → Nat) (h0 : Nat) (h0_filter : Nat) (h0_filter_numbers : Nat) (h0_filter_words : Nat) (h0_changes : Nat) (h0_changes_slots : Nat) (h0_changes_olds : Nat) (h0_changes_news : Nat) (h0_tape : Nat) (h0_tape_bytes : Nat) (h0_tape_letters : Nat) (h0_tape_firsts : Nat) (h0_tape_seconds : Nat) (h0_causes : Nat) (h0_trial : Nat) (h0_kept : Nat) (h0_ways : Nat) (h0_spread : Nat) (h0_course : Nat) (h0_rows : Nat) (h0_bodies : Nat) (s0__hasImage : Int32) (s0__hasCauses : Int32) (s0__stepsDone : Int32) (s0_filter__all : Int32) (s0_filter__v : Int32) (s0_filter__loss : Int32) (s0_filter__result : Int32) (s0_filter__over : Int32) (s0_filter__heldAll : Int32) (s0_filter__heldRounded : Int32) (s0_filter_numbers : Nat → Int32) (s0_filter_words : Nat → Int32) (s0_changes__done : Int32) (s0_changes__undone : Int32) (s0_changes_slots : Nat → Int32) (s0_changes_olds : Nat → Int32) (s0_changes_news : Nat → Int32) (s0_tape__size : Int32) (s0_tape__acts : Int32) (s0_tape__state : Int32) (s0_tape__numbersLeft : Int32) (s0_tape__inSecond : Int32) (s0_tape__isBelow : Int32) (s0_tape_bytes : Nat → Int32) (s0_tape_letters : Nat → Int32) (s0_tape_firsts : Nat → Int32) (s0_tape_seconds : Nat → Int32) (s0_causes : Nat → Int32) (r : Int32) (o0__hasCauses : Int32) (o0__stepsDone : Int32) (o0_filter__all : Int32) (o0_filter__v : Int32) (o0_filter__loss : Int32) (o0_filter__result : Int32) (o0_filter__over : Int32) (o0_filter__heldAll : Int32) (o0_filter__heldRounded : Int32) (o0_filter_numbers : Nat → Int32) (o0_filter_words : Nat → Int32) (o0_changes__done : Int32) (o0_changes__undone : Int32) (o0_changes_slots : Nat → Int32) (o0_changes_olds : Nat → Int32) (o0_changes_news : Nat → Int32) (o0_tape__size : Int32) (o0_tape__acts : Int32) (o0_tape__state : Int32) (o0_tape__numbersLeft : Int32) (o0_tape__inSecond : Int32) (o0_tape__isBelow : Int32) (o0_tape_letters : Nat → Int32) (o0_tape_firsts : Nat → Int32) (o0_tape_seconds : Nat → Int32) (o0_causes : Nat → Int32) (hok : fX8_read s0__hasCauses s0__stepsDone s0_filter__all s0_filter__v s0_filter__loss s0_filter__result s0_filter__over s0_filter__heldAll s0_filter__heldRounded s0_filter_numbers s0_filter_words s0_changes__done s0_changes__undone s0_changes_slots s0_changes_olds s0_changes_news s0_tape__size s0_tape__acts s0_tape__state s0_tape__numbersLeft s0_tape__inSecond s0_tape__isBelow s0_tape_bytes s0_tape_letters s0_tape_firsts s0_tape_seconds s0_causes = some (r, o0__hasCauses, o0__stepsDone, o0_filter__all, o0_filter__v, o0_filter__loss, o0_filter__result, o0_filter__over, o0_filter__heldAll, o0_filter__heldRounded, o0_filter_numbers, o0_filter_words, o0_changes__done, o0_changes__undone, o0_changes_slots, o0_changes_olds, o0_changes_news, o0_tape__size, o0_tape__acts, o0_tape__state, o0_tape__numbersLeft, o0_tape__inSecond, o0_tape__isBelow, o0_tape_letters, o0_tape_firsts, o0_tape_seconds, o0_causes)) : Ct l G cA ts yX8_read wsX8_read 8 210 [.ref h0] (wm_X8_read cA h0 h0_filter h0_filter_numbers h0_filter_words h0_changes h0_changes_slots h0_changes_olds h0_changes_news h0_tape h0_tape_bytes h0_tape_letters h0_tape_firsts h0_tape_seconds h0_causes h0_trial h0_kept h0_ways h0_spread h0_course h0_rows h0_bodies s0__hasImage s0__hasCauses s0__stepsDone s0_filter__all s0_filter__v s0_filter__loss s0_filter__result s0_filter__over s0_filter__heldAll s0_filter__heldRounded s0_filter_numbers s0_filter_words s0_changes__done s0_changes__undone s0_changes_slots s0_changes_olds s0_changes_news s0_tape__size s0_tape__acts s0_tape__state s0_tape__numbersLeft s0_tape__inSecond s0_tape__isBelow s0_tape_bytes s0_tape_letters s0_tape_firsts s0_tape_seconds s0_causes) (wm_X8_read cA h0 h0_filter h0_filter_numbers h0_filter_words h0_changes h0_changes_slots h0_changes_olds h0_changes_news h0_tape h0_tape_bytes h0_tape_letters h0_tape_firsts h0_tape_seconds h0_causes h0_trial h0_kept h0_ways h0_spread h0_course h0_rows h0_bodies s0__hasImage o0__hasCauses o0__stepsDone o0_filter__all o0_filter__v o0_filter__loss o0_filter__result o0_filter__over o0_filter__heldAll o0_filter__heldRounded o0_filter_numbers o0_filter_words o0_changes__done o0_changes__undone o0_changes_slots o0_changes_olds o0_changes_news o0_tape__size o0_tape__acts o0_tape__state o0_tape__numbersLeft o0_tape__inSecond o0_tape__isBelow s0_tape_bytes o0_tape_letters o0_tape_firsts o0_tape_seconds o0_causes) (some (.int r)) := by
  refine Ct.intro (cc := cX8_read) (maxL := 3) (ret := some .int) (by decide +kernel) rfl (Nat.le_of_ble_eq_true rfl) ?_
  intro p e s m ar below meth c A Q hx hb hr hml hown hlocks hts hK hZ hA hQ hP hD hS ls hl
  have hown : s.vm.findClass RX8 = some m.cls := hown
  have hinX6 : ∀ w ∈ wsX60, w ∈ wsX8_read := fun _ h => List.mem_cons_of_mem _ (List.mem_append_left _ (List.mem_append_left _ (List.mem_append_right _ (h))))
  have hinX8 : ∀ w ∈ wsX80, w ∈ wsX8_read := fun _ h => List.mem_cons_of_mem _ (List.mem_append_left _ (List.mem_append_left _ (List.mem_append_left _ (List.mem_append_right _ (h)))))
  have hl : lv_has ls 3 [(0, .ref h0)] := hl
  have hP : va_P G vwCl (wm_X8_read cA h0 h0_filter h0_filter_numbers h0_filter_words h0_changes h0_changes_slots h0_changes_olds h0_changes_news h0_tape h0_tape_bytes h0_tape_letters h0_tape_firsts h0_tape_seconds h0_causes h0_trial h0_kept h0_ways h0_spread h0_course h0_rows h0_bodies s0__hasImage s0__hasCauses s0__stepsDone s0_filter__all s0_filter__v s0_filter__loss s0_filter__result s0_filter__over s0_filter__heldAll s0_filter__heldRounded s0_filter_numbers s0_filter_words s0_changes__done s0_changes__undone s0_changes_slots s0_changes_olds s0_changes_news s0_tape__size s0_tape__acts s0_tape__state s0_tape__numbersLeft s0_tape__inSecond s0_tape__isBelow s0_tape_bytes s0_tape_letters s0_tape_firsts s0_tape_seconds s0_causes) s.heap := hP
  have hD : va_D A (wm_X8_read cA h0 h0_filter h0_filter_numbers h0_filter_words h0_changes h0_changes_slots h0_changes_olds h0_changes_news h0_tape h0_tape_bytes h0_tape_letters h0_tape_firsts h0_tape_seconds h0_causes h0_trial h0_kept h0_ways h0_spread h0_course h0_rows h0_bodies s0__hasImage s0__hasCauses s0__stepsDone s0_filter__all s0_filter__v s0_filter__loss s0_filter__result s0_filter__over s0_filter__heldAll s0_filter__heldRounded s0_filter_numbers s0_filter_words s0_changes__done s0_changes__undone s0_changes_slots s0_changes_olds s0_changes_news s0_tape__size s0_tape__acts s0_tape__state s0_tape__numbersLeft s0_tape__inSecond s0_tape__isBelow s0_tape_bytes s0_tape_letters s0_tape_firsts s0_tape_seconds s0_causes) := hD
  have L_27 : ∀ (n : Nat) (y2 : Int32) (c0__hasCauses : Int32) (c0__stepsDone : Int32) (c0_filter__all : Int32) (c0_filter__v : Int32) (c0_filter__loss : Int32) (c0_filter__result : Int32) (c0_filter__over : Int32) (c0_filter__heldAll : Int32) (c0_filter__heldRounded : Int32) (c0_filter_numbers : Nat → Int32) (c0_filter_words : Nat → Int32) (c0_changes__done : Int32) (c0_changes__undone : Int32) (c0_changes_slots : Nat → Int32) (c0_changes_olds : Nat → Int32) (c0_changes_news : Nat → Int32) (c0_tape__size : Int32) (c0_tape__acts : Int32) (c0_tape__state : Int32) (c0_tape__numbersLeft : Int32) (c0_tape__inSecond : Int32) (c0_tape__isBelow : Int32) (c0_tape_letters : Nat → Int32) (c0_tape_firsts : Nat → Int32) (c0_tape_seconds : Nat → Int32) (c0_causes : Nat → Int32) (oE : ((Int32) × (Int32) × (Int32) × (Int32) × (Int32) × (Int32) × (Int32) × (Int32) × (Int32) × (Int32) × (Nat → Int32) × (Nat → Int32) × (Int32) × (Int32) × (Nat → Int32) × (Nat → Int32) × (Nat → Int32) × (Nat → Int32)) ⊕ ((Int32) × (Int32) × (Int32) × (Int32) × (Int32) × (Int32) × (Int32) × (Int32) × (Int32) × (Nat → Int32) × (Nat → Int32) × (Int32) × (Int32) × (Nat → Int32) × (Nat → Int32) × (Nat → Int32) × (Nat → Int32))) (H : Heap) (locs : List Loc) (ls : Array Slot), va_P G vwCl (wm_X8_read cA h0 h0_filter h0_filter_numbers h0_filter_words h0_changes h0_changes_slots h0_changes_olds h0_changes_news h0_tape h0_tape_bytes h0_tape_letters h0_tape_firsts h0_tape_seconds h0_causes h0_trial h0_kept h0_ways h0_spread h0_course h0_rows h0_bodies s0__hasImage c0__hasCauses c0__stepsDone c0_filter__all c0_filter__v c0_filter__loss c0_filter__result c0_filter__over c0_filter__heldAll c0_filter__heldRounded c0_filter_numbers c0_filter_words c0_changes__done c0_changes__undone c0_changes_slots c0_changes_olds c0_changes_news c0_tape__size c0_tape__acts c0_tape__state c0_tape__numbersLeft c0_tape__inSecond c0_tape__isBelow s0_tape_bytes c0_tape_letters c0_tape_firsts c0_tape_seconds c0_causes) H → va_D A (wm_X8_read cA h0 h0_filter h0_filter_numbers h0_filter_words h0_changes h0_changes_slots h0_changes_olds h0_changes_news h0_tape h0_tape_bytes h0_tape_letters h0_tape_firsts h0_tape_seconds h0_causes h0_trial h0_kept h0_ways h0_spread h0_course h0_rows h0_bodies s0__hasImage c0__hasCauses c0__stepsDone c0_filter__all c0_filter__v c0_filter__loss c0_filter__result c0_filter__over c0_filter__heldAll c0_filter__heldRounded c0_filter_numbers c0_filter_words c0_changes__done c0_changes__undone c0_changes_slots c0_changes_olds c0_changes_news c0_tape__size c0_tape__acts c0_tape__state c0_tape__numbersLeft c0_tape__inSecond c0_tape__isBelow s0_tape_bytes c0_tape_letters c0_tape_firsts c0_tape_seconds c0_causes) → va_S A s.heap H locs → lv_has ls 3 [(0, .ref h0), (2, .int y2)] → fX8_read_L27 s0_tape_bytes n y2 c0__hasCauses c0__stepsDone c0_filter__all c0_filter__v c0_filter__loss c0_filter__result c0_filter__over c0_filter__heldAll c0_filter__heldRounded c0_filter_numbers c0_filter_words c0_changes__done c0_changes__undone c0_changes_slots c0_changes_olds c0_changes_news c0_tape__size c0_tape__acts c0_tape__state c0_tape__numbersLeft c0_tape__inSecond c0_tape__isBelow c0_tape_letters c0_tape_firsts c0_tape_seconds c0_causes = some oE → (∀ (p0_0 : Int32) (p0_1 : Int32) (p0_2 : Int32) (p0_3 : Int32) (p0_4 : Int32) (p0_5 : Int32) (p0_6 : Int32) (p0_7 : Int32) (p0_8 : Int32) (p0_9 : Int32) (p0_10 : Nat → Int32) (p0_11 : Nat → Int32) (p0_12 : Int32) (p0_13 : Int32) (p0_14 : Nat → Int32) (p0_15 : Nat → Int32) (p0_16 : Nat → Int32) (p0_17 : Nat → Int32), oE = .inl (p0_0, p0_1, p0_2, p0_3, p0_4, p0_5, p0_6, p0_7, p0_8, p0_9, p0_10, p0_11, p0_12, p0_13, p0_14, p0_15, p0_16, p0_17) → ∀ (H : Heap) (locs : List Loc) (ls : Array Slot), va_P G vwCl (wm_X8_read cA h0 h0_filter h0_filter_numbers h0_filter_words h0_changes h0_changes_slots h0_changes_olds h0_changes_news h0_tape h0_tape_bytes h0_tape_letters h0_tape_firsts h0_tape_seconds h0_causes h0_trial h0_kept h0_ways h0_spread h0_course h0_rows h0_bodies s0__hasImage p0_1 p0_2 p0_3 p0_4 p0_5 p0_6 p0_7 p0_8 p0_9 p0_10 p0_11 p0_12 p0_13 p0_14 p0_15 p0_16 c0_tape__size c0_tape__acts c0_tape__state c0_tape__numbersLeft c0_tape__inSecond c0_tape__isBelow s0_tape_bytes c0_tape_letters c0_tape_firsts c0_tape_seconds p0_17) H → va_D A (wm_X8_read cA h0 h0_filter h0_filter_numbers h0_filter_words h0_changes h0_changes_slots h0_changes_olds h0_changes_news h0_tape h0_tape_bytes h0_tape_letters h0_tape_firsts h0_tape_seconds h0_causes h0_trial h0_kept h0_ways h0_spread h0_course h0_rows h0_bodies s0__hasImage p0_1 p0_2 p0_3 p0_4 p0_5 p0_6 p0_7 p0_8 p0_9 p0_10 p0_11 p0_12 p0_13 p0_14 p0_15 p0_16 c0_tape__size c0_tape__acts c0_tape__state c0_tape__numbersLeft c0_tape__inSecond c0_tape__isBelow s0_tape_bytes c0_tape_letters c0_tape_firsts c0_tape_seconds p0_17) → va_S A s.heap H locs → lv_has ls 3 [(2, .int p0_0)] → W p l e (rmX 8 210) s m ar below meth c H locs 0 0 Q (F0 m 81 ls [])) → (∀ (p1_0 : Int32) (p1_1 : Int32) (p1_2 : Int32) (p1_3 : Int32) (p1_4 : Int32) (p1_5 : Int32) (p1_6 : Int32) (p1_7 : Int32) (p1_8 : Int32) (p1_9 : Nat → Int32) (p1_10 : Nat → Int32) (p1_11 : Int32) (p1_12 : Int32) (p1_13 : Nat → Int32) (p1_14 : Nat → Int32) (p1_15 : Nat → Int32) (p1_16 : Nat → Int32), oE = .inr ((p1_0, p1_1, p1_2, p1_3, p1_4, p1_5, p1_6, p1_7, p1_8, p1_9, p1_10, p1_11, p1_12, p1_13, p1_14, p1_15, p1_16)) → ∀ (H : Heap) (locs : List Loc) (ls : Array Slot), va_P G vwCl (wm_X8_read cA h0 h0_filter h0_filter_numbers h0_filter_words h0_changes h0_changes_slots h0_changes_olds h0_changes_news h0_tape h0_tape_bytes h0_tape_letters h0_tape_firsts h0_tape_seconds h0_causes h0_trial h0_kept h0_ways h0_spread h0_course h0_rows h0_bodies s0__hasImage p1_0 p1_1 p1_2 p1_3 p1_4 p1_5 p1_6 p1_7 p1_8 p1_9 p1_10 p1_11 p1_12 p1_13 p1_14 p1_15 c0_tape__size c0_tape__acts c0_tape__state c0_tape__numbersLeft c0_tape__inSecond c0_tape__isBelow s0_tape_bytes c0_tape_letters c0_tape_firsts c0_tape_seconds p1_16) H → va_D A (wm_X8_read cA h0 h0_filter h0_filter_numbers h0_filter_words h0_changes h0_changes_slots h0_changes_olds h0_changes_news h0_tape h0_tape_bytes h0_tape_letters h0_tape_firsts h0_tape_seconds h0_causes h0_trial h0_kept h0_ways h0_spread h0_course h0_rows h0_bodies s0__hasImage p1_0 p1_1 p1_2 p1_3 p1_4 p1_5 p1_6 p1_7 p1_8 p1_9 p1_10 p1_11 p1_12 p1_13 p1_14 p1_15 c0_tape__size c0_tape__acts c0_tape__state c0_tape__numbersLeft c0_tape__inSecond c0_tape__isBelow s0_tape_bytes c0_tape_letters c0_tape_firsts c0_tape_seconds p1_16) → va_S A s.heap H locs → lv_has ls 3 [(0, .ref h0)] → W p l e (rmX 8 210) s m ar below meth c H locs 0 0 Q (F0 m 93 ls [])) → W p l e (rmX 8 210) s m ar below meth c H locs 0 0 Q (F0 m 27 ls []) := by
    intro n
    induction n with
    | zero =>
      intro y2 c0__hasCauses c0__stepsDone c0_filter__all c0_filter__v c0_filter__loss c0_filter__result c0_filter__over c0_filter__heldAll c0_filter__heldRounded c0_filter_numbers c0_filter_words c0_changes__done c0_changes__undone c0_changes_slots c0_changes_olds c0_changes_news c0_tape__size c0_tape__acts c0_tape__state c0_tape__numbersLeft c0_tape__inSecond c0_tape__isBelow c0_tape_letters c0_tape_firsts c0_tape_seconds c0_causes oE H locs ls hP hD hS hl hok
      rw [fX8_read_L27] at hok
      cases hok
    | succ n ih =>
      intro y2 c0__hasCauses c0__stepsDone c0_filter__all c0_filter__v c0_filter__loss c0_filter__result c0_filter__over c0_filter__heldAll c0_filter__heldRounded c0_filter_numbers c0_filter_words c0_changes__done c0_changes__undone c0_changes_slots c0_changes_olds c0_changes_news c0_tape__size c0_tape__acts c0_tape__state c0_tape__numbersLeft c0_tape__inSecond c0_tape__isBelow c0_tape_letters c0_tape_firsts c0_tape_seconds c0_causes oE H locs ls hP hD hS hl hok  K0 K1
      rw [fX8_read_L27] at hok
      refine lv_iload_n hx hb dX8_read_27 rfl (lv_at hl 1 rfl) ?_
      refine lv_aload_n hx hb dX8_read_28 rfl (lv_at hl 0 rfl) ?_
      refine va_get (ci := 8) (v := .ref h0_tape) (C := RX8) (T := TX8) (N := 14) hx hb hts hinX8 hown hK hP 0 rfl rfl 9 (by decide) (hts _ (List.mem_of_getElem? (i := 1) rfl)) (fun _ h9 => h9) rfl dX8_read_29 ?_
      refine va_get (ci := 6) (v := .int c0_tape__acts) (C := RX6) (T := TX6) (N := 10) hx hb hts hinX6 hown hK hP 8 rfl rfl 5 (by decide) (hts _ (List.mem_of_getElem? (i := 3) rfl)) (fun _ h9 => h9) rfl dX8_read_32 ?_
      refine lv_icmp_ge (tgt := 93) hx hb dX8_read_35 (by decide) (fun c => ?_) (fun c => ?_)
      · replace hok := g_pos hok c
        cases hok
        exact K1 _ _ _ _ _ _ _ _ _ _ _ _ _ _ _ _ _ rfl _ _ _ hP hD hS (lv_sub hl [0] rfl)
      replace hok := g_neg hok c
      refine lv_iload_n hx hb dX8_read_38 rfl (lv_at hl 1 rfl) ?_
      refine lv_bipush (v := 80) hx hb dX8_read_39 (by decide) ?_
      refine lv_icmp_ge (tgt := 93) hx hb dX8_read_41 (by decide) (fun c => ?_) (fun c => ?_)
      · replace hok := g_pos hok c
        cases hok
        exact K1 _ _ _ _ _ _ _ _ _ _ _ _ _ _ _ _ _ rfl _ _ _ hP hD hS (lv_sub hl [0] rfl)
      replace hok := g_neg hok c
      refine lv_aload_n hx hb dX8_read_44 rfl (lv_at hl 0 rfl) ?_
      refine lv_aload_n hx hb dX8_read_45 rfl (lv_at hl 0 rfl) ?_
      refine va_get (ci := 8) (v := .ref h0_tape) (C := RX8) (T := TX8) (N := 14) hx hb hts hinX8 hown hK hP 0 rfl rfl 9 (by decide) (hts _ (List.mem_of_getElem? (i := 1) rfl)) (fun _ h9 => h9) rfl dX8_read_46 ?_
      refine va_get (ci := 6) (v := .ref h0_tape_letters) (C := RX6) (T := TX6) (N := 10) hx hb hts hinX6 hown hK hP 8 rfl rfl 2 (by decide) (hts _ (List.mem_of_getElem? (i := 4) rfl)) (fun _ h9 => h9) rfl dX8_read_49 ?_
      refine lv_iload_n hx hb dX8_read_52 rfl (lv_at hl 1 rfl) ?_
      obtain ⟨hin, hok⟩ := g_no hok
      refine x_iald (k := y2.toNatClampNeg) hx hb hK hP 10 0 rfl rfl hin rfl dX8_read_53 ?_
      refine lv_aload_n hx hb dX8_read_54 rfl (lv_at hl 0 rfl) ?_
      refine va_get (ci := 8) (v := .ref h0_tape) (C := RX8) (T := TX8) (N := 14) hx hb hts hinX8 hown hK hP 0 rfl rfl 9 (by decide) (hts _ (List.mem_of_getElem? (i := 1) rfl)) (fun _ h9 => h9) rfl dX8_read_55 ?_
      refine va_get (ci := 6) (v := .ref h0_tape_firsts) (C := RX6) (T := TX6) (N := 10) hx hb hts hinX6 hown hK hP 8 rfl rfl 3 (by decide) (hts _ (List.mem_of_getElem? (i := 5) rfl)) (fun _ h9 => h9) rfl dX8_read_58 ?_
      refine lv_iload_n hx hb dX8_read_61 rfl (lv_at hl 1 rfl) ?_
      obtain ⟨hin, hok⟩ := g_no hok
      refine x_iald (k := y2.toNatClampNeg) hx hb hK hP 11 0 rfl rfl hin rfl dX8_read_62 ?_
      refine lv_aload_n hx hb dX8_read_63 rfl (lv_at hl 0 rfl) ?_
      refine va_get (ci := 8) (v := .ref h0_tape) (C := RX8) (T := TX8) (N := 14) hx hb hts hinX8 hown hK hP 0 rfl rfl 9 (by decide) (hts _ (List.mem_of_getElem? (i := 1) rfl)) (fun _ h9 => h9) rfl dX8_read_64 ?_
      refine va_get (ci := 6) (v := .ref h0_tape_seconds) (C := RX6) (T := TX6) (N := 10) hx hb hts hinX6 hown hK hP 8 rfl rfl 4 (by decide) (hts _ (List.mem_of_getElem? (i := 6) rfl)) (fun _ h9 => h9) rfl dX8_read_67 ?_
      refine lv_iload_n hx hb dX8_read_70 rfl (lv_at hl 1 rfl) ?_
      obtain ⟨hin, hok⟩ := g_no hok
      refine x_iald (k := y2.toNatClampNeg) hx hb hK hP 12 0 rfl rfl hin rfl dX8_read_71 ?_
      obtain ⟨r10, o11, o12, o13, o14, o15, o16, o17, o18, o19, o20, o21, o22, o23, o24, o25, o26, o27, hq, hok⟩ := g_bnd18 hok
      refine cG (is := [0, 1, 2, 3, 4, 5, 6, 7, 13]) (wc := (wm_X8_perform cA h0 h0_filter h0_filter_numbers h0_filter_words h0_changes h0_changes_slots h0_changes_olds h0_changes_news h0_causes h0_trial h0_kept h0_ways h0_spread h0_course h0_rows h0_tape h0_bodies s0__hasImage c0__hasCauses c0__stepsDone c0_filter__all c0_filter__v c0_filter__loss c0_filter__result c0_filter__over c0_filter__heldAll c0_filter__heldRounded c0_filter_numbers c0_filter_words c0_changes__done c0_changes__undone c0_changes_slots c0_changes_olds c0_changes_news c0_causes)) (w1 := (wm_X8_perform cA h0 h0_filter h0_filter_numbers h0_filter_words h0_changes h0_changes_slots h0_changes_olds h0_changes_news h0_causes h0_trial h0_kept h0_ways h0_spread h0_course h0_rows h0_tape h0_bodies s0__hasImage o11 o12 o13 o14 o15 o16 o17 o18 o19 o20 o21 o22 o23 o24 o25 o26 o27)) (rv := (some (.int r10))) (st1 := [.int r10]) (va_runV (Ts := wsX8_read) (As := [.int (c0_tape_letters y2.toNatClampNeg), .int (c0_tape_firsts y2.toNatClampNeg), .int (c0_tape_seconds y2.toNatClampNeg)]) (rest := []) ⟨hx, hb, hml, hown, hts⟩ (c_X8_perform l G cA ts h0 h0_filter h0_filter_numbers h0_filter_words h0_changes h0_changes_slots h0_changes_olds h0_changes_news h0_causes h0_trial h0_kept h0_ways h0_spread h0_course h0_rows h0_tape h0_bodies (c0_tape_letters y2.toNatClampNeg) (c0_tape_firsts y2.toNatClampNeg) (c0_tape_seconds y2.toNatClampNeg) s0__hasImage c0__hasCauses c0__stepsDone c0_filter__all c0_filter__v c0_filter__loss c0_filter__result c0_filter__over c0_filter__heldAll c0_filter__heldRounded c0_filter_numbers c0_filter_words c0_changes__done c0_changes__undone c0_changes_slots c0_changes_olds c0_changes_news c0_causes r10 o11 o12 o13 o14 o15 o16 o17 o18 o19 o20 o21 o22 o23 o24 o25 o26 o27 hq H.size) (cwV 3 hts gX8_read_X8_perform rfl rfl rfl (by decide +kernel) ⟨Nat.le_of_ble_eq_true rfl, Nat.le_of_ble_eq_true rfl⟩) (pre_V (ci := 8) (q0 := 0) (is := [0, 1, 2, 3, 4, 5, 6, 7, 13]) rfl rfl hP hD hS hA hK hZ (by decide +kernel) (by rfl)) rfl rfl hl.1 rfl (by exact lv_room (Nat.le_of_ble_eq_true rfl)) dX8_read_72 ⟨Nat.le_refl _, Nat.le_refl _⟩) hP hD hS hA (by decide +kernel) (by rfl) (by rfl) rfl (fun H locs hP hD hS => ?_)
      obtain ⟨hP, hD⟩ : va_P G vwCl (wm_X8_read cA h0 h0_filter h0_filter_numbers h0_filter_words h0_changes h0_changes_slots h0_changes_olds h0_changes_news h0_tape h0_tape_bytes h0_tape_letters h0_tape_firsts h0_tape_seconds h0_causes h0_trial h0_kept h0_ways h0_spread h0_course h0_rows h0_bodies s0__hasImage o11 o12 o13 o14 o15 o16 o17 o18 o19 o20 o21 o22 o23 o24 o25 o26 c0_tape__size c0_tape__acts c0_tape__state c0_tape__numbersLeft c0_tape__inSecond c0_tape__isBelow s0_tape_bytes c0_tape_letters c0_tape_firsts c0_tape_seconds o27) H ∧ va_D A (wm_X8_read cA h0 h0_filter h0_filter_numbers h0_filter_words h0_changes h0_changes_slots h0_changes_olds h0_changes_news h0_tape h0_tape_bytes h0_tape_letters h0_tape_firsts h0_tape_seconds h0_causes h0_trial h0_kept h0_ways h0_spread h0_course h0_rows h0_bodies s0__hasImage o11 o12 o13 o14 o15 o16 o17 o18 o19 o20 o21 o22 o23 o24 o25 o26 c0_tape__size c0_tape__acts c0_tape__state c0_tape__numbersLeft c0_tape__inSecond c0_tape__isBelow s0_tape_bytes c0_tape_letters c0_tape_firsts c0_tape_seconds o27) := PD_eq hP hD (rp_eq (js := [8, 9, 10, 11, 12]) 14 (by decide +kernel) rfl rfl (by rfl) (by rfl) (by decide +kernel))
      refine lv_sipush (v := -1001) hx hb dX8_read_75 (by decide) ?_
      refine lv_icmp_gt (tgt := 87) hx hb dX8_read_78 (by decide) (fun c => ?_) (fun c => ?_)
      · replace hok := g_pos hok c
        refine lv_iinc (v := (y2 + 1)) (lv' := [(2, .int (y2 + 1)), (0, .ref h0)]) hx hb dX8_read_87 hl (k := 1) rfl rfl (by decide) rfl (fun ls hl => ?_)
        refine lv_goto (tgt := 27) hx hb dX8_read_90 (by decide) ?_
        exact ih (y2 + 1) o11 o12 o13 o14 o15 o16 o17 o18 o19 o20 o21 o22 o23 o24 o25 o26 c0_tape__size c0_tape__acts c0_tape__state c0_tape__numbersLeft c0_tape__inSecond c0_tape__isBelow c0_tape_letters c0_tape_firsts c0_tape_seconds o27 oE _ _ _ hP hD hS (lv_sub hl [1, 0] rfl) hok K0 K1
      replace hok := g_neg hok c
      cases hok
      exact K0 _ _ _ _ _ _ _ _ _ _ _ _ _ _ _ _ _ _ rfl _ _ _ hP hD hS (lv_sub hl [1] rfl)
  unfold fX8_read at hok
  refine lv_aload_n hx hb dX8_read_0 rfl (lv_at hl 0 rfl) ?_
  refine va_get (ci := 8) (v := .ref h0_tape) (C := RX8) (T := TX8) (N := 14) hx hb hts hinX8 hown hK hP 0 rfl rfl 9 (by decide) (hts _ (List.mem_of_getElem? (i := 1) rfl)) (fun _ h9 => h9) rfl dX8_read_1 ?_
  obtain ⟨r1, o2, o3, o4, o5, o6, o7, o8, o9, hq, hok⟩ := g_bnd9 hok
  refine cG (is := [8, 9, 10, 11, 12]) (wc := (wm_X6_findFault cA h0_tape h0_tape_bytes h0_tape_letters h0_tape_firsts h0_tape_seconds s0_tape__size s0_tape__acts s0_tape__state s0_tape__numbersLeft s0_tape__inSecond s0_tape__isBelow s0_tape_bytes s0_tape_letters s0_tape_firsts s0_tape_seconds)) (w1 := (wm_X6_findFault cA h0_tape h0_tape_bytes h0_tape_letters h0_tape_firsts h0_tape_seconds s0_tape__size o2 o3 o4 o5 o6 s0_tape_bytes o7 o8 o9)) (rv := (some (.int r1))) (st1 := [.int r1]) (va_runV (Ts := wsX8_read) (As := []) (rest := []) ⟨hx, hb, hml, hown, hts⟩ (c_X6_findFault l G cA ts h0_tape h0_tape_bytes h0_tape_letters h0_tape_firsts h0_tape_seconds s0_tape__size s0_tape__acts s0_tape__state s0_tape__numbersLeft s0_tape__inSecond s0_tape__isBelow s0_tape_bytes s0_tape_letters s0_tape_firsts s0_tape_seconds r1 o2 o3 o4 o5 o6 o7 o8 o9 hq s.heap.size) (cwV 0 hts gX8_read_X6_findFault rfl rfl rfl (by decide +kernel) ⟨Nat.le_of_ble_eq_true rfl, Nat.le_of_ble_eq_true rfl⟩) (pre_V (ci := 6) (q0 := 8) (is := [8, 9, 10, 11, 12]) rfl rfl hP hD hS hA hK hZ (by decide +kernel) (by rfl)) rfl rfl hl.1 rfl (by exact lv_room (Nat.le_of_ble_eq_true rfl)) dX8_read_4 ⟨Nat.le_refl _, Nat.le_refl _⟩) hP hD hS hA (by decide +kernel) (by rfl) (by rfl) rfl (fun H locs hP hD hS => ?_)
  have hP : va_P G vwCl (wm_X8_read cA h0 h0_filter h0_filter_numbers h0_filter_words h0_changes h0_changes_slots h0_changes_olds h0_changes_news h0_tape h0_tape_bytes h0_tape_letters h0_tape_firsts h0_tape_seconds h0_causes h0_trial h0_kept h0_ways h0_spread h0_course h0_rows h0_bodies s0__hasImage s0__hasCauses s0__stepsDone s0_filter__all s0_filter__v s0_filter__loss s0_filter__result s0_filter__over s0_filter__heldAll s0_filter__heldRounded s0_filter_numbers s0_filter_words s0_changes__done s0_changes__undone s0_changes_slots s0_changes_olds s0_changes_news s0_tape__size o2 o3 o4 o5 o6 s0_tape_bytes o7 o8 o9 s0_causes) H := hP
  have hD : va_D A (wm_X8_read cA h0 h0_filter h0_filter_numbers h0_filter_words h0_changes h0_changes_slots h0_changes_olds h0_changes_news h0_tape h0_tape_bytes h0_tape_letters h0_tape_firsts h0_tape_seconds h0_causes h0_trial h0_kept h0_ways h0_spread h0_course h0_rows h0_bodies s0__hasImage s0__hasCauses s0__stepsDone s0_filter__all s0_filter__v s0_filter__loss s0_filter__result s0_filter__over s0_filter__heldAll s0_filter__heldRounded s0_filter_numbers s0_filter_words s0_changes__done s0_changes__undone s0_changes_slots s0_changes_olds s0_changes_news s0_tape__size o2 o3 o4 o5 o6 s0_tape_bytes o7 o8 o9 s0_causes) := hD
  refine lv_istore_n (lv' := [(1, .int r1), (0, .ref h0)]) hx hb dX8_read_7 rfl hl (by decide) rfl (fun ls hl => ?_)
  refine lv_aload_n hx hb dX8_read_8 rfl (lv_at hl 1 rfl) ?_
  refine va_get (ci := 8) (v := .ref h0_tape) (C := RX8) (T := TX8) (N := 14) hx hb hts hinX8 hown hK hP 0 rfl rfl 9 (by decide) (hts _ (List.mem_of_getElem? (i := 1) rfl)) (fun _ h9 => h9) rfl dX8_read_9 ?_
  refine lv_iconst (v := 0) hx hb dX8_read_12 (by decide) ?_
  refine va_put (D := G) (ci := 6) (v := .int (0:Int32)) (ty := .int) (C := RX6) (T := TX6) (N := 10) hx hb hts hinX6 tyX6 tyX6_ok nmX6 hown hK hP hD hS 8 rfl rfl 1 (by decide) (hts _ (List.mem_of_getElem? (i := 2) rfl)) (fun _ h9 => h9) rfl (by decide +kernel) rfl rfl (Nat.le_of_ble_eq_true rfl) dX8_read_13 (fun H locs hP hD hS => ?_)
  have hP : va_P G vwCl (wm_X8_read cA h0 h0_filter h0_filter_numbers h0_filter_words h0_changes h0_changes_slots h0_changes_olds h0_changes_news h0_tape h0_tape_bytes h0_tape_letters h0_tape_firsts h0_tape_seconds h0_causes h0_trial h0_kept h0_ways h0_spread h0_course h0_rows h0_bodies s0__hasImage s0__hasCauses s0__stepsDone s0_filter__all s0_filter__v s0_filter__loss s0_filter__result s0_filter__over s0_filter__heldAll s0_filter__heldRounded s0_filter_numbers s0_filter_words s0_changes__done s0_changes__undone s0_changes_slots s0_changes_olds s0_changes_news (0:Int32) o2 o3 o4 o5 o6 s0_tape_bytes o7 o8 o9 s0_causes) H := hP
  have hD : va_D A (wm_X8_read cA h0 h0_filter h0_filter_numbers h0_filter_words h0_changes h0_changes_slots h0_changes_olds h0_changes_news h0_tape h0_tape_bytes h0_tape_letters h0_tape_firsts h0_tape_seconds h0_causes h0_trial h0_kept h0_ways h0_spread h0_course h0_rows h0_bodies s0__hasImage s0__hasCauses s0__stepsDone s0_filter__all s0_filter__v s0_filter__loss s0_filter__result s0_filter__over s0_filter__heldAll s0_filter__heldRounded s0_filter_numbers s0_filter_words s0_changes__done s0_changes__undone s0_changes_slots s0_changes_olds s0_changes_news (0:Int32) o2 o3 o4 o5 o6 s0_tape_bytes o7 o8 o9 s0_causes) := hD
  refine lv_iload_n hx hb dX8_read_16 rfl (lv_at hl 0 rfl) ?_
  refine lv_if_lt (tgt := 25) hx hb dX8_read_17 (by decide) (fun c => ?_) (fun c => ?_)
  · replace hok := g_pos hok c
    refine lv_iconst (v := 0) hx hb dX8_read_25 (by decide) ?_
    refine lv_istore_n (lv' := [(2, .int (0:Int32)), (1, .int r1), (0, .ref h0)]) hx hb dX8_read_26 rfl hl (by decide) rfl (fun ls hl => ?_)
    obtain ⟨o28, hq, hok⟩ := g_bnd1 hok
    refine L_27 FUEL (0:Int32) s0__hasCauses s0__stepsDone s0_filter__all s0_filter__v s0_filter__loss s0_filter__result s0_filter__over s0_filter__heldAll s0_filter__heldRounded s0_filter_numbers s0_filter_words s0_changes__done s0_changes__undone s0_changes_slots s0_changes_olds s0_changes_news (0:Int32) o2 o3 o4 o5 o6 o7 o8 o9 s0_causes o28 _ _ _ hP hD hS (lv_sub hl [2, 0] rfl) hq (fun p0_0 p0_1 p0_2 p0_3 p0_4 p0_5 p0_6 p0_7 p0_8 p0_9 p0_10 p0_11 p0_12 p0_13 p0_14 p0_15 p0_16 p0_17 ho H locs ls hP hD hS hl => ?_) (fun p1_0 p1_1 p1_2 p1_3 p1_4 p1_5 p1_6 p1_7 p1_8 p1_9 p1_10 p1_11 p1_12 p1_13 p1_14 p1_15 p1_16 ho H locs ls hP hD hS hl => ?_)
    · subst ho
      replace hok := g_inl hok
      replace hok := g_c18 hok
      refine lv_sipush (v := -200) hx hb dX8_read_81 (by decide) ?_
      refine lv_iload_n hx hb dX8_read_84 rfl (lv_at hl 0 rfl) ?_
      refine lv_isub hx hb dX8_read_85 ?_
      obtain ⟨e, hok⟩ := g_pr hok
      try subst e
      obtain ⟨e, hok⟩ := g_pr hok
      try subst e
      obtain ⟨e, hok⟩ := g_pr hok
      try subst e
      obtain ⟨e, hok⟩ := g_pr hok
      try subst e
      obtain ⟨e, hok⟩ := g_pr hok
      try subst e
      obtain ⟨e, hok⟩ := g_pr hok
      try subst e
      obtain ⟨e, hok⟩ := g_pr hok
      try subst e
      obtain ⟨e, hok⟩ := g_pr hok
      try subst e
      obtain ⟨e, hok⟩ := g_pr hok
      try subst e
      obtain ⟨e, hok⟩ := g_pr hok
      try subst e
      obtain ⟨e, hok⟩ := g_pr hok
      try subst e
      obtain ⟨e, hok⟩ := g_pr hok
      try subst e
      obtain ⟨e, hok⟩ := g_pr hok
      try subst e
      obtain ⟨e, hok⟩ := g_pr hok
      try subst e
      obtain ⟨e, hok⟩ := g_pr hok
      try subst e
      obtain ⟨e, hok⟩ := g_pr hok
      try subst e
      obtain ⟨e, hok⟩ := g_pr hok
      try subst e
      obtain ⟨e, hok⟩ := g_pr hok
      try subst e
      obtain ⟨e, hok⟩ := g_pr hok
      try subst e
      obtain ⟨e, hok⟩ := g_pr hok
      try subst e
      obtain ⟨e, hok⟩ := g_pr hok
      try subst e
      obtain ⟨e, hok⟩ := g_pr hok
      try subst e
      obtain ⟨e, hok⟩ := g_pr hok
      try subst e
      obtain ⟨e, hok⟩ := g_pr hok
      try subst e
      obtain ⟨e, hok⟩ := g_pr hok
      try subst e
      obtain ⟨e, hok⟩ := g_pr hok
      try subst e
      cases hok
      exact cr_i hx hb hr hlocks hQ dX8_read_86 hP hS
    subst ho
    replace hok := g_inr hok
    replace hok := g_c17 hok
    refine lv_aload_n hx hb dX8_read_93 rfl (lv_at hl 0 rfl) ?_
    refine va_get (ci := 8) (v := .ref h0_tape) (C := RX8) (T := TX8) (N := 14) hx hb hts hinX8 hown hK hP 0 rfl rfl 9 (by decide) (hts _ (List.mem_of_getElem? (i := 1) rfl)) (fun _ h9 => h9) rfl dX8_read_94 ?_
    refine va_get (ci := 6) (v := .int o2) (C := RX6) (T := TX6) (N := 10) hx hb hts hinX6 hown hK hP 8 rfl rfl 5 (by decide) (hts _ (List.mem_of_getElem? (i := 3) rfl)) (fun _ h9 => h9) rfl dX8_read_97 ?_
    obtain ⟨e, hok⟩ := g_pr hok
    try subst e
    obtain ⟨e, hok⟩ := g_pr hok
    try subst e
    obtain ⟨e, hok⟩ := g_pr hok
    try subst e
    obtain ⟨e, hok⟩ := g_pr hok
    try subst e
    obtain ⟨e, hok⟩ := g_pr hok
    try subst e
    obtain ⟨e, hok⟩ := g_pr hok
    try subst e
    obtain ⟨e, hok⟩ := g_pr hok
    try subst e
    obtain ⟨e, hok⟩ := g_pr hok
    try subst e
    obtain ⟨e, hok⟩ := g_pr hok
    try subst e
    obtain ⟨e, hok⟩ := g_pr hok
    try subst e
    obtain ⟨e, hok⟩ := g_pr hok
    try subst e
    obtain ⟨e, hok⟩ := g_pr hok
    try subst e
    obtain ⟨e, hok⟩ := g_pr hok
    try subst e
    obtain ⟨e, hok⟩ := g_pr hok
    try subst e
    obtain ⟨e, hok⟩ := g_pr hok
    try subst e
    obtain ⟨e, hok⟩ := g_pr hok
    try subst e
    obtain ⟨e, hok⟩ := g_pr hok
    try subst e
    obtain ⟨e, hok⟩ := g_pr hok
    try subst e
    obtain ⟨e, hok⟩ := g_pr hok
    try subst e
    obtain ⟨e, hok⟩ := g_pr hok
    try subst e
    obtain ⟨e, hok⟩ := g_pr hok
    try subst e
    obtain ⟨e, hok⟩ := g_pr hok
    try subst e
    obtain ⟨e, hok⟩ := g_pr hok
    try subst e
    obtain ⟨e, hok⟩ := g_pr hok
    try subst e
    obtain ⟨e, hok⟩ := g_pr hok
    try subst e
    obtain ⟨e, hok⟩ := g_pr hok
    try subst e
    cases hok
    exact cr_i hx hb hr hlocks hQ dX8_read_100 hP hS
  replace hok := g_neg hok c
  refine lv_bipush (v := -100) hx hb dX8_read_20 (by decide) ?_
  refine lv_iload_n hx hb dX8_read_22 rfl (lv_at hl 0 rfl) ?_
  refine lv_isub hx hb dX8_read_23 ?_
  obtain ⟨e, hok⟩ := g_pr hok
  try subst e
  obtain ⟨e, hok⟩ := g_pr hok
  try subst e
  obtain ⟨e, hok⟩ := g_pr hok
  try subst e
  obtain ⟨e, hok⟩ := g_pr hok
  try subst e
  obtain ⟨e, hok⟩ := g_pr hok
  try subst e
  obtain ⟨e, hok⟩ := g_pr hok
  try subst e
  obtain ⟨e, hok⟩ := g_pr hok
  try subst e
  obtain ⟨e, hok⟩ := g_pr hok
  try subst e
  obtain ⟨e, hok⟩ := g_pr hok
  try subst e
  obtain ⟨e, hok⟩ := g_pr hok
  try subst e
  obtain ⟨e, hok⟩ := g_pr hok
  try subst e
  obtain ⟨e, hok⟩ := g_pr hok
  try subst e
  obtain ⟨e, hok⟩ := g_pr hok
  try subst e
  obtain ⟨e, hok⟩ := g_pr hok
  try subst e
  obtain ⟨e, hok⟩ := g_pr hok
  try subst e
  obtain ⟨e, hok⟩ := g_pr hok
  try subst e
  obtain ⟨e, hok⟩ := g_pr hok
  try subst e
  obtain ⟨e, hok⟩ := g_pr hok
  try subst e
  obtain ⟨e, hok⟩ := g_pr hok
  try subst e
  obtain ⟨e, hok⟩ := g_pr hok
  try subst e
  obtain ⟨e, hok⟩ := g_pr hok
  try subst e
  obtain ⟨e, hok⟩ := g_pr hok
  try subst e
  obtain ⟨e, hok⟩ := g_pr hok
  try subst e
  obtain ⟨e, hok⟩ := g_pr hok
  try subst e
  obtain ⟨e, hok⟩ := g_pr hok
  try subst e
  obtain ⟨e, hok⟩ := g_pr hok
  try subst e
  cases hok
  exact cr_i hx hb hr hlocks hQ dX8_read_24 hP hS
set_option maxHeartbeats 40000000 in
set_option maxRecDepth 100000 in
theorem c_X8_row (l : Launch) (G : va_G) (cA : Nat → ClassId) (ts : Nat → Nat) (h0 : Nat) (h0_rows : Nat) (h0_rows_e : Nat → Nat) (h0_rows_e_places : Nat → Nat) (h0_filter : Nat) (h0_trial : Nat) (h0_kept : Nat) (h0_ways : Nat) (h0_spread : Nat) (h0_course : Nat) (h0_changes : Nat) (h0_tape : Nat) (h0_bodies : Nat) (h0_causes : Nat) (x1 : Int32) (x2 : Int32) (x3 : Int32) (s0__hasImage : Int32) (s0__hasCauses : Int32) (s0__stepsDone : Int32) (s0_rows_e__sort : Nat → Int32) (s0_rows_e__size : Nat → Int32) (s0_rows_e_places : Nat → Nat → Int64) (r : Int32) (o0_rows_e__sort : Nat → Int32) (o0_rows_e__size : Nat → Int32) (o0_rows_e_places : Nat → Nat → Int64) (hok : fX8_row x1 x2 x3 s0_rows_e__sort s0_rows_e__size s0_rows_e_places = some (r, o0_rows_e__sort, o0_rows_e__size, o0_rows_e_places)) : Ct l G cA ts yX8_row wsX8_row 2 103 [.ref h0, .int x1, .int x2, .int x3] (wm_X8_row cA h0 h0_rows h0_rows_e h0_rows_e_places h0_filter h0_trial h0_kept h0_ways h0_spread h0_course h0_changes h0_tape h0_bodies h0_causes s0__hasImage s0__hasCauses s0__stepsDone s0_rows_e__sort s0_rows_e__size s0_rows_e_places) (wm_X8_row cA h0 h0_rows h0_rows_e h0_rows_e_places h0_filter h0_trial h0_kept h0_ways h0_spread h0_course h0_changes h0_tape h0_bodies h0_causes s0__hasImage s0__hasCauses s0__stepsDone o0_rows_e__sort o0_rows_e__size o0_rows_e_places) (some (.int r)) := by
  refine Ct.intro (cc := cX8_row) (maxL := 4) (ret := some .int) (by decide +kernel) rfl (Nat.le_of_ble_eq_true rfl) ?_
  intro p e s m ar below meth c A Q hx hb hr hml hown hlocks hts hK hZ hA hQ hP hD hS ls hl
  have hown : s.vm.findClass RX8 = some m.cls := hown
  have hinX8 : ∀ w ∈ wsX80, w ∈ wsX8_row := fun _ h => List.mem_cons_of_mem _ (List.mem_append_left _ (List.mem_append_right _ (h)))
  have hl : lv_has ls 4 [(0, .ref h0), (1, .int x1), (2, .int x2), (3, .int x3)] := hl
  have hP : va_P G vwCl (wm_X8_row cA h0 h0_rows h0_rows_e h0_rows_e_places h0_filter h0_trial h0_kept h0_ways h0_spread h0_course h0_changes h0_tape h0_bodies h0_causes s0__hasImage s0__hasCauses s0__stepsDone s0_rows_e__sort s0_rows_e__size s0_rows_e_places) s.heap := hP
  have hD : va_D A (wm_X8_row cA h0 h0_rows h0_rows_e h0_rows_e_places h0_filter h0_trial h0_kept h0_ways h0_spread h0_course h0_changes h0_tape h0_bodies h0_causes s0__hasImage s0__hasCauses s0__stepsDone s0_rows_e__sort s0_rows_e__size s0_rows_e_places) := hD
  have J_42 : ∀ (c0_rows_e__sort : Nat → Int32) (c0_rows_e__size : Nat → Int32) (c0_rows_e_places : Nat → Nat → Int64) (H : Heap) (locs : List Loc) (ls : Array Slot), va_P G vwCl (wm_X8_row cA h0 h0_rows h0_rows_e h0_rows_e_places h0_filter h0_trial h0_kept h0_ways h0_spread h0_course h0_changes h0_tape h0_bodies h0_causes s0__hasImage s0__hasCauses s0__stepsDone c0_rows_e__sort c0_rows_e__size c0_rows_e_places) H → va_D A (wm_X8_row cA h0 h0_rows h0_rows_e h0_rows_e_places h0_filter h0_trial h0_kept h0_ways h0_spread h0_course h0_changes h0_tape h0_bodies h0_causes s0__hasImage s0__hasCauses s0__stepsDone c0_rows_e__sort c0_rows_e__size c0_rows_e_places) → va_S A s.heap H locs → lv_has ls 4 [(0, .ref h0), (1, .int x1), (2, .int x2), (3, .int x3)] → fX8_row_j42 x1 x2 x3 c0_rows_e__sort c0_rows_e__size c0_rows_e_places = some (r, o0_rows_e__sort, o0_rows_e__size, o0_rows_e_places) → W p l e (rmX 2 103) s m ar below meth c H locs 0 0 Q (F0 m 42 ls []) := by
    intro c0_rows_e__sort c0_rows_e__size c0_rows_e_places H locs ls hP hD hS hl hok
    unfold fX8_row_j42 at hok
    refine lv_aload_n hx hb dX8_row_42 rfl (lv_at hl 0 rfl) ?_
    refine va_get (ci := 8) (v := .ref h0_rows) (C := RX8) (T := TX8) (N := 14) hx hb hts hinX8 hown hK hP 0 rfl rfl 7 (by decide) (hts _ (List.mem_of_getElem? (i := 1) rfl)) (fun _ h9 => h9) rfl dX8_row_43 ?_
    refine lv_iload_n hx hb dX8_row_46 rfl (lv_at hl 1 rfl) ?_
    obtain ⟨hin2, hok⟩ := g_no hok
    refine va_aldq hx hb hK hP 1 4 rfl rfl hin2 dX8_row_47 ?_
    refine W.eq (congrArg (fun z => F0 m 48 ls (z :: [])) (rf_at (Nat.not_le.mp fun q => hin2 (Or.inr q)))) ?_
    refine lv_iload_n hx hb dX8_row_48 rfl (lv_at hl 2 rfl) ?_
    refine lv_iload_n hx hb dX8_row_49 rfl (lv_at hl 2 rfl) ?_
    refine lv_if_ge (tgt := 57) hx hb dX8_row_50 (by decide) (fun c => ?_) (fun c => ?_)
    · replace hok := g_pos hok c
      refine lv_iload_n hx hb dX8_row_57 rfl (lv_at hl 3 rfl) ?_
      obtain ⟨o3, o4, o5, hq, hok⟩ := g_bnd3 hok
      refine cG (is := [2 + 2 * x1.toNatClampNeg, 3 + 2 * x1.toNatClampNeg]) (wc := (wm_X4_inputAt cA (h0_rows_e x1.toNatClampNeg) (h0_rows_e_places x1.toNatClampNeg) (c0_rows_e__sort x1.toNatClampNeg) (c0_rows_e__size x1.toNatClampNeg) (c0_rows_e_places x1.toNatClampNeg))) (w1 := (wm_X4_inputAt cA (h0_rows_e x1.toNatClampNeg) (h0_rows_e_places x1.toNatClampNeg) o3 o4 o5)) (rv := none) (st1 := []) (va_runV (Ts := wsX8_row) (As := [.int x2, .int x3]) (rest := []) ⟨hx, hb, hml, hown, hts⟩ (c_X4_begin l G cA ts (h0_rows_e x1.toNatClampNeg) (h0_rows_e_places x1.toNatClampNeg) x2 x3 (c0_rows_e__sort x1.toNatClampNeg) (c0_rows_e__size x1.toNatClampNeg) (c0_rows_e_places x1.toNatClampNeg) o3 o4 o5 hq H.size) (cwV 2 hts gX8_row_X4_begin rfl rfl rfl (by decide +kernel) ⟨Nat.le_of_ble_eq_true rfl, Nat.le_of_ble_eq_true rfl⟩) (pre_V (fs := [.ref (h0_rows_e_places x1.toNatClampNeg), .int (c0_rows_e__sort x1.toNatClampNeg), .int (c0_rows_e__size x1.toNatClampNeg)]) (ci := 4) (q0 := (2 + 2 * x1.toNatClampNeg)) (is := [2 + 2 * x1.toNatClampNeg, 3 + 2 * x1.toNatClampNeg]) rfl (by rcases lt4 (Nat.not_le.mp fun q => hin2 (Or.inr q)) with e | e | e | e <;> rw [e] <;> rfl) hP hD hS hA hK hZ (by rcases lt4 (Nat.not_le.mp fun q => hin2 (Or.inr q)) with e | e | e | e <;> rw [e] <;> rfl) (by rcases lt4 (Nat.not_le.mp fun q => hin2 (Or.inr q)) with e | e | e | e <;> rw [e] <;> rfl)) rfl rfl hl.1 rfl (by exact lv_room (Nat.le_of_ble_eq_true rfl)) dX8_row_58 ⟨Nat.le_refl _, Nat.le_refl _⟩) hP hD hS hA (by rcases lt4 (Nat.not_le.mp fun q => hin2 (Or.inr q)) with e | e | e | e <;> rw [e] <;> rfl) (by rcases lt4 (Nat.not_le.mp fun q => hin2 (Or.inr q)) with e | e | e | e <;> rw [e] <;> rfl) (by rfl) rfl (fun H locs hP hD hS => ?_)
      obtain ⟨hP, hD⟩ : va_P G vwCl (wm_X8_row cA h0 h0_rows h0_rows_e h0_rows_e_places h0_filter h0_trial h0_kept h0_ways h0_spread h0_course h0_changes h0_tape h0_bodies h0_causes s0__hasImage s0__hasCauses s0__stepsDone (va_up c0_rows_e__sort x1.toNatClampNeg o3) (va_up c0_rows_e__size x1.toNatClampNeg o4) (va_up c0_rows_e_places x1.toNatClampNeg o5)) H ∧ va_D A (wm_X8_row cA h0 h0_rows h0_rows_e h0_rows_e_places h0_filter h0_trial h0_kept h0_ways h0_spread h0_course h0_changes h0_tape h0_bodies h0_causes s0__hasImage s0__hasCauses s0__stepsDone (va_up c0_rows_e__sort x1.toNatClampNeg o3) (va_up c0_rows_e__size x1.toNatClampNeg o4) (va_up c0_rows_e_places x1.toNatClampNeg o5)) := PD_eq hP hD (by rcases lt4 (Nat.not_le.mp fun q => hin2 (Or.inr q)) with e | e | e | e <;> rw [e] <;> rfl)
      refine lv_iconst (v := 1) hx hb dX8_row_61 (by decide) ?_
      cases hok
      exact cr_i hx hb hr hlocks hQ dX8_row_62 hP hS
    replace hok := g_neg hok c
    refine lv_iconst (v := 0) hx hb dX8_row_53 (by decide) ?_
    refine lv_goto (tgt := 58) hx hb dX8_row_54 (by decide) ?_
    obtain ⟨o6, o7, o8, hq, hok⟩ := g_bnd3 hok
    refine cG (is := [2 + 2 * x1.toNatClampNeg, 3 + 2 * x1.toNatClampNeg]) (wc := (wm_X4_inputAt cA (h0_rows_e x1.toNatClampNeg) (h0_rows_e_places x1.toNatClampNeg) (c0_rows_e__sort x1.toNatClampNeg) (c0_rows_e__size x1.toNatClampNeg) (c0_rows_e_places x1.toNatClampNeg))) (w1 := (wm_X4_inputAt cA (h0_rows_e x1.toNatClampNeg) (h0_rows_e_places x1.toNatClampNeg) o6 o7 o8)) (rv := none) (st1 := []) (va_runV (Ts := wsX8_row) (As := [.int x2, .int (0:Int32)]) (rest := []) ⟨hx, hb, hml, hown, hts⟩ (c_X4_begin l G cA ts (h0_rows_e x1.toNatClampNeg) (h0_rows_e_places x1.toNatClampNeg) x2 (0:Int32) (c0_rows_e__sort x1.toNatClampNeg) (c0_rows_e__size x1.toNatClampNeg) (c0_rows_e_places x1.toNatClampNeg) o6 o7 o8 hq H.size) (cwV 2 hts gX8_row_X4_begin rfl rfl rfl (by decide +kernel) ⟨Nat.le_of_ble_eq_true rfl, Nat.le_of_ble_eq_true rfl⟩) (pre_V (fs := [.ref (h0_rows_e_places x1.toNatClampNeg), .int (c0_rows_e__sort x1.toNatClampNeg), .int (c0_rows_e__size x1.toNatClampNeg)]) (ci := 4) (q0 := (2 + 2 * x1.toNatClampNeg)) (is := [2 + 2 * x1.toNatClampNeg, 3 + 2 * x1.toNatClampNeg]) rfl (by rcases lt4 (Nat.not_le.mp fun q => hin2 (Or.inr q)) with e | e | e | e <;> rw [e] <;> rfl) hP hD hS hA hK hZ (by rcases lt4 (Nat.not_le.mp fun q => hin2 (Or.inr q)) with e | e | e | e <;> rw [e] <;> rfl) (by rcases lt4 (Nat.not_le.mp fun q => hin2 (Or.inr q)) with e | e | e | e <;> rw [e] <;> rfl)) rfl rfl hl.1 rfl (by exact lv_room (Nat.le_of_ble_eq_true rfl)) dX8_row_58 ⟨Nat.le_refl _, Nat.le_refl _⟩) hP hD hS hA (by rcases lt4 (Nat.not_le.mp fun q => hin2 (Or.inr q)) with e | e | e | e <;> rw [e] <;> rfl) (by rcases lt4 (Nat.not_le.mp fun q => hin2 (Or.inr q)) with e | e | e | e <;> rw [e] <;> rfl) (by rfl) rfl (fun H locs hP hD hS => ?_)
    obtain ⟨hP, hD⟩ : va_P G vwCl (wm_X8_row cA h0 h0_rows h0_rows_e h0_rows_e_places h0_filter h0_trial h0_kept h0_ways h0_spread h0_course h0_changes h0_tape h0_bodies h0_causes s0__hasImage s0__hasCauses s0__stepsDone (va_up c0_rows_e__sort x1.toNatClampNeg o6) (va_up c0_rows_e__size x1.toNatClampNeg o7) (va_up c0_rows_e_places x1.toNatClampNeg o8)) H ∧ va_D A (wm_X8_row cA h0 h0_rows h0_rows_e h0_rows_e_places h0_filter h0_trial h0_kept h0_ways h0_spread h0_course h0_changes h0_tape h0_bodies h0_causes s0__hasImage s0__hasCauses s0__stepsDone (va_up c0_rows_e__sort x1.toNatClampNeg o6) (va_up c0_rows_e__size x1.toNatClampNeg o7) (va_up c0_rows_e_places x1.toNatClampNeg o8)) := PD_eq hP hD (by rcases lt4 (Nat.not_le.mp fun q => hin2 (Or.inr q)) with e | e | e | e <;> rw [e] <;> rfl)
    refine lv_iconst (v := 1) hx hb dX8_row_61 (by decide) ?_
    cases hok
    exact cr_i hx hb hr hlocks hQ dX8_row_62 hP hS
  have J_31 : ∀ (c0_rows_e__sort : Nat → Int32) (c0_rows_e__size : Nat → Int32) (c0_rows_e_places : Nat → Nat → Int64) (H : Heap) (locs : List Loc) (ls : Array Slot), va_P G vwCl (wm_X8_row cA h0 h0_rows h0_rows_e h0_rows_e_places h0_filter h0_trial h0_kept h0_ways h0_spread h0_course h0_changes h0_tape h0_bodies h0_causes s0__hasImage s0__hasCauses s0__stepsDone c0_rows_e__sort c0_rows_e__size c0_rows_e_places) H → va_D A (wm_X8_row cA h0 h0_rows h0_rows_e h0_rows_e_places h0_filter h0_trial h0_kept h0_ways h0_spread h0_course h0_changes h0_tape h0_bodies h0_causes s0__hasImage s0__hasCauses s0__stepsDone c0_rows_e__sort c0_rows_e__size c0_rows_e_places) → va_S A s.heap H locs → lv_has ls 4 [(0, .ref h0), (1, .int x1), (2, .int x2), (3, .int x3)] → fX8_row_j31 x1 x2 x3 c0_rows_e__sort c0_rows_e__size c0_rows_e_places = some (r, o0_rows_e__sort, o0_rows_e__size, o0_rows_e_places) → W p l e (rmX 2 103) s m ar below meth c H locs 0 0 Q (F0 m 31 ls []) := by
    intro c0_rows_e__sort c0_rows_e__size c0_rows_e_places H locs ls hP hD hS hl hok
    unfold fX8_row_j31 at hok
    refine lv_iload_n hx hb dX8_row_31 rfl (lv_at hl 2 rfl) ?_
    refine lv_if_lt (tgt := 42) hx hb dX8_row_32 (by decide) (fun c => ?_) (fun c => ?_)
    · replace hok := g_pos hok c
      exact J_42 c0_rows_e__sort c0_rows_e__size c0_rows_e_places _ _ _ hP hD hS (lv_sub hl [0, 1, 2, 3] rfl) hok
    replace hok := g_neg hok c
    refine lv_iload_n hx hb dX8_row_35 rfl (lv_at hl 3 rfl) ?_
    refine lv_if_ge (tgt := 42) hx hb dX8_row_36 (by decide) (fun c => ?_) (fun c => ?_)
    · replace hok := g_pos hok c
      exact J_42 c0_rows_e__sort c0_rows_e__size c0_rows_e_places _ _ _ hP hD hS (lv_sub hl [0, 1, 2, 3] rfl) hok
    replace hok := g_neg hok c
    refine lv_bipush (v := -14) hx hb dX8_row_39 (by decide) ?_
    cases hok
    exact cr_i hx hb hr hlocks hQ dX8_row_41 hP hS
  unfold fX8_row at hok
  refine lv_iload_n hx hb dX8_row_0 rfl (lv_at hl 1 rfl) ?_
  obtain ⟨r1, hq, hok⟩ := g_bnd1 hok
  refine cG (is := []) (wc := (wm_X0_find cA)) (w1 := (wm_X0_find cA)) (rv := (some (.int r1))) (st1 := [.int r1]) (va_runS (Ts := wsX8_row) (As := [.int x1]) (rest := []) ⟨hx, hb, hml, hown, hts⟩ (c_X8_isRow l G cA ts x1 r1 hq s.heap.size) (va_cwS 1 hts gX8_row_X8_isRow rfl rfl rfl (by decide +kernel) ⟨Nat.le_of_ble_eq_true rfl, Nat.le_of_ble_eq_true rfl⟩) (pre_S (is := []) hP hD hS hA hK hZ (by decide +kernel) (by rfl)) rfl rfl hl.1 rfl (by exact lv_room (Nat.le_of_ble_eq_true rfl)) dX8_row_1 ⟨Nat.le_refl _, Nat.le_refl _⟩) hP hD hS hA (by decide +kernel) (by rfl) (by rfl) rfl (fun H locs hP hD hS => ?_)
  have hP : va_P G vwCl (wm_X8_row cA h0 h0_rows h0_rows_e h0_rows_e_places h0_filter h0_trial h0_kept h0_ways h0_spread h0_course h0_changes h0_tape h0_bodies h0_causes s0__hasImage s0__hasCauses s0__stepsDone s0_rows_e__sort s0_rows_e__size s0_rows_e_places) H := hP
  have hD : va_D A (wm_X8_row cA h0 h0_rows h0_rows_e h0_rows_e_places h0_filter h0_trial h0_kept h0_ways h0_spread h0_course h0_changes h0_tape h0_bodies h0_causes s0__hasImage s0__hasCauses s0__stepsDone s0_rows_e__sort s0_rows_e__size s0_rows_e_places) := hD
  refine lv_if_eq (tgt := 17) hx hb dX8_row_4 (by decide) (fun c => ?_) (fun c => ?_)
  · replace hok := g_pos hok c
    refine lv_iconst (v := -1) hx hb dX8_row_17 (by decide) ?_
    cases hok
    exact cr_i hx hb hr hlocks hQ dX8_row_18 hP hS
  replace hok := g_neg hok c
  refine lv_iload_n hx hb dX8_row_7 rfl (lv_at hl 2 rfl) ?_
  refine lv_iconst (v := -1) hx hb dX8_row_8 (by decide) ?_
  refine lv_icmp_lt (tgt := 17) hx hb dX8_row_9 (by decide) (fun c => ?_) (fun c => ?_)
  · replace hok := g_pos hok c
    refine lv_iconst (v := -1) hx hb dX8_row_17 (by decide) ?_
    cases hok
    exact cr_i hx hb hr hlocks hQ dX8_row_18 hP hS
  replace hok := g_neg hok c
  refine lv_iload_n hx hb dX8_row_12 rfl (lv_at hl 2 rfl) ?_
  refine lv_iconst (v := 2) hx hb dX8_row_13 (by decide) ?_
  refine lv_icmp_le (tgt := 19) hx hb dX8_row_14 (by decide) (fun c => ?_) (fun c => ?_)
  · replace hok := g_pos hok c
    refine lv_iload_n hx hb dX8_row_19 rfl (lv_at hl 2 rfl) ?_
    refine lv_if_lt (tgt := 31) hx hb dX8_row_20 (by decide) (fun c => ?_) (fun c => ?_)
    · replace hok := g_pos hok c
      exact J_31 s0_rows_e__sort s0_rows_e__size s0_rows_e_places _ _ _ hP hD hS (lv_sub hl [0, 1, 2, 3] rfl) hok
    replace hok := g_neg hok c
    refine lv_iload_n hx hb dX8_row_23 rfl (lv_at hl 3 rfl) ?_
    refine lv_bipush (v := 40) hx hb dX8_row_24 (by decide) ?_
    refine lv_icmp_le (tgt := 31) hx hb dX8_row_26 (by decide) (fun c => ?_) (fun c => ?_)
    · replace hok := g_pos hok c
      exact J_31 s0_rows_e__sort s0_rows_e__size s0_rows_e_places _ _ _ hP hD hS (lv_sub hl [0, 1, 2, 3] rfl) hok
    replace hok := g_neg hok c
    refine lv_iconst (v := -1) hx hb dX8_row_29 (by decide) ?_
    cases hok
    exact cr_i hx hb hr hlocks hQ dX8_row_30 hP hS
  replace hok := g_neg hok c
  refine lv_iconst (v := -1) hx hb dX8_row_17 (by decide) ?_
  cases hok
  exact cr_i hx hb hr hlocks hQ dX8_row_18 hP hS
