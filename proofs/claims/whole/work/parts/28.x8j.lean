set_option maxHeartbeats 40000000 in
set_option maxRecDepth 100000 in
theorem c_X8_put (l : Launch) (G : va_G) (cA : Nat → ClassId) (ts : Nat → Nat) (h0 : Nat) (h0_rows : Nat) (h0_rows_e : Nat → Nat) (h0_rows_e_places : Nat → Nat) (h0_filter : Nat) (h0_trial : Nat) (h0_kept : Nat) (h0_ways : Nat) (h0_spread : Nat) (h0_course : Nat) (h0_changes : Nat) (h0_tape : Nat) (h0_bodies : Nat) (h0_causes : Nat) (x1 : Int32) (x2 : Int32) (x3 : Int64) (s0__hasImage : Int32) (s0__hasCauses : Int32) (s0__stepsDone : Int32) (s0_rows_e__sort : Nat → Int32) (s0_rows_e__size : Nat → Int32) (s0_rows_e_places : Nat → Nat → Int64) (r : Int32) (o0_rows_e_places : Nat → Nat → Int64) (hok : fX8_put x1 x2 x3 s0_rows_e__sort s0_rows_e__size s0_rows_e_places = some (r, o0_rows_e_places)) : Ct l G cA ts yX8_put wsX8_put 3 84 [.ref h0, .int x1, .int x2, .long x3] (wm_X8_row cA h0 h0_rows h0_rows_e h0_rows_e_places h0_filter h0_trial h0_kept h0_ways h0_spread h0_course h0_changes h0_tape h0_bodies h0_causes s0__hasImage s0__hasCauses s0__stepsDone s0_rows_e__sort s0_rows_e__size s0_rows_e_places) (wm_X8_row cA h0 h0_rows h0_rows_e h0_rows_e_places h0_filter h0_trial h0_kept h0_ways h0_spread h0_course h0_changes h0_tape h0_bodies h0_causes s0__hasImage s0__hasCauses s0__stepsDone s0_rows_e__sort s0_rows_e__size o0_rows_e_places) (some (.int r)) := by
  refine Ct.intro (cc := cX8_put) (maxL := 5) (ret := some .int) (by decide +kernel) rfl (Nat.le_of_ble_eq_true rfl) ?_
  intro p e s m ar below meth c A Q hx hb hr hml hown hlocks hts hK hZ hA hQ hP hD hS ls hl
  have hown : s.vm.findClass RX8 = some m.cls := hown
  have hinX8 : ∀ w ∈ wsX80, w ∈ wsX8_put := fun _ h => List.mem_cons_of_mem _ (List.mem_append_left _ (List.mem_append_right _ (h)))
  have hl : lv_has ls 5 [(0, .ref h0), (1, .int x1), (2, .int x2), (3, .long x3)] := hl
  have hP : va_P G vwCl (wm_X8_row cA h0 h0_rows h0_rows_e h0_rows_e_places h0_filter h0_trial h0_kept h0_ways h0_spread h0_course h0_changes h0_tape h0_bodies h0_causes s0__hasImage s0__hasCauses s0__stepsDone s0_rows_e__sort s0_rows_e__size s0_rows_e_places) s.heap := hP
  have hD : va_D A (wm_X8_row cA h0 h0_rows h0_rows_e h0_rows_e_places h0_filter h0_trial h0_kept h0_ways h0_spread h0_course h0_changes h0_tape h0_bodies h0_causes s0__hasImage s0__hasCauses s0__stepsDone s0_rows_e__sort s0_rows_e__size s0_rows_e_places) := hD
  unfold fX8_put at hok
  refine lv_iload_n hx hb dX8_put_0 rfl (lv_at hl 1 rfl) ?_
  obtain ⟨r1, hq, hok⟩ := g_bnd1 hok
  refine cG (is := []) (wc := (wm_X0_find cA)) (w1 := (wm_X0_find cA)) (rv := (some (.int r1))) (st1 := [.int r1]) (va_runS (Ts := wsX8_put) (As := [.int x1]) (rest := []) ⟨hx, hb, hml, hown, hts⟩ (c_X8_isRow l G cA ts x1 r1 hq s.heap.size) (va_cwS 1 hts gX8_put_X8_isRow rfl rfl rfl (by decide +kernel) ⟨Nat.le_of_ble_eq_true rfl, Nat.le_of_ble_eq_true rfl⟩) (pre_S (is := []) hP hD hS hA hK hZ (by decide +kernel) (by rfl)) rfl rfl hl.1 rfl (by exact lv_room (Nat.le_of_ble_eq_true rfl)) dX8_put_1 ⟨Nat.le_refl _, Nat.le_refl _⟩) hP hD hS hA (by decide +kernel) (by rfl) (by rfl) rfl (fun H locs hP hD hS => ?_)
  have hP : va_P G vwCl (wm_X8_row cA h0 h0_rows h0_rows_e h0_rows_e_places h0_filter h0_trial h0_kept h0_ways h0_spread h0_course h0_changes h0_tape h0_bodies h0_causes s0__hasImage s0__hasCauses s0__stepsDone s0_rows_e__sort s0_rows_e__size s0_rows_e_places) H := hP
  have hD : va_D A (wm_X8_row cA h0 h0_rows h0_rows_e h0_rows_e_places h0_filter h0_trial h0_kept h0_ways h0_spread h0_course h0_changes h0_tape h0_bodies h0_causes s0__hasImage s0__hasCauses s0__stepsDone s0_rows_e__sort s0_rows_e__size s0_rows_e_places) := hD
  refine lv_if_ne (tgt := 9) hx hb dX8_put_4 (by decide) (fun c => ?_) (fun c => ?_)
  · replace hok := g_neg hok c
    refine lv_aload_n hx hb dX8_put_9 rfl (lv_at hl 0 rfl) ?_
    refine lv_iload_n hx hb dX8_put_10 rfl (lv_at hl 1 rfl) ?_
    obtain ⟨r2, hq, hok⟩ := g_bnd1 hok
    refine cG (is := [0, 1, 2, 4, 6, 8]) (wc := (wm_X8_isMissing cA h0 h0_rows h0_rows_e h0_filter h0_trial h0_kept h0_ways h0_spread h0_course h0_changes h0_tape h0_bodies h0_causes h0_rows_e_places s0__hasImage s0__hasCauses s0__stepsDone s0_rows_e__sort s0_rows_e__size)) (w1 := (wm_X8_isMissing cA h0 h0_rows h0_rows_e h0_filter h0_trial h0_kept h0_ways h0_spread h0_course h0_changes h0_tape h0_bodies h0_causes h0_rows_e_places s0__hasImage s0__hasCauses s0__stepsDone s0_rows_e__sort s0_rows_e__size)) (rv := (some (.int r2))) (st1 := [.int r2]) (va_runV (Ts := wsX8_put) (As := [.int x1]) (rest := []) ⟨hx, hb, hml, hown, hts⟩ (c_X8_isMissing l G cA ts h0 h0_rows h0_rows_e h0_filter h0_trial h0_kept h0_ways h0_spread h0_course h0_changes h0_tape h0_bodies h0_causes h0_rows_e_places x1 s0__hasImage s0__hasCauses s0__stepsDone s0_rows_e__sort s0_rows_e__size r2 hq H.size) (cwV 1 hts gX8_put_X8_isMissing rfl rfl rfl (by decide +kernel) ⟨Nat.le_of_ble_eq_true rfl, Nat.le_of_ble_eq_true rfl⟩) (pre_V (ci := 8) (q0 := 0) (is := [0, 1, 2, 4, 6, 8]) rfl rfl hP hD hS hA hK hZ (by decide +kernel) (by rfl)) rfl rfl hl.1 rfl (by exact lv_room (Nat.le_of_ble_eq_true rfl)) dX8_put_11 ⟨Nat.le_refl _, Nat.le_refl _⟩) hP hD hS hA (by decide +kernel) (by rfl) (by rfl) rfl (fun H locs hP hD hS => ?_)
    have hP : va_P G vwCl (wm_X8_row cA h0 h0_rows h0_rows_e h0_rows_e_places h0_filter h0_trial h0_kept h0_ways h0_spread h0_course h0_changes h0_tape h0_bodies h0_causes s0__hasImage s0__hasCauses s0__stepsDone s0_rows_e__sort s0_rows_e__size s0_rows_e_places) H := hP
    have hD : va_D A (wm_X8_row cA h0 h0_rows h0_rows_e h0_rows_e_places h0_filter h0_trial h0_kept h0_ways h0_spread h0_course h0_changes h0_tape h0_bodies h0_causes s0__hasImage s0__hasCauses s0__stepsDone s0_rows_e__sort s0_rows_e__size s0_rows_e_places) := hD
    refine lv_if_eq (tgt := 20) hx hb dX8_put_14 (by decide) (fun c => ?_) (fun c => ?_)
    · replace hok := g_pos hok c
      refine lv_aload_n hx hb dX8_put_20 rfl (lv_at hl 0 rfl) ?_
      refine va_get (ci := 8) (v := .ref h0_rows) (C := RX8) (T := TX8) (N := 14) hx hb hts hinX8 hown hK hP 0 rfl rfl 7 (by decide) (hts _ (List.mem_of_getElem? (i := 1) rfl)) (fun _ h9 => h9) rfl dX8_put_21 ?_
      refine lv_iload_n hx hb dX8_put_24 rfl (lv_at hl 1 rfl) ?_
      obtain ⟨hin3, hok⟩ := g_no hok
      refine va_aldq hx hb hK hP 1 4 rfl rfl hin3 dX8_put_25 ?_
      refine W.eq (congrArg (fun z => F0 m 26 ls (z :: [])) (rf_at (Nat.not_le.mp fun q => hin3 (Or.inr q)))) ?_
      refine lv_iload_n hx hb dX8_put_26 rfl (lv_at hl 2 rfl) ?_
      obtain ⟨r4, hq, hok⟩ := g_bnd1 hok
      refine cG (is := [2 + 2 * x1.toNatClampNeg]) (wc := (wm_X4_has cA (h0_rows_e x1.toNatClampNeg) (h0_rows_e_places x1.toNatClampNeg) (s0_rows_e__sort x1.toNatClampNeg) (s0_rows_e__size x1.toNatClampNeg))) (w1 := (wm_X4_has cA (h0_rows_e x1.toNatClampNeg) (h0_rows_e_places x1.toNatClampNeg) (s0_rows_e__sort x1.toNatClampNeg) (s0_rows_e__size x1.toNatClampNeg))) (rv := (some (.int r4))) (st1 := [.int r4]) (va_runV (Ts := wsX8_put) (As := [.int x2]) (rest := []) ⟨hx, hb, hml, hown, hts⟩ (c_X4_has l G cA ts (h0_rows_e x1.toNatClampNeg) (h0_rows_e_places x1.toNatClampNeg) x2 (s0_rows_e__sort x1.toNatClampNeg) (s0_rows_e__size x1.toNatClampNeg) r4 hq H.size) (cwV 1 hts gX8_put_X4_has rfl rfl rfl (by decide +kernel) ⟨Nat.le_of_ble_eq_true rfl, Nat.le_of_ble_eq_true rfl⟩) (pre_V (fs := [.ref (h0_rows_e_places x1.toNatClampNeg), .int (s0_rows_e__sort x1.toNatClampNeg), .int (s0_rows_e__size x1.toNatClampNeg)]) (ci := 4) (q0 := (2 + 2 * x1.toNatClampNeg)) (is := [2 + 2 * x1.toNatClampNeg]) rfl (by rcases lt4 (Nat.not_le.mp fun q => hin3 (Or.inr q)) with e | e | e | e <;> rw [e] <;> rfl) hP hD hS hA hK hZ (by rcases lt4 (Nat.not_le.mp fun q => hin3 (Or.inr q)) with e | e | e | e <;> rw [e] <;> rfl) (by rcases lt4 (Nat.not_le.mp fun q => hin3 (Or.inr q)) with e | e | e | e <;> rw [e] <;> rfl)) rfl rfl hl.1 rfl (by exact lv_room (Nat.le_of_ble_eq_true rfl)) dX8_put_27 ⟨Nat.le_refl _, Nat.le_refl _⟩) hP hD hS hA (by rcases lt4 (Nat.not_le.mp fun q => hin3 (Or.inr q)) with e | e | e | e <;> rw [e] <;> rfl) (by rcases lt4 (Nat.not_le.mp fun q => hin3 (Or.inr q)) with e | e | e | e <;> rw [e] <;> rfl) (by rfl) rfl (fun H locs hP hD hS => ?_)
      obtain ⟨hP, hD⟩ : va_P G vwCl (wm_X8_row cA h0 h0_rows h0_rows_e h0_rows_e_places h0_filter h0_trial h0_kept h0_ways h0_spread h0_course h0_changes h0_tape h0_bodies h0_causes s0__hasImage s0__hasCauses s0__stepsDone s0_rows_e__sort s0_rows_e__size s0_rows_e_places) H ∧ va_D A (wm_X8_row cA h0 h0_rows h0_rows_e h0_rows_e_places h0_filter h0_trial h0_kept h0_ways h0_spread h0_course h0_changes h0_tape h0_bodies h0_causes s0__hasImage s0__hasCauses s0__stepsDone s0_rows_e__sort s0_rows_e__size s0_rows_e_places) := PD_eq hP hD (by rcases lt4 (Nat.not_le.mp fun q => hin3 (Or.inr q)) with e | e | e | e <;> rw [e] <;> rfl)
      refine lv_if_ne (tgt := 36) hx hb dX8_put_30 (by decide) (fun c => ?_) (fun c => ?_)
      · replace hok := g_neg hok c
        refine lv_aload_n hx hb dX8_put_36 rfl (lv_at hl 0 rfl) ?_
        refine va_get (ci := 8) (v := .ref h0_rows) (C := RX8) (T := TX8) (N := 14) hx hb hts hinX8 hown hK hP 0 rfl rfl 7 (by decide) (hts _ (List.mem_of_getElem? (i := 1) rfl)) (fun _ h9 => h9) rfl dX8_put_37 ?_
        refine lv_iload_n hx hb dX8_put_40 rfl (lv_at hl 1 rfl) ?_
        obtain ⟨hin5, hok⟩ := g_no hok
        refine va_aldq hx hb hK hP 1 4 rfl rfl hin5 dX8_put_41 ?_
        refine W.eq (congrArg (fun z => F0 m 42 ls (z :: [])) (rf_at (Nat.not_le.mp fun q => hin5 (Or.inr q)))) ?_
        refine lv_iload_n hx hb dX8_put_42 rfl (lv_at hl 2 rfl) ?_
        refine lv_lload_n hx hb dX8_put_43 rfl (lv_at hl 3 rfl) ?_
        obtain ⟨o6, hq, hok⟩ := g_bnd1 hok
        refine cG (is := [2 + 2 * x1.toNatClampNeg, 3 + 2 * x1.toNatClampNeg]) (wc := (wm_X4_inputAt cA (h0_rows_e x1.toNatClampNeg) (h0_rows_e_places x1.toNatClampNeg) (s0_rows_e__sort x1.toNatClampNeg) (s0_rows_e__size x1.toNatClampNeg) (s0_rows_e_places x1.toNatClampNeg))) (w1 := (wm_X4_inputAt cA (h0_rows_e x1.toNatClampNeg) (h0_rows_e_places x1.toNatClampNeg) (s0_rows_e__sort x1.toNatClampNeg) (s0_rows_e__size x1.toNatClampNeg) o6)) (rv := none) (st1 := []) (va_runV (Ts := wsX8_put) (As := [.int x2, .long x3]) (rest := []) ⟨hx, hb, hml, hown, hts⟩ (c_X4_store l G cA ts (h0_rows_e x1.toNatClampNeg) (h0_rows_e_places x1.toNatClampNeg) x2 x3 (s0_rows_e__sort x1.toNatClampNeg) (s0_rows_e__size x1.toNatClampNeg) (s0_rows_e_places x1.toNatClampNeg) o6 hq H.size) (cwV 2 hts gX8_put_X4_store rfl rfl rfl (by decide +kernel) ⟨Nat.le_of_ble_eq_true rfl, Nat.le_of_ble_eq_true rfl⟩) (pre_V (fs := [.ref (h0_rows_e_places x1.toNatClampNeg), .int (s0_rows_e__sort x1.toNatClampNeg), .int (s0_rows_e__size x1.toNatClampNeg)]) (ci := 4) (q0 := (2 + 2 * x1.toNatClampNeg)) (is := [2 + 2 * x1.toNatClampNeg, 3 + 2 * x1.toNatClampNeg]) rfl (by rcases lt4 (Nat.not_le.mp fun q => hin5 (Or.inr q)) with e | e | e | e <;> rw [e] <;> rfl) hP hD hS hA hK hZ (by rcases lt4 (Nat.not_le.mp fun q => hin5 (Or.inr q)) with e | e | e | e <;> rw [e] <;> rfl) (by rcases lt4 (Nat.not_le.mp fun q => hin5 (Or.inr q)) with e | e | e | e <;> rw [e] <;> rfl)) rfl rfl hl.1 rfl (by exact lv_room (Nat.le_of_ble_eq_true rfl)) dX8_put_44 ⟨Nat.le_refl _, Nat.le_refl _⟩) hP hD hS hA (by rcases lt4 (Nat.not_le.mp fun q => hin5 (Or.inr q)) with e | e | e | e <;> rw [e] <;> rfl) (by rcases lt4 (Nat.not_le.mp fun q => hin5 (Or.inr q)) with e | e | e | e <;> rw [e] <;> rfl) (by rfl) rfl (fun H locs hP hD hS => ?_)
        obtain ⟨hP, hD⟩ : va_P G vwCl (wm_X8_row cA h0 h0_rows h0_rows_e h0_rows_e_places h0_filter h0_trial h0_kept h0_ways h0_spread h0_course h0_changes h0_tape h0_bodies h0_causes s0__hasImage s0__hasCauses s0__stepsDone s0_rows_e__sort s0_rows_e__size (va_up s0_rows_e_places x1.toNatClampNeg o6)) H ∧ va_D A (wm_X8_row cA h0 h0_rows h0_rows_e h0_rows_e_places h0_filter h0_trial h0_kept h0_ways h0_spread h0_course h0_changes h0_tape h0_bodies h0_causes s0__hasImage s0__hasCauses s0__stepsDone s0_rows_e__sort s0_rows_e__size (va_up s0_rows_e_places x1.toNatClampNeg o6)) := PD_eq hP hD (by rcases lt4 (Nat.not_le.mp fun q => hin5 (Or.inr q)) with e | e | e | e <;> rw [e] <;> rfl)
        refine lv_iconst (v := 1) hx hb dX8_put_47 (by decide) ?_
        cases hok
        exact cr_i hx hb hr hlocks hQ dX8_put_48 hP hS
      replace hok := g_pos hok c
      refine lv_bipush (v := -13) hx hb dX8_put_33 (by decide) ?_
      cases hok
      exact cr_i hx hb hr hlocks hQ dX8_put_35 hP hS
    replace hok := g_neg hok c
    refine lv_bipush (v := -11) hx hb dX8_put_17 (by decide) ?_
    cases hok
    exact cr_i hx hb hr hlocks hQ dX8_put_19 hP hS
  replace hok := g_pos hok c
  refine lv_iconst (v := -1) hx hb dX8_put_7 (by decide) ?_
  cases hok
  exact cr_i hx hb hr hlocks hQ dX8_put_8 hP hS
set_option maxHeartbeats 40000000 in
set_option maxRecDepth 100000 in
theorem c_X8_get (l : Launch) (G : va_G) (cA : Nat → ClassId) (ts : Nat → Nat) (h0 : Nat) (h0_rows : Nat) (h0_rows_e : Nat → Nat) (h0_rows_e_places : Nat → Nat) (h0_filter : Nat) (h0_trial : Nat) (h0_kept : Nat) (h0_ways : Nat) (h0_spread : Nat) (h0_course : Nat) (h0_changes : Nat) (h0_tape : Nat) (h0_bodies : Nat) (h0_causes : Nat) (x1 : Int32) (x2 : Int32) (s0__hasImage : Int32) (s0__hasCauses : Int32) (s0__stepsDone : Int32) (s0_rows_e__sort : Nat → Int32) (s0_rows_e__size : Nat → Int32) (s0_rows_e_places : Nat → Nat → Int64) (r : Int64) (hok : fX8_get x1 x2 s0_rows_e__sort s0_rows_e__size s0_rows_e_places = some r) : Ct l G cA ts yX8_get wsX8_get 2 61 [.ref h0, .int x1, .int x2] (wm_X8_row cA h0 h0_rows h0_rows_e h0_rows_e_places h0_filter h0_trial h0_kept h0_ways h0_spread h0_course h0_changes h0_tape h0_bodies h0_causes s0__hasImage s0__hasCauses s0__stepsDone s0_rows_e__sort s0_rows_e__size s0_rows_e_places) (wm_X8_row cA h0 h0_rows h0_rows_e h0_rows_e_places h0_filter h0_trial h0_kept h0_ways h0_spread h0_course h0_changes h0_tape h0_bodies h0_causes s0__hasImage s0__hasCauses s0__stepsDone s0_rows_e__sort s0_rows_e__size s0_rows_e_places) (some (.long r)) := by
  refine Ct.intro (cc := cX8_get) (maxL := 3) (ret := some .long) (by decide +kernel) rfl (Nat.le_of_ble_eq_true rfl) ?_
  intro p e s m ar below meth c A Q hx hb hr hml hown hlocks hts hK hZ hA hQ hP hD hS ls hl
  have hown : s.vm.findClass RX8 = some m.cls := hown
  have hinX4 : ∀ w ∈ wsX40, w ∈ wsX8_get := fun _ h => List.mem_cons_of_mem _ (List.mem_append_right _ (h))
  have hinX8 : ∀ w ∈ wsX80, w ∈ wsX8_get := fun _ h => List.mem_cons_of_mem _ (List.mem_append_left _ (List.mem_append_right _ (h)))
  have hl : lv_has ls 3 [(0, .ref h0), (1, .int x1), (2, .int x2)] := hl
  have hP : va_P G vwCl (wm_X8_row cA h0 h0_rows h0_rows_e h0_rows_e_places h0_filter h0_trial h0_kept h0_ways h0_spread h0_course h0_changes h0_tape h0_bodies h0_causes s0__hasImage s0__hasCauses s0__stepsDone s0_rows_e__sort s0_rows_e__size s0_rows_e_places) s.heap := hP
  have hD : va_D A (wm_X8_row cA h0 h0_rows h0_rows_e h0_rows_e_places h0_filter h0_trial h0_kept h0_ways h0_spread h0_course h0_changes h0_tape h0_bodies h0_causes s0__hasImage s0__hasCauses s0__stepsDone s0_rows_e__sort s0_rows_e__size s0_rows_e_places) := hD
  unfold fX8_get at hok
  refine lv_iload_n hx hb dX8_get_0 rfl (lv_at hl 1 rfl) ?_
  obtain ⟨r1, hq, hok⟩ := g_bnd1 hok
  refine cG (is := []) (wc := (wm_X0_find cA)) (w1 := (wm_X0_find cA)) (rv := (some (.int r1))) (st1 := [.int r1]) (va_runS (Ts := wsX8_get) (As := [.int x1]) (rest := []) ⟨hx, hb, hml, hown, hts⟩ (c_X8_isRow l G cA ts x1 r1 hq s.heap.size) (va_cwS 1 hts gX8_get_X8_isRow rfl rfl rfl (by decide +kernel) ⟨Nat.le_of_ble_eq_true rfl, Nat.le_of_ble_eq_true rfl⟩) (pre_S (is := []) hP hD hS hA hK hZ (by decide +kernel) (by rfl)) rfl rfl hl.1 rfl (by exact lv_room (Nat.le_of_ble_eq_true rfl)) dX8_get_1 ⟨Nat.le_refl _, Nat.le_refl _⟩) hP hD hS hA (by decide +kernel) (by rfl) (by rfl) rfl (fun H locs hP hD hS => ?_)
  have hP : va_P G vwCl (wm_X8_row cA h0 h0_rows h0_rows_e h0_rows_e_places h0_filter h0_trial h0_kept h0_ways h0_spread h0_course h0_changes h0_tape h0_bodies h0_causes s0__hasImage s0__hasCauses s0__stepsDone s0_rows_e__sort s0_rows_e__size s0_rows_e_places) H := hP
  have hD : va_D A (wm_X8_row cA h0 h0_rows h0_rows_e h0_rows_e_places h0_filter h0_trial h0_kept h0_ways h0_spread h0_course h0_changes h0_tape h0_bodies h0_causes s0__hasImage s0__hasCauses s0__stepsDone s0_rows_e__sort s0_rows_e__size s0_rows_e_places) := hD
  refine lv_if_eq (tgt := 28) hx hb dX8_get_4 (by decide) (fun c => ?_) (fun c => ?_)
  · replace hok := g_pos hok c
    refine lv_ldc2 (v := -9223372036854775808) hx hb hown (hts _ (List.mem_of_getElem? (i := 2) rfl)) dX8_get_28 ?_
    cases hok
    exact cr_l hx hb hr hlocks hQ dX8_get_31 hP hS
  replace hok := g_neg hok c
  refine lv_aload_n hx hb dX8_get_7 rfl (lv_at hl 0 rfl) ?_
  refine lv_iload_n hx hb dX8_get_8 rfl (lv_at hl 1 rfl) ?_
  obtain ⟨r2, hq, hok⟩ := g_bnd1 hok
  refine cG (is := [0, 1, 2, 4, 6, 8]) (wc := (wm_X8_isMissing cA h0 h0_rows h0_rows_e h0_filter h0_trial h0_kept h0_ways h0_spread h0_course h0_changes h0_tape h0_bodies h0_causes h0_rows_e_places s0__hasImage s0__hasCauses s0__stepsDone s0_rows_e__sort s0_rows_e__size)) (w1 := (wm_X8_isMissing cA h0 h0_rows h0_rows_e h0_filter h0_trial h0_kept h0_ways h0_spread h0_course h0_changes h0_tape h0_bodies h0_causes h0_rows_e_places s0__hasImage s0__hasCauses s0__stepsDone s0_rows_e__sort s0_rows_e__size)) (rv := (some (.int r2))) (st1 := [.int r2]) (va_runV (Ts := wsX8_get) (As := [.int x1]) (rest := []) ⟨hx, hb, hml, hown, hts⟩ (c_X8_isMissing l G cA ts h0 h0_rows h0_rows_e h0_filter h0_trial h0_kept h0_ways h0_spread h0_course h0_changes h0_tape h0_bodies h0_causes h0_rows_e_places x1 s0__hasImage s0__hasCauses s0__stepsDone s0_rows_e__sort s0_rows_e__size r2 hq H.size) (cwV 1 hts gX8_get_X8_isMissing rfl rfl rfl (by decide +kernel) ⟨Nat.le_of_ble_eq_true rfl, Nat.le_of_ble_eq_true rfl⟩) (pre_V (ci := 8) (q0 := 0) (is := [0, 1, 2, 4, 6, 8]) rfl rfl hP hD hS hA hK hZ (by decide +kernel) (by rfl)) rfl rfl hl.1 rfl (by exact lv_room (Nat.le_of_ble_eq_true rfl)) dX8_get_9 ⟨Nat.le_refl _, Nat.le_refl _⟩) hP hD hS hA (by decide +kernel) (by rfl) (by rfl) rfl (fun H locs hP hD hS => ?_)
  have hP : va_P G vwCl (wm_X8_row cA h0 h0_rows h0_rows_e h0_rows_e_places h0_filter h0_trial h0_kept h0_ways h0_spread h0_course h0_changes h0_tape h0_bodies h0_causes s0__hasImage s0__hasCauses s0__stepsDone s0_rows_e__sort s0_rows_e__size s0_rows_e_places) H := hP
  have hD : va_D A (wm_X8_row cA h0 h0_rows h0_rows_e h0_rows_e_places h0_filter h0_trial h0_kept h0_ways h0_spread h0_course h0_changes h0_tape h0_bodies h0_causes s0__hasImage s0__hasCauses s0__stepsDone s0_rows_e__sort s0_rows_e__size s0_rows_e_places) := hD
  refine lv_if_ne (tgt := 28) hx hb dX8_get_12 (by decide) (fun c => ?_) (fun c => ?_)
  · replace hok := g_neg hok c
    refine lv_ldc2 (v := -9223372036854775808) hx hb hown (hts _ (List.mem_of_getElem? (i := 2) rfl)) dX8_get_28 ?_
    cases hok
    exact cr_l hx hb hr hlocks hQ dX8_get_31 hP hS
  replace hok := g_pos hok c
  refine lv_aload_n hx hb dX8_get_15 rfl (lv_at hl 0 rfl) ?_
  refine va_get (ci := 8) (v := .ref h0_rows) (C := RX8) (T := TX8) (N := 14) hx hb hts hinX8 hown hK hP 0 rfl rfl 7 (by decide) (hts _ (List.mem_of_getElem? (i := 1) rfl)) (fun _ h9 => h9) rfl dX8_get_16 ?_
  refine lv_iload_n hx hb dX8_get_19 rfl (lv_at hl 1 rfl) ?_
  obtain ⟨hin3, hok⟩ := g_no hok
  refine va_aldq hx hb hK hP 1 4 rfl rfl hin3 dX8_get_20 ?_
  refine W.eq (congrArg (fun z => F0 m 21 ls (z :: [])) (rf_at (Nat.not_le.mp fun q => hin3 (Or.inr q)))) ?_
  refine lv_iload_n hx hb dX8_get_21 rfl (lv_at hl 2 rfl) ?_
  obtain ⟨r4, hq, hok⟩ := g_bnd1 hok
  refine cG (is := [2 + 2 * x1.toNatClampNeg]) (wc := (wm_X4_has cA (h0_rows_e x1.toNatClampNeg) (h0_rows_e_places x1.toNatClampNeg) (s0_rows_e__sort x1.toNatClampNeg) (s0_rows_e__size x1.toNatClampNeg))) (w1 := (wm_X4_has cA (h0_rows_e x1.toNatClampNeg) (h0_rows_e_places x1.toNatClampNeg) (s0_rows_e__sort x1.toNatClampNeg) (s0_rows_e__size x1.toNatClampNeg))) (rv := (some (.int r4))) (st1 := [.int r4]) (va_runV (Ts := wsX8_get) (As := [.int x2]) (rest := []) ⟨hx, hb, hml, hown, hts⟩ (c_X4_has l G cA ts (h0_rows_e x1.toNatClampNeg) (h0_rows_e_places x1.toNatClampNeg) x2 (s0_rows_e__sort x1.toNatClampNeg) (s0_rows_e__size x1.toNatClampNeg) r4 hq H.size) (cwV 1 hts gX8_get_X4_has rfl rfl rfl (by decide +kernel) ⟨Nat.le_of_ble_eq_true rfl, Nat.le_of_ble_eq_true rfl⟩) (pre_V (fs := [.ref (h0_rows_e_places x1.toNatClampNeg), .int (s0_rows_e__sort x1.toNatClampNeg), .int (s0_rows_e__size x1.toNatClampNeg)]) (ci := 4) (q0 := (2 + 2 * x1.toNatClampNeg)) (is := [2 + 2 * x1.toNatClampNeg]) rfl (by rcases lt4 (Nat.not_le.mp fun q => hin3 (Or.inr q)) with e | e | e | e <;> rw [e] <;> rfl) hP hD hS hA hK hZ (by rcases lt4 (Nat.not_le.mp fun q => hin3 (Or.inr q)) with e | e | e | e <;> rw [e] <;> rfl) (by rcases lt4 (Nat.not_le.mp fun q => hin3 (Or.inr q)) with e | e | e | e <;> rw [e] <;> rfl)) rfl rfl hl.1 rfl (by exact lv_room (Nat.le_of_ble_eq_true rfl)) dX8_get_22 ⟨Nat.le_refl _, Nat.le_refl _⟩) hP hD hS hA (by rcases lt4 (Nat.not_le.mp fun q => hin3 (Or.inr q)) with e | e | e | e <;> rw [e] <;> rfl) (by rcases lt4 (Nat.not_le.mp fun q => hin3 (Or.inr q)) with e | e | e | e <;> rw [e] <;> rfl) (by rfl) rfl (fun H locs hP hD hS => ?_)
  obtain ⟨hP, hD⟩ : va_P G vwCl (wm_X8_row cA h0 h0_rows h0_rows_e h0_rows_e_places h0_filter h0_trial h0_kept h0_ways h0_spread h0_course h0_changes h0_tape h0_bodies h0_causes s0__hasImage s0__hasCauses s0__stepsDone s0_rows_e__sort s0_rows_e__size s0_rows_e_places) H ∧ va_D A (wm_X8_row cA h0 h0_rows h0_rows_e h0_rows_e_places h0_filter h0_trial h0_kept h0_ways h0_spread h0_course h0_changes h0_tape h0_bodies h0_causes s0__hasImage s0__hasCauses s0__stepsDone s0_rows_e__sort s0_rows_e__size s0_rows_e_places) := PD_eq hP hD (by rcases lt4 (Nat.not_le.mp fun q => hin3 (Or.inr q)) with e | e | e | e <;> rw [e] <;> rfl)
  refine lv_if_ne (tgt := 32) hx hb dX8_get_25 (by decide) (fun c => ?_) (fun c => ?_)
  · replace hok := g_neg hok c
    refine lv_aload_n hx hb dX8_get_32 rfl (lv_at hl 0 rfl) ?_
    refine va_get (ci := 8) (v := .ref h0_rows) (C := RX8) (T := TX8) (N := 14) hx hb hts hinX8 hown hK hP 0 rfl rfl 7 (by decide) (hts _ (List.mem_of_getElem? (i := 1) rfl)) (fun _ h9 => h9) rfl dX8_get_33 ?_
    refine lv_iload_n hx hb dX8_get_36 rfl (lv_at hl 1 rfl) ?_
    obtain ⟨hin5, hok⟩ := g_no hok
    refine va_aldq hx hb hK hP 1 4 rfl rfl hin5 dX8_get_37 ?_
    refine W.eq (congrArg (fun z => F0 m 38 ls (z :: [])) (rf_at (Nat.not_le.mp fun q => hin5 (Or.inr q)))) ?_
    refine va_get (fs := [.ref (h0_rows_e_places x1.toNatClampNeg), .int (s0_rows_e__sort x1.toNatClampNeg), .int (s0_rows_e__size x1.toNatClampNeg)]) (ci := 4) (v := .ref (h0_rows_e_places x1.toNatClampNeg)) (C := RX4) (T := TX4) (N := 3) hx hb hts hinX4 hown hK hP (2 + 2 * x1.toNatClampNeg) (by rcases lt4 (Nat.not_le.mp fun q => hin5 (Or.inr q)) with e | e | e | e <;> rw [e] <;> rfl) rfl 0 (by decide) (hts _ (List.mem_of_getElem? (i := 3) rfl)) (fun _ h9 => h9) rfl dX8_get_38 ?_
    refine lv_iload_n hx hb dX8_get_41 rfl (lv_at hl 2 rfl) ?_
    obtain ⟨hin, hok⟩ := g_no hok
    refine x_lald (cA := cA 1) (n := 40) (f := (s0_rows_e_places x1.toNatClampNeg)) (k := x2.toNatClampNeg) hx hb hK hP (3 + 2 * x1.toNatClampNeg) 1 (by rcases lt4 (Nat.not_le.mp fun q => hin5 (Or.inr q)) with e | e | e | e <;> rw [e] <;> rfl) rfl hin rfl dX8_get_42 ?_
    cases hok
    exact cr_l hx hb hr hlocks hQ dX8_get_43 hP hS
  replace hok := g_pos hok c
  refine lv_ldc2 (v := -9223372036854775808) hx hb hown (hts _ (List.mem_of_getElem? (i := 2) rfl)) dX8_get_28 ?_
  cases hok
  exact cr_l hx hb hr hlocks hQ dX8_get_31 hP hS
set_option maxHeartbeats 40000000 in
set_option maxRecDepth 100000 in
theorem c_X8_film (l : Launch) (G : va_G) (cA : Nat → ClassId) (ts : Nat → Nat) (h0 : Nat) (h0_filter : Nat) (h0_filter_numbers : Nat) (h0_filter_words : Nat) (h0_trial : Nat) (h0_trial_numbers : Nat) (h0_trial_words : Nat) (h0_course : Nat) (h0_course_outputs : Nat) (h0_course_losses : Nat) (h0_rows : Nat) (h0_rows_e : Nat → Nat) (h0_rows_e_places : Nat → Nat) (h0_kept : Nat) (h0_ways : Nat) (h0_spread : Nat) (h0_changes : Nat) (h0_tape : Nat) (h0_bodies : Nat) (h0_causes : Nat) (x1 : Int32) (x2 : Int32) (x3 : Int32) (s0__hasImage : Int32) (s0__hasCauses : Int32) (s0__stepsDone : Int32) (s0_filter__all : Int32) (s0_filter__v : Int32) (s0_filter__loss : Int32) (s0_filter__result : Int32) (s0_filter__over : Int32) (s0_filter__heldAll : Int32) (s0_filter__heldRounded : Int32) (s0_filter_numbers : Nat → Int32) (s0_filter_words : Nat → Int32) (s0_trial__all : Int32) (s0_trial__v : Int32) (s0_trial__loss : Int32) (s0_trial__result : Int32) (s0_trial__over : Int32) (s0_trial__heldAll : Int32) (s0_trial__heldRounded : Int32) (s0_trial_numbers : Nat → Int32) (s0_trial_words : Nat → Int32) (s0_course__length : Int32) (s0_course__overs : Int32) (s0_course__halted : Int32) (s0_course__haltedBy : Int32) (s0_course_outputs : Nat → Int32) (s0_course_losses : Nat → Int32) (s0_rows_e__sort : Nat → Int32) (s0_rows_e__size : Nat → Int32) (s0_rows_e_places : Nat → Nat → Int64) (r : Int32) (o0_trial__all : Int32) (o0_trial__v : Int32) (o0_trial__loss : Int32) (o0_trial__result : Int32) (o0_trial__over : Int32) (o0_trial__heldAll : Int32) (o0_trial__heldRounded : Int32) (o0_trial_numbers : Nat → Int32) (o0_trial_words : Nat → Int32) (o0_course__length : Int32) (o0_course__overs : Int32) (o0_course__halted : Int32) (o0_course__haltedBy : Int32) (o0_course_outputs : Nat → Int32) (o0_course_losses : Nat → Int32) (o0_rows_e__sort : Nat → Int32) (o0_rows_e__size : Nat → Int32) (o0_rows_e_places : Nat → Nat → Int64) (hok : fX8_film x1 x2 x3 s0_filter_numbers s0_filter_words s0_trial__all s0_trial__v s0_trial__loss s0_trial__result s0_trial__over s0_trial__heldAll s0_trial__heldRounded s0_trial_numbers s0_trial_words s0_course__length s0_course__overs s0_course__halted s0_course__haltedBy s0_course_outputs s0_course_losses s0_rows_e__sort s0_rows_e__size s0_rows_e_places = some (r, o0_trial__all, o0_trial__v, o0_trial__loss, o0_trial__result, o0_trial__over, o0_trial__heldAll, o0_trial__heldRounded, o0_trial_numbers, o0_trial_words, o0_course__length, o0_course__overs, o0_course__halted, o0_course__haltedBy, o0_course_outputs, o0_course_losses, o0_rows_e__sort, o0_rows_e__size, o0_rows_e_places)) : Ct l G cA ts yX8_film wsX8_film 7 170 [.ref h0, .int x1, .int x2, .int x3] (wm_X8_followInThought cA h0 h0_filter h0_filter_numbers h0_filter_words h0_trial h0_trial_numbers h0_trial_words h0_course h0_course_outputs h0_course_losses h0_rows h0_rows_e h0_rows_e_places h0_kept h0_ways h0_spread h0_changes h0_tape h0_bodies h0_causes s0__hasImage s0__hasCauses s0__stepsDone s0_filter__all s0_filter__v s0_filter__loss s0_filter__result s0_filter__over s0_filter__heldAll s0_filter__heldRounded s0_filter_numbers s0_filter_words s0_trial__all s0_trial__v s0_trial__loss s0_trial__result s0_trial__over s0_trial__heldAll s0_trial__heldRounded s0_trial_numbers s0_trial_words s0_course__length s0_course__overs s0_course__halted s0_course__haltedBy s0_course_outputs s0_course_losses s0_rows_e__sort s0_rows_e__size s0_rows_e_places) (wm_X8_followInThought cA h0 h0_filter h0_filter_numbers h0_filter_words h0_trial h0_trial_numbers h0_trial_words h0_course h0_course_outputs h0_course_losses h0_rows h0_rows_e h0_rows_e_places h0_kept h0_ways h0_spread h0_changes h0_tape h0_bodies h0_causes s0__hasImage s0__hasCauses s0__stepsDone s0_filter__all s0_filter__v s0_filter__loss s0_filter__result s0_filter__over s0_filter__heldAll s0_filter__heldRounded s0_filter_numbers s0_filter_words o0_trial__all o0_trial__v o0_trial__loss o0_trial__result o0_trial__over o0_trial__heldAll o0_trial__heldRounded o0_trial_numbers o0_trial_words o0_course__length o0_course__overs o0_course__halted o0_course__haltedBy o0_course_outputs o0_course_losses o0_rows_e__sort o0_rows_e__size o0_rows_e_places) (some (.int r)) := by
  refine Ct.intro (cc := cX8_film) (maxL := 5) (ret := some .int) (by decide +kernel) rfl (Nat.le_of_ble_eq_true rfl) ?_
  intro p e s m ar below meth c A Q hx hb hr hml hown hlocks hts hK hZ hA hQ hP hD hS ls hl
  have hown : s.vm.findClass RX8 = some m.cls := hown
  have hinX2 : ∀ w ∈ wsX20, w ∈ wsX8_film := fun _ h => List.mem_cons_of_mem _ (List.mem_append_left _ (List.mem_append_left _ (List.mem_append_right _ (h))))
  have hinX8 : ∀ w ∈ wsX80, w ∈ wsX8_film := fun _ h => List.mem_cons_of_mem _ (List.mem_append_left _ (List.mem_append_left _ (List.mem_append_left _ (List.mem_append_right _ (h)))))
  have hl : lv_has ls 5 [(0, .ref h0), (1, .int x1), (2, .int x2), (3, .int x3)] := hl
  have hP : va_P G vwCl (wm_X8_followInThought cA h0 h0_filter h0_filter_numbers h0_filter_words h0_trial h0_trial_numbers h0_trial_words h0_course h0_course_outputs h0_course_losses h0_rows h0_rows_e h0_rows_e_places h0_kept h0_ways h0_spread h0_changes h0_tape h0_bodies h0_causes s0__hasImage s0__hasCauses s0__stepsDone s0_filter__all s0_filter__v s0_filter__loss s0_filter__result s0_filter__over s0_filter__heldAll s0_filter__heldRounded s0_filter_numbers s0_filter_words s0_trial__all s0_trial__v s0_trial__loss s0_trial__result s0_trial__over s0_trial__heldAll s0_trial__heldRounded s0_trial_numbers s0_trial_words s0_course__length s0_course__overs s0_course__halted s0_course__haltedBy s0_course_outputs s0_course_losses s0_rows_e__sort s0_rows_e__size s0_rows_e_places) s.heap := hP
  have hD : va_D A (wm_X8_followInThought cA h0 h0_filter h0_filter_numbers h0_filter_words h0_trial h0_trial_numbers h0_trial_words h0_course h0_course_outputs h0_course_losses h0_rows h0_rows_e h0_rows_e_places h0_kept h0_ways h0_spread h0_changes h0_tape h0_bodies h0_causes s0__hasImage s0__hasCauses s0__stepsDone s0_filter__all s0_filter__v s0_filter__loss s0_filter__result s0_filter__over s0_filter__heldAll s0_filter__heldRounded s0_filter_numbers s0_filter_words s0_trial__all s0_trial__v s0_trial__loss s0_trial__result s0_trial__over s0_trial__heldAll s0_trial__heldRounded s0_trial_numbers s0_trial_words s0_course__length s0_course__overs s0_course__halted s0_course__haltedBy s0_course_outputs s0_course_losses s0_rows_e__sort s0_rows_e__size s0_rows_e_places) := hD
  have L_61 : ∀ (n : Nat) (y4 : Int32) (c0_trial__all : Int32) (c0_trial__v : Int32) (c0_trial__loss : Int32) (c0_trial__result : Int32) (c0_trial__over : Int32) (c0_trial__heldAll : Int32) (c0_trial__heldRounded : Int32) (c0_trial_numbers : Nat → Int32) (c0_trial_words : Nat → Int32) (c0_course__length : Int32) (c0_course__overs : Int32) (c0_course__halted : Int32) (c0_course__haltedBy : Int32) (c0_course_outputs : Nat → Int32) (c0_course_losses : Nat → Int32) (c0_rows_e__sort : Nat → Int32) (c0_rows_e__size : Nat → Int32) (c0_rows_e_places : Nat → Nat → Int64) (p0_0 : Nat → Nat → Int64) (H : Heap) (locs : List Loc) (ls : Array Slot), va_P G vwCl (wm_X8_followInThought cA h0 h0_filter h0_filter_numbers h0_filter_words h0_trial h0_trial_numbers h0_trial_words h0_course h0_course_outputs h0_course_losses h0_rows h0_rows_e h0_rows_e_places h0_kept h0_ways h0_spread h0_changes h0_tape h0_bodies h0_causes s0__hasImage s0__hasCauses s0__stepsDone s0_filter__all s0_filter__v s0_filter__loss s0_filter__result s0_filter__over s0_filter__heldAll s0_filter__heldRounded s0_filter_numbers s0_filter_words c0_trial__all c0_trial__v c0_trial__loss c0_trial__result c0_trial__over c0_trial__heldAll c0_trial__heldRounded c0_trial_numbers c0_trial_words c0_course__length c0_course__overs c0_course__halted c0_course__haltedBy c0_course_outputs c0_course_losses c0_rows_e__sort c0_rows_e__size c0_rows_e_places) H → va_D A (wm_X8_followInThought cA h0 h0_filter h0_filter_numbers h0_filter_words h0_trial h0_trial_numbers h0_trial_words h0_course h0_course_outputs h0_course_losses h0_rows h0_rows_e h0_rows_e_places h0_kept h0_ways h0_spread h0_changes h0_tape h0_bodies h0_causes s0__hasImage s0__hasCauses s0__stepsDone s0_filter__all s0_filter__v s0_filter__loss s0_filter__result s0_filter__over s0_filter__heldAll s0_filter__heldRounded s0_filter_numbers s0_filter_words c0_trial__all c0_trial__v c0_trial__loss c0_trial__result c0_trial__over c0_trial__heldAll c0_trial__heldRounded c0_trial_numbers c0_trial_words c0_course__length c0_course__overs c0_course__halted c0_course__haltedBy c0_course_outputs c0_course_losses c0_rows_e__sort c0_rows_e__size c0_rows_e_places) → va_S A s.heap H locs → lv_has ls 5 [(0, .ref h0), (1, .int x1), (4, .int y4)] → fX8_film_L61 x1 x2 x3 s0_filter_numbers s0_filter_words n y4 c0_trial__all c0_trial__v c0_trial__loss c0_trial__result c0_trial__over c0_trial__heldAll c0_trial__heldRounded c0_trial_numbers c0_trial_words c0_course__length c0_course__overs c0_course__halted c0_course__haltedBy c0_course_outputs c0_course_losses c0_rows_e__sort c0_rows_e__size c0_rows_e_places = some p0_0 → (∀ (H : Heap) (locs : List Loc) (ls : Array Slot), va_P G vwCl (wm_X8_followInThought cA h0 h0_filter h0_filter_numbers h0_filter_words h0_trial h0_trial_numbers h0_trial_words h0_course h0_course_outputs h0_course_losses h0_rows h0_rows_e h0_rows_e_places h0_kept h0_ways h0_spread h0_changes h0_tape h0_bodies h0_causes s0__hasImage s0__hasCauses s0__stepsDone s0_filter__all s0_filter__v s0_filter__loss s0_filter__result s0_filter__over s0_filter__heldAll s0_filter__heldRounded s0_filter_numbers s0_filter_words c0_trial__all c0_trial__v c0_trial__loss c0_trial__result c0_trial__over c0_trial__heldAll c0_trial__heldRounded c0_trial_numbers c0_trial_words c0_course__length c0_course__overs c0_course__halted c0_course__haltedBy c0_course_outputs c0_course_losses c0_rows_e__sort c0_rows_e__size p0_0) H → va_D A (wm_X8_followInThought cA h0 h0_filter h0_filter_numbers h0_filter_words h0_trial h0_trial_numbers h0_trial_words h0_course h0_course_outputs h0_course_losses h0_rows h0_rows_e h0_rows_e_places h0_kept h0_ways h0_spread h0_changes h0_tape h0_bodies h0_causes s0__hasImage s0__hasCauses s0__stepsDone s0_filter__all s0_filter__v s0_filter__loss s0_filter__result s0_filter__over s0_filter__heldAll s0_filter__heldRounded s0_filter_numbers s0_filter_words c0_trial__all c0_trial__v c0_trial__loss c0_trial__result c0_trial__over c0_trial__heldAll c0_trial__heldRounded c0_trial_numbers c0_trial_words c0_course__length c0_course__overs c0_course__halted c0_course__haltedBy c0_course_outputs c0_course_losses c0_rows_e__sort c0_rows_e__size p0_0) → va_S A s.heap H locs → lv_has ls 5 [(0, .ref h0)] → W p l e (rmX 7 170) s m ar below meth c H locs 0 0 Q (F0 m 108 ls [])) → W p l e (rmX 7 170) s m ar below meth c H locs 0 0 Q (F0 m 61 ls []) := by
    intro n
    induction n with
    | zero =>
      intro y4 c0_trial__all c0_trial__v c0_trial__loss c0_trial__result c0_trial__over c0_trial__heldAll c0_trial__heldRounded c0_trial_numbers c0_trial_words c0_course__length c0_course__overs c0_course__halted c0_course__haltedBy c0_course_outputs c0_course_losses c0_rows_e__sort c0_rows_e__size c0_rows_e_places p0_0 H locs ls hP hD hS hl hok
      rw [fX8_film_L61] at hok
      cases hok
    | succ n ih =>
      intro y4 c0_trial__all c0_trial__v c0_trial__loss c0_trial__result c0_trial__over c0_trial__heldAll c0_trial__heldRounded c0_trial_numbers c0_trial_words c0_course__length c0_course__overs c0_course__halted c0_course__haltedBy c0_course_outputs c0_course_losses c0_rows_e__sort c0_rows_e__size c0_rows_e_places p0_0 H locs ls hP hD hS hl hok K
      rw [fX8_film_L61] at hok
      refine lv_iload hx hb dX8_film_61 (lv_at hl 2 rfl) ?_
      refine lv_aload_n hx hb dX8_film_63 rfl (lv_at hl 0 rfl) ?_
      refine va_get (ci := 8) (v := .ref h0_course) (C := RX8) (T := TX8) (N := 14) hx hb hts hinX8 hown hK hP 0 rfl rfl 6 (by decide) (hts _ (List.mem_of_getElem? (i := 2) rfl)) (fun _ h9 => h9) rfl dX8_film_64 ?_
      refine va_get (ci := 2) (v := .int c0_course__length) (C := RX2) (T := TX2) (N := 6) hx hb hts hinX2 hown hK hP 7 rfl rfl 2 (by decide) (hts _ (List.mem_of_getElem? (i := 3) rfl)) (fun _ h9 => h9) rfl dX8_film_67 ?_
      refine lv_icmp_ge (tgt := 108) hx hb dX8_film_70 (by decide) (fun c => ?_) (fun c => ?_)
      · replace hok := g_pos hok c
        cases hok
        exact K _ _ _ hP hD hS (lv_sub hl [0] rfl)
      replace hok := g_neg hok c
      refine lv_iload hx hb dX8_film_73 (lv_at hl 2 rfl) ?_
      refine lv_bipush (v := 40) hx hb dX8_film_75 (by decide) ?_
      refine lv_icmp_ge (tgt := 108) hx hb dX8_film_77 (by decide) (fun c => ?_) (fun c => ?_)
      · replace hok := g_pos hok c
        cases hok
        exact K _ _ _ hP hD hS (lv_sub hl [0] rfl)
      replace hok := g_neg hok c
      refine lv_aload_n hx hb dX8_film_80 rfl (lv_at hl 0 rfl) ?_
      refine va_get (ci := 8) (v := .ref h0_rows) (C := RX8) (T := TX8) (N := 14) hx hb hts hinX8 hown hK hP 0 rfl rfl 7 (by decide) (hts _ (List.mem_of_getElem? (i := 1) rfl)) (fun _ h9 => h9) rfl dX8_film_81 ?_
      refine lv_iload_n hx hb dX8_film_84 rfl (lv_at hl 1 rfl) ?_
      obtain ⟨hin23, hok⟩ := g_no hok
      refine va_aldq hx hb hK hP 10 4 rfl rfl hin23 dX8_film_85 ?_
      refine W.eq (congrArg (fun z => F0 m 86 ls (z :: [])) (rf_at (Nat.not_le.mp fun q => hin23 (Or.inr q)))) ?_
      refine lv_iload hx hb dX8_film_86 (lv_at hl 2 rfl) ?_
      refine lv_aload_n hx hb dX8_film_88 rfl (lv_at hl 0 rfl) ?_
      refine va_get (ci := 8) (v := .ref h0_course) (C := RX8) (T := TX8) (N := 14) hx hb hts hinX8 hown hK hP 0 rfl rfl 6 (by decide) (hts _ (List.mem_of_getElem? (i := 2) rfl)) (fun _ h9 => h9) rfl dX8_film_89 ?_
      refine va_get (ci := 2) (v := .ref h0_course_outputs) (C := RX2) (T := TX2) (N := 6) hx hb hts hinX2 hown hK hP 7 rfl rfl 0 (by decide) (hts _ (List.mem_of_getElem? (i := 4) rfl)) (fun _ h9 => h9) rfl dX8_film_92 ?_
      refine lv_iload hx hb dX8_film_95 (lv_at hl 2 rfl) ?_
      obtain ⟨hin, hok⟩ := g_no hok
      refine x_iald (k := y4.toNatClampNeg) hx hb hK hP 8 0 rfl rfl hin rfl dX8_film_97 ?_
      refine lv_i2l (v := ((c0_course_outputs y4.toNatClampNeg).toInt64)) hx hb dX8_film_98 rfl ?_
      obtain ⟨o24, hq, hok⟩ := g_bnd1 hok
      refine cG (is := [11 + 2 * x1.toNatClampNeg, 12 + 2 * x1.toNatClampNeg]) (wc := (wm_X4_inputAt cA (h0_rows_e x1.toNatClampNeg) (h0_rows_e_places x1.toNatClampNeg) (c0_rows_e__sort x1.toNatClampNeg) (c0_rows_e__size x1.toNatClampNeg) (c0_rows_e_places x1.toNatClampNeg))) (w1 := (wm_X4_inputAt cA (h0_rows_e x1.toNatClampNeg) (h0_rows_e_places x1.toNatClampNeg) (c0_rows_e__sort x1.toNatClampNeg) (c0_rows_e__size x1.toNatClampNeg) o24)) (rv := none) (st1 := []) (va_runV (Ts := wsX8_film) (As := [.int y4, .long ((c0_course_outputs y4.toNatClampNeg).toInt64)]) (rest := []) ⟨hx, hb, hml, hown, hts⟩ (c_X4_store l G cA ts (h0_rows_e x1.toNatClampNeg) (h0_rows_e_places x1.toNatClampNeg) y4 ((c0_course_outputs y4.toNatClampNeg).toInt64) (c0_rows_e__sort x1.toNatClampNeg) (c0_rows_e__size x1.toNatClampNeg) (c0_rows_e_places x1.toNatClampNeg) o24 hq H.size) (cwV 2 hts gX8_film_X4_store rfl rfl rfl (by decide +kernel) ⟨Nat.le_of_ble_eq_true rfl, Nat.le_of_ble_eq_true rfl⟩) (pre_V (fs := [.ref (h0_rows_e_places x1.toNatClampNeg), .int (c0_rows_e__sort x1.toNatClampNeg), .int (c0_rows_e__size x1.toNatClampNeg)]) (ci := 4) (q0 := (11 + 2 * x1.toNatClampNeg)) (is := [11 + 2 * x1.toNatClampNeg, 12 + 2 * x1.toNatClampNeg]) rfl (by rcases lt4 (Nat.not_le.mp fun q => hin23 (Or.inr q)) with e | e | e | e <;> rw [e] <;> rfl) hP hD hS hA hK hZ (by rcases lt4 (Nat.not_le.mp fun q => hin23 (Or.inr q)) with e | e | e | e <;> rw [e] <;> rfl) (by rcases lt4 (Nat.not_le.mp fun q => hin23 (Or.inr q)) with e | e | e | e <;> rw [e] <;> rfl)) rfl rfl hl.1 rfl (by exact lv_room (Nat.le_of_ble_eq_true rfl)) dX8_film_99 ⟨Nat.le_refl _, Nat.le_refl _⟩) hP hD hS hA (by rcases lt4 (Nat.not_le.mp fun q => hin23 (Or.inr q)) with e | e | e | e <;> rw [e] <;> rfl) (by rcases lt4 (Nat.not_le.mp fun q => hin23 (Or.inr q)) with e | e | e | e <;> rw [e] <;> rfl) (by rfl) rfl (fun H locs hP hD hS => ?_)
      obtain ⟨hP, hD⟩ : va_P G vwCl (wm_X8_followInThought cA h0 h0_filter h0_filter_numbers h0_filter_words h0_trial h0_trial_numbers h0_trial_words h0_course h0_course_outputs h0_course_losses h0_rows h0_rows_e h0_rows_e_places h0_kept h0_ways h0_spread h0_changes h0_tape h0_bodies h0_causes s0__hasImage s0__hasCauses s0__stepsDone s0_filter__all s0_filter__v s0_filter__loss s0_filter__result s0_filter__over s0_filter__heldAll s0_filter__heldRounded s0_filter_numbers s0_filter_words c0_trial__all c0_trial__v c0_trial__loss c0_trial__result c0_trial__over c0_trial__heldAll c0_trial__heldRounded c0_trial_numbers c0_trial_words c0_course__length c0_course__overs c0_course__halted c0_course__haltedBy c0_course_outputs c0_course_losses c0_rows_e__sort c0_rows_e__size (va_up c0_rows_e_places x1.toNatClampNeg o24)) H ∧ va_D A (wm_X8_followInThought cA h0 h0_filter h0_filter_numbers h0_filter_words h0_trial h0_trial_numbers h0_trial_words h0_course h0_course_outputs h0_course_losses h0_rows h0_rows_e h0_rows_e_places h0_kept h0_ways h0_spread h0_changes h0_tape h0_bodies h0_causes s0__hasImage s0__hasCauses s0__stepsDone s0_filter__all s0_filter__v s0_filter__loss s0_filter__result s0_filter__over s0_filter__heldAll s0_filter__heldRounded s0_filter_numbers s0_filter_words c0_trial__all c0_trial__v c0_trial__loss c0_trial__result c0_trial__over c0_trial__heldAll c0_trial__heldRounded c0_trial_numbers c0_trial_words c0_course__length c0_course__overs c0_course__halted c0_course__haltedBy c0_course_outputs c0_course_losses c0_rows_e__sort c0_rows_e__size (va_up c0_rows_e_places x1.toNatClampNeg o24)) := PD_eq hP hD (by rcases lt4 (Nat.not_le.mp fun q => hin23 (Or.inr q)) with e | e | e | e <;> rw [e] <;> rfl)
      refine lv_iinc (v := (y4 + 1)) (lv' := [(4, .int (y4 + 1)), (0, .ref h0), (1, .int x1)]) hx hb dX8_film_102 hl (k := 2) rfl rfl (by decide) rfl (fun ls hl => ?_)
      refine lv_goto (tgt := 61) hx hb dX8_film_105 (by decide) ?_
      exact ih (y4 + 1) c0_trial__all c0_trial__v c0_trial__loss c0_trial__result c0_trial__over c0_trial__heldAll c0_trial__heldRounded c0_trial_numbers c0_trial_words c0_course__length c0_course__overs c0_course__halted c0_course__haltedBy c0_course_outputs c0_course_losses c0_rows_e__sort c0_rows_e__size (va_up c0_rows_e_places x1.toNatClampNeg o24) p0_0 _ _ _ hP hD hS (lv_sub hl [1, 2, 0] rfl) hok K
  unfold fX8_film at hok
  refine lv_iload_n hx hb dX8_film_0 rfl (lv_at hl 1 rfl) ?_
  obtain ⟨r1, hq, hok⟩ := g_bnd1 hok
  refine cG (is := []) (wc := (wm_X0_find cA)) (w1 := (wm_X0_find cA)) (rv := (some (.int r1))) (st1 := [.int r1]) (va_runS (Ts := wsX8_film) (As := [.int x1]) (rest := []) ⟨hx, hb, hml, hown, hts⟩ (c_X8_isRow l G cA ts x1 r1 hq s.heap.size) (va_cwS 1 hts gX8_film_X8_isRow rfl rfl rfl (by decide +kernel) ⟨Nat.le_of_ble_eq_true rfl, Nat.le_of_ble_eq_true rfl⟩) (pre_S (is := []) hP hD hS hA hK hZ (by decide +kernel) (by rfl)) rfl rfl hl.1 rfl (by exact lv_room (Nat.le_of_ble_eq_true rfl)) dX8_film_1 ⟨Nat.le_refl _, Nat.le_refl _⟩) hP hD hS hA (by decide +kernel) (by rfl) (by rfl) rfl (fun H locs hP hD hS => ?_)
  have hP : va_P G vwCl (wm_X8_followInThought cA h0 h0_filter h0_filter_numbers h0_filter_words h0_trial h0_trial_numbers h0_trial_words h0_course h0_course_outputs h0_course_losses h0_rows h0_rows_e h0_rows_e_places h0_kept h0_ways h0_spread h0_changes h0_tape h0_bodies h0_causes s0__hasImage s0__hasCauses s0__stepsDone s0_filter__all s0_filter__v s0_filter__loss s0_filter__result s0_filter__over s0_filter__heldAll s0_filter__heldRounded s0_filter_numbers s0_filter_words s0_trial__all s0_trial__v s0_trial__loss s0_trial__result s0_trial__over s0_trial__heldAll s0_trial__heldRounded s0_trial_numbers s0_trial_words s0_course__length s0_course__overs s0_course__halted s0_course__haltedBy s0_course_outputs s0_course_losses s0_rows_e__sort s0_rows_e__size s0_rows_e_places) H := hP
  have hD : va_D A (wm_X8_followInThought cA h0 h0_filter h0_filter_numbers h0_filter_words h0_trial h0_trial_numbers h0_trial_words h0_course h0_course_outputs h0_course_losses h0_rows h0_rows_e h0_rows_e_places h0_kept h0_ways h0_spread h0_changes h0_tape h0_bodies h0_causes s0__hasImage s0__hasCauses s0__stepsDone s0_filter__all s0_filter__v s0_filter__loss s0_filter__result s0_filter__over s0_filter__heldAll s0_filter__heldRounded s0_filter_numbers s0_filter_words s0_trial__all s0_trial__v s0_trial__loss s0_trial__result s0_trial__over s0_trial__heldAll s0_trial__heldRounded s0_trial_numbers s0_trial_words s0_course__length s0_course__overs s0_course__halted s0_course__haltedBy s0_course_outputs s0_course_losses s0_rows_e__sort s0_rows_e__size s0_rows_e_places) := hD
  refine lv_if_eq (tgt := 23) hx hb dX8_film_4 (by decide) (fun c => ?_) (fun c => ?_)
  · replace hok := g_pos hok c
    refine lv_iconst (v := -1) hx hb dX8_film_23 (by decide) ?_
    obtain ⟨e, hok⟩ := g_pr hok
    try subst e
    obtain ⟨e, hok⟩ := g_pr hok
    try subst e
    obtain ⟨e, hok⟩ := g_pr hok
    try subst e
    obtain ⟨e, hok⟩ := g_pr hok
    try subst e
    obtain ⟨e, hok⟩ := g_pr hok
    try subst e
    obtain ⟨e, hok⟩ := g_pr hok
    try subst e
    obtain ⟨e, hok⟩ := g_pr hok
    try subst e
    obtain ⟨e, hok⟩ := g_pr hok
    try subst e
    obtain ⟨e, hok⟩ := g_pr hok
    try subst e
    obtain ⟨e, hok⟩ := g_pr hok
    try subst e
    obtain ⟨e, hok⟩ := g_pr hok
    try subst e
    obtain ⟨e, hok⟩ := g_pr hok
    try subst e
    obtain ⟨e, hok⟩ := g_pr hok
    try subst e
    obtain ⟨e, hok⟩ := g_pr hok
    try subst e
    obtain ⟨e, hok⟩ := g_pr hok
    try subst e
    obtain ⟨e, hok⟩ := g_pr hok
    try subst e
    obtain ⟨e, hok⟩ := g_pr hok
    try subst e
    obtain ⟨e, hok⟩ := g_pr hok
    try subst e
    cases hok
    exact cr_i hx hb hr hlocks hQ dX8_film_24 hP hS
  replace hok := g_neg hok c
  refine lv_iload_n hx hb dX8_film_7 rfl (lv_at hl 3 rfl) ?_
  obtain ⟨r2, hq, hok⟩ := g_bnd1 hok
  refine cG (is := []) (wc := (wm_X0_find cA)) (w1 := (wm_X0_find cA)) (rv := (some (.int r2))) (st1 := [.int r2]) (va_runS (Ts := wsX8_film) (As := [.int x3]) (rest := []) ⟨hx, hb, hml, hown, hts⟩ (c_X8_isRow l G cA ts x3 r2 hq H.size) (va_cwS 1 hts gX8_film_X8_isRow rfl rfl rfl (by decide +kernel) ⟨Nat.le_of_ble_eq_true rfl, Nat.le_of_ble_eq_true rfl⟩) (pre_S (is := []) hP hD hS hA hK hZ (by decide +kernel) (by rfl)) rfl rfl hl.1 rfl (by exact lv_room (Nat.le_of_ble_eq_true rfl)) dX8_film_8 ⟨Nat.le_refl _, Nat.le_refl _⟩) hP hD hS hA (by decide +kernel) (by rfl) (by rfl) rfl (fun H locs hP hD hS => ?_)
  have hP : va_P G vwCl (wm_X8_followInThought cA h0 h0_filter h0_filter_numbers h0_filter_words h0_trial h0_trial_numbers h0_trial_words h0_course h0_course_outputs h0_course_losses h0_rows h0_rows_e h0_rows_e_places h0_kept h0_ways h0_spread h0_changes h0_tape h0_bodies h0_causes s0__hasImage s0__hasCauses s0__stepsDone s0_filter__all s0_filter__v s0_filter__loss s0_filter__result s0_filter__over s0_filter__heldAll s0_filter__heldRounded s0_filter_numbers s0_filter_words s0_trial__all s0_trial__v s0_trial__loss s0_trial__result s0_trial__over s0_trial__heldAll s0_trial__heldRounded s0_trial_numbers s0_trial_words s0_course__length s0_course__overs s0_course__halted s0_course__haltedBy s0_course_outputs s0_course_losses s0_rows_e__sort s0_rows_e__size s0_rows_e_places) H := hP
  have hD : va_D A (wm_X8_followInThought cA h0 h0_filter h0_filter_numbers h0_filter_words h0_trial h0_trial_numbers h0_trial_words h0_course h0_course_outputs h0_course_losses h0_rows h0_rows_e h0_rows_e_places h0_kept h0_ways h0_spread h0_changes h0_tape h0_bodies h0_causes s0__hasImage s0__hasCauses s0__stepsDone s0_filter__all s0_filter__v s0_filter__loss s0_filter__result s0_filter__over s0_filter__heldAll s0_filter__heldRounded s0_filter_numbers s0_filter_words s0_trial__all s0_trial__v s0_trial__loss s0_trial__result s0_trial__over s0_trial__heldAll s0_trial__heldRounded s0_trial_numbers s0_trial_words s0_course__length s0_course__overs s0_course__halted s0_course__haltedBy s0_course_outputs s0_course_losses s0_rows_e__sort s0_rows_e__size s0_rows_e_places) := hD
  refine lv_if_eq (tgt := 23) hx hb dX8_film_11 (by decide) (fun c => ?_) (fun c => ?_)
  · replace hok := g_pos hok c
    refine lv_iconst (v := -1) hx hb dX8_film_23 (by decide) ?_
    obtain ⟨e, hok⟩ := g_pr hok
    try subst e
    obtain ⟨e, hok⟩ := g_pr hok
    try subst e
    obtain ⟨e, hok⟩ := g_pr hok
    try subst e
    obtain ⟨e, hok⟩ := g_pr hok
    try subst e
    obtain ⟨e, hok⟩ := g_pr hok
    try subst e
    obtain ⟨e, hok⟩ := g_pr hok
    try subst e
    obtain ⟨e, hok⟩ := g_pr hok
    try subst e
    obtain ⟨e, hok⟩ := g_pr hok
    try subst e
    obtain ⟨e, hok⟩ := g_pr hok
    try subst e
    obtain ⟨e, hok⟩ := g_pr hok
    try subst e
    obtain ⟨e, hok⟩ := g_pr hok
    try subst e
    obtain ⟨e, hok⟩ := g_pr hok
    try subst e
    obtain ⟨e, hok⟩ := g_pr hok
    try subst e
    obtain ⟨e, hok⟩ := g_pr hok
    try subst e
    obtain ⟨e, hok⟩ := g_pr hok
    try subst e
    obtain ⟨e, hok⟩ := g_pr hok
    try subst e
    obtain ⟨e, hok⟩ := g_pr hok
    try subst e
    obtain ⟨e, hok⟩ := g_pr hok
    try subst e
    cases hok
    exact cr_i hx hb hr hlocks hQ dX8_film_24 hP hS
  replace hok := g_neg hok c
  refine lv_iload_n hx hb dX8_film_14 rfl (lv_at hl 2 rfl) ?_
  refine lv_if_lt (tgt := 23) hx hb dX8_film_15 (by decide) (fun c => ?_) (fun c => ?_)
  · replace hok := g_pos hok c
    refine lv_iconst (v := -1) hx hb dX8_film_23 (by decide) ?_
    obtain ⟨e, hok⟩ := g_pr hok
    try subst e
    obtain ⟨e, hok⟩ := g_pr hok
    try subst e
    obtain ⟨e, hok⟩ := g_pr hok
    try subst e
    obtain ⟨e, hok⟩ := g_pr hok
    try subst e
    obtain ⟨e, hok⟩ := g_pr hok
    try subst e
    obtain ⟨e, hok⟩ := g_pr hok
    try subst e
    obtain ⟨e, hok⟩ := g_pr hok
    try subst e
    obtain ⟨e, hok⟩ := g_pr hok
    try subst e
    obtain ⟨e, hok⟩ := g_pr hok
    try subst e
    obtain ⟨e, hok⟩ := g_pr hok
    try subst e
    obtain ⟨e, hok⟩ := g_pr hok
    try subst e
    obtain ⟨e, hok⟩ := g_pr hok
    try subst e
    obtain ⟨e, hok⟩ := g_pr hok
    try subst e
    obtain ⟨e, hok⟩ := g_pr hok
    try subst e
    obtain ⟨e, hok⟩ := g_pr hok
    try subst e
    obtain ⟨e, hok⟩ := g_pr hok
    try subst e
    obtain ⟨e, hok⟩ := g_pr hok
    try subst e
    obtain ⟨e, hok⟩ := g_pr hok
    try subst e
    cases hok
    exact cr_i hx hb hr hlocks hQ dX8_film_24 hP hS
  replace hok := g_neg hok c
  refine lv_iload_n hx hb dX8_film_18 rfl (lv_at hl 2 rfl) ?_
  refine lv_iconst (v := 2) hx hb dX8_film_19 (by decide) ?_
  refine lv_icmp_le (tgt := 25) hx hb dX8_film_20 (by decide) (fun c => ?_) (fun c => ?_)
  · replace hok := g_pos hok c
    refine lv_aload_n hx hb dX8_film_25 rfl (lv_at hl 0 rfl) ?_
    refine lv_iload_n hx hb dX8_film_26 rfl (lv_at hl 3 rfl) ?_
    obtain ⟨r3, hq, hok⟩ := g_bnd1 hok
    refine cG (is := [0, 10, 11, 13, 15, 17]) (wc := (wm_X8_isMissing cA h0 h0_rows h0_rows_e h0_filter h0_trial h0_kept h0_ways h0_spread h0_course h0_changes h0_tape h0_bodies h0_causes h0_rows_e_places s0__hasImage s0__hasCauses s0__stepsDone s0_rows_e__sort s0_rows_e__size)) (w1 := (wm_X8_isMissing cA h0 h0_rows h0_rows_e h0_filter h0_trial h0_kept h0_ways h0_spread h0_course h0_changes h0_tape h0_bodies h0_causes h0_rows_e_places s0__hasImage s0__hasCauses s0__stepsDone s0_rows_e__sort s0_rows_e__size)) (rv := (some (.int r3))) (st1 := [.int r3]) (va_runV (Ts := wsX8_film) (As := [.int x3]) (rest := []) ⟨hx, hb, hml, hown, hts⟩ (c_X8_isMissing l G cA ts h0 h0_rows h0_rows_e h0_filter h0_trial h0_kept h0_ways h0_spread h0_course h0_changes h0_tape h0_bodies h0_causes h0_rows_e_places x3 s0__hasImage s0__hasCauses s0__stepsDone s0_rows_e__sort s0_rows_e__size r3 hq H.size) (cwV 1 hts gX8_film_X8_isMissing rfl rfl rfl (by decide +kernel) ⟨Nat.le_of_ble_eq_true rfl, Nat.le_of_ble_eq_true rfl⟩) (pre_V (ci := 8) (q0 := 0) (is := [0, 10, 11, 13, 15, 17]) rfl rfl hP hD hS hA hK hZ (by decide +kernel) (by rfl)) rfl rfl hl.1 rfl (by exact lv_room (Nat.le_of_ble_eq_true rfl)) dX8_film_27 ⟨Nat.le_refl _, Nat.le_refl _⟩) hP hD hS hA (by decide +kernel) (by rfl) (by rfl) rfl (fun H locs hP hD hS => ?_)
    have hP : va_P G vwCl (wm_X8_followInThought cA h0 h0_filter h0_filter_numbers h0_filter_words h0_trial h0_trial_numbers h0_trial_words h0_course h0_course_outputs h0_course_losses h0_rows h0_rows_e h0_rows_e_places h0_kept h0_ways h0_spread h0_changes h0_tape h0_bodies h0_causes s0__hasImage s0__hasCauses s0__stepsDone s0_filter__all s0_filter__v s0_filter__loss s0_filter__result s0_filter__over s0_filter__heldAll s0_filter__heldRounded s0_filter_numbers s0_filter_words s0_trial__all s0_trial__v s0_trial__loss s0_trial__result s0_trial__over s0_trial__heldAll s0_trial__heldRounded s0_trial_numbers s0_trial_words s0_course__length s0_course__overs s0_course__halted s0_course__haltedBy s0_course_outputs s0_course_losses s0_rows_e__sort s0_rows_e__size s0_rows_e_places) H := hP
    have hD : va_D A (wm_X8_followInThought cA h0 h0_filter h0_filter_numbers h0_filter_words h0_trial h0_trial_numbers h0_trial_words h0_course h0_course_outputs h0_course_losses h0_rows h0_rows_e h0_rows_e_places h0_kept h0_ways h0_spread h0_changes h0_tape h0_bodies h0_causes s0__hasImage s0__hasCauses s0__stepsDone s0_filter__all s0_filter__v s0_filter__loss s0_filter__result s0_filter__over s0_filter__heldAll s0_filter__heldRounded s0_filter_numbers s0_filter_words s0_trial__all s0_trial__v s0_trial__loss s0_trial__result s0_trial__over s0_trial__heldAll s0_trial__heldRounded s0_trial_numbers s0_trial_words s0_course__length s0_course__overs s0_course__halted s0_course__haltedBy s0_course_outputs s0_course_losses s0_rows_e__sort s0_rows_e__size s0_rows_e_places) := hD
    refine lv_if_eq (tgt := 36) hx hb dX8_film_30 (by decide) (fun c => ?_) (fun c => ?_)
    · replace hok := g_pos hok c
      refine lv_aload_n hx hb dX8_film_36 rfl (lv_at hl 0 rfl) ?_
      refine lv_iload_n hx hb dX8_film_37 rfl (lv_at hl 3 rfl) ?_
      obtain ⟨o4, o5, o6, o7, o8, o9, o10, o11, o12, o13, o14, o15, o16, o17, o18, hq, hok⟩ := g_bnd15 hok
      refine cG (is := [0, 1, 2, 3, 4, 5, 6, 7, 8, 9, 10, 11, 12, 13, 14, 15, 16, 17, 18]) (wc := (wm_X8_followInThought cA h0 h0_filter h0_filter_numbers h0_filter_words h0_trial h0_trial_numbers h0_trial_words h0_course h0_course_outputs h0_course_losses h0_rows h0_rows_e h0_rows_e_places h0_kept h0_ways h0_spread h0_changes h0_tape h0_bodies h0_causes s0__hasImage s0__hasCauses s0__stepsDone s0_filter__all s0_filter__v s0_filter__loss s0_filter__result s0_filter__over s0_filter__heldAll s0_filter__heldRounded s0_filter_numbers s0_filter_words s0_trial__all s0_trial__v s0_trial__loss s0_trial__result s0_trial__over s0_trial__heldAll s0_trial__heldRounded s0_trial_numbers s0_trial_words s0_course__length s0_course__overs s0_course__halted s0_course__haltedBy s0_course_outputs s0_course_losses s0_rows_e__sort s0_rows_e__size s0_rows_e_places)) (w1 := (wm_X8_followInThought cA h0 h0_filter h0_filter_numbers h0_filter_words h0_trial h0_trial_numbers h0_trial_words h0_course h0_course_outputs h0_course_losses h0_rows h0_rows_e h0_rows_e_places h0_kept h0_ways h0_spread h0_changes h0_tape h0_bodies h0_causes s0__hasImage s0__hasCauses s0__stepsDone s0_filter__all s0_filter__v s0_filter__loss s0_filter__result s0_filter__over s0_filter__heldAll s0_filter__heldRounded s0_filter_numbers s0_filter_words o4 o5 o6 o7 o8 o9 o10 o11 o12 o13 o14 o15 o16 o17 o18 s0_rows_e__sort s0_rows_e__size s0_rows_e_places)) (rv := none) (st1 := []) (va_runV (Ts := wsX8_film) (As := [.int x3]) (rest := []) ⟨hx, hb, hml, hown, hts⟩ (c_X8_followInThought l G cA ts h0 h0_filter h0_filter_numbers h0_filter_words h0_trial h0_trial_numbers h0_trial_words h0_course h0_course_outputs h0_course_losses h0_rows h0_rows_e h0_rows_e_places h0_kept h0_ways h0_spread h0_changes h0_tape h0_bodies h0_causes x3 s0__hasImage s0__hasCauses s0__stepsDone s0_filter__all s0_filter__v s0_filter__loss s0_filter__result s0_filter__over s0_filter__heldAll s0_filter__heldRounded s0_filter_numbers s0_filter_words s0_trial__all s0_trial__v s0_trial__loss s0_trial__result s0_trial__over s0_trial__heldAll s0_trial__heldRounded s0_trial_numbers s0_trial_words s0_course__length s0_course__overs s0_course__halted s0_course__haltedBy s0_course_outputs s0_course_losses s0_rows_e__sort s0_rows_e__size s0_rows_e_places o4 o5 o6 o7 o8 o9 o10 o11 o12 o13 o14 o15 o16 o17 o18 hq H.size) (cwV 1 hts gX8_film_X8_followInThought rfl rfl rfl (by decide +kernel) ⟨Nat.le_of_ble_eq_true rfl, Nat.le_of_ble_eq_true rfl⟩) (pre_V (ci := 8) (q0 := 0) (is := [0, 1, 2, 3, 4, 5, 6, 7, 8, 9, 10, 11, 12, 13, 14, 15, 16, 17, 18]) rfl rfl hP hD hS hA hK hZ (by decide +kernel) (by rfl)) rfl rfl hl.1 rfl (by exact lv_room (Nat.le_of_ble_eq_true rfl)) dX8_film_38 ⟨Nat.le_refl _, Nat.le_refl _⟩) hP hD hS hA (by decide +kernel) (by rfl) (by rfl) rfl (fun H locs hP hD hS => ?_)
      obtain ⟨hP, hD⟩ : va_P G vwCl (wm_X8_followInThought cA h0 h0_filter h0_filter_numbers h0_filter_words h0_trial h0_trial_numbers h0_trial_words h0_course h0_course_outputs h0_course_losses h0_rows h0_rows_e h0_rows_e_places h0_kept h0_ways h0_spread h0_changes h0_tape h0_bodies h0_causes s0__hasImage s0__hasCauses s0__stepsDone s0_filter__all s0_filter__v s0_filter__loss s0_filter__result s0_filter__over s0_filter__heldAll s0_filter__heldRounded s0_filter_numbers s0_filter_words o4 o5 o6 o7 o8 o9 o10 o11 o12 o13 o14 o15 o16 o17 o18 s0_rows_e__sort s0_rows_e__size s0_rows_e_places) H ∧ va_D A (wm_X8_followInThought cA h0 h0_filter h0_filter_numbers h0_filter_words h0_trial h0_trial_numbers h0_trial_words h0_course h0_course_outputs h0_course_losses h0_rows h0_rows_e h0_rows_e_places h0_kept h0_ways h0_spread h0_changes h0_tape h0_bodies h0_causes s0__hasImage s0__hasCauses s0__stepsDone s0_filter__all s0_filter__v s0_filter__loss s0_filter__result s0_filter__over s0_filter__heldAll s0_filter__heldRounded s0_filter_numbers s0_filter_words o4 o5 o6 o7 o8 o9 o10 o11 o12 o13 o14 o15 o16 o17 o18 s0_rows_e__sort s0_rows_e__size s0_rows_e_places) := PD_eq hP hD (rp_eq (js := []) 19 (by decide +kernel) rfl rfl (by rfl) (by rfl) (by decide +kernel))
      refine lv_aload_n hx hb dX8_film_41 rfl (lv_at hl 0 rfl) ?_
      refine va_get (ci := 8) (v := .ref h0_rows) (C := RX8) (T := TX8) (N := 14) hx hb hts hinX8 hown hK hP 0 rfl rfl 7 (by decide) (hts _ (List.mem_of_getElem? (i := 1) rfl)) (fun _ h9 => h9) rfl dX8_film_42 ?_
      refine lv_iload_n hx hb dX8_film_45 rfl (lv_at hl 1 rfl) ?_
      obtain ⟨hin19, hok⟩ := g_no hok
      refine va_aldq hx hb hK hP 10 4 rfl rfl hin19 dX8_film_46 ?_
      refine W.eq (congrArg (fun z => F0 m 47 ls (z :: [])) (rf_at (Nat.not_le.mp fun q => hin19 (Or.inr q)))) ?_
      refine lv_iload_n hx hb dX8_film_47 rfl (lv_at hl 2 rfl) ?_
      refine lv_aload_n hx hb dX8_film_48 rfl (lv_at hl 0 rfl) ?_
      refine va_get (ci := 8) (v := .ref h0_course) (C := RX8) (T := TX8) (N := 14) hx hb hts hinX8 hown hK hP 0 rfl rfl 6 (by decide) (hts _ (List.mem_of_getElem? (i := 2) rfl)) (fun _ h9 => h9) rfl dX8_film_49 ?_
      refine va_get (ci := 2) (v := .int o13) (C := RX2) (T := TX2) (N := 6) hx hb hts hinX2 hown hK hP 7 rfl rfl 2 (by decide) (hts _ (List.mem_of_getElem? (i := 3) rfl)) (fun _ h9 => h9) rfl dX8_film_52 ?_
      obtain ⟨o20, o21, o22, hq, hok⟩ := g_bnd3 hok
      refine cG (is := [11 + 2 * x1.toNatClampNeg, 12 + 2 * x1.toNatClampNeg]) (wc := (wm_X4_inputAt cA (h0_rows_e x1.toNatClampNeg) (h0_rows_e_places x1.toNatClampNeg) (s0_rows_e__sort x1.toNatClampNeg) (s0_rows_e__size x1.toNatClampNeg) (s0_rows_e_places x1.toNatClampNeg))) (w1 := (wm_X4_inputAt cA (h0_rows_e x1.toNatClampNeg) (h0_rows_e_places x1.toNatClampNeg) o20 o21 o22)) (rv := none) (st1 := []) (va_runV (Ts := wsX8_film) (As := [.int x2, .int o13]) (rest := []) ⟨hx, hb, hml, hown, hts⟩ (c_X4_begin l G cA ts (h0_rows_e x1.toNatClampNeg) (h0_rows_e_places x1.toNatClampNeg) x2 o13 (s0_rows_e__sort x1.toNatClampNeg) (s0_rows_e__size x1.toNatClampNeg) (s0_rows_e_places x1.toNatClampNeg) o20 o21 o22 hq H.size) (cwV 2 hts gX8_film_X4_begin rfl rfl rfl (by decide +kernel) ⟨Nat.le_of_ble_eq_true rfl, Nat.le_of_ble_eq_true rfl⟩) (pre_V (fs := [.ref (h0_rows_e_places x1.toNatClampNeg), .int (s0_rows_e__sort x1.toNatClampNeg), .int (s0_rows_e__size x1.toNatClampNeg)]) (ci := 4) (q0 := (11 + 2 * x1.toNatClampNeg)) (is := [11 + 2 * x1.toNatClampNeg, 12 + 2 * x1.toNatClampNeg]) rfl (by rcases lt4 (Nat.not_le.mp fun q => hin19 (Or.inr q)) with e | e | e | e <;> rw [e] <;> rfl) hP hD hS hA hK hZ (by rcases lt4 (Nat.not_le.mp fun q => hin19 (Or.inr q)) with e | e | e | e <;> rw [e] <;> rfl) (by rcases lt4 (Nat.not_le.mp fun q => hin19 (Or.inr q)) with e | e | e | e <;> rw [e] <;> rfl)) rfl rfl hl.1 rfl (by exact lv_room (Nat.le_of_ble_eq_true rfl)) dX8_film_55 ⟨Nat.le_refl _, Nat.le_refl _⟩) hP hD hS hA (by rcases lt4 (Nat.not_le.mp fun q => hin19 (Or.inr q)) with e | e | e | e <;> rw [e] <;> rfl) (by rcases lt4 (Nat.not_le.mp fun q => hin19 (Or.inr q)) with e | e | e | e <;> rw [e] <;> rfl) (by rfl) rfl (fun H locs hP hD hS => ?_)
      obtain ⟨hP, hD⟩ : va_P G vwCl (wm_X8_followInThought cA h0 h0_filter h0_filter_numbers h0_filter_words h0_trial h0_trial_numbers h0_trial_words h0_course h0_course_outputs h0_course_losses h0_rows h0_rows_e h0_rows_e_places h0_kept h0_ways h0_spread h0_changes h0_tape h0_bodies h0_causes s0__hasImage s0__hasCauses s0__stepsDone s0_filter__all s0_filter__v s0_filter__loss s0_filter__result s0_filter__over s0_filter__heldAll s0_filter__heldRounded s0_filter_numbers s0_filter_words o4 o5 o6 o7 o8 o9 o10 o11 o12 o13 o14 o15 o16 o17 o18 (va_up s0_rows_e__sort x1.toNatClampNeg o20) (va_up s0_rows_e__size x1.toNatClampNeg o21) (va_up s0_rows_e_places x1.toNatClampNeg o22)) H ∧ va_D A (wm_X8_followInThought cA h0 h0_filter h0_filter_numbers h0_filter_words h0_trial h0_trial_numbers h0_trial_words h0_course h0_course_outputs h0_course_losses h0_rows h0_rows_e h0_rows_e_places h0_kept h0_ways h0_spread h0_changes h0_tape h0_bodies h0_causes s0__hasImage s0__hasCauses s0__stepsDone s0_filter__all s0_filter__v s0_filter__loss s0_filter__result s0_filter__over s0_filter__heldAll s0_filter__heldRounded s0_filter_numbers s0_filter_words o4 o5 o6 o7 o8 o9 o10 o11 o12 o13 o14 o15 o16 o17 o18 (va_up s0_rows_e__sort x1.toNatClampNeg o20) (va_up s0_rows_e__size x1.toNatClampNeg o21) (va_up s0_rows_e_places x1.toNatClampNeg o22)) := PD_eq hP hD (by rcases lt4 (Nat.not_le.mp fun q => hin19 (Or.inr q)) with e | e | e | e <;> rw [e] <;> rfl)
      refine lv_iconst (v := 0) hx hb dX8_film_58 (by decide) ?_
      refine lv_istore (lv' := [(4, .int (0:Int32)), (0, .ref h0), (1, .int x1), (2, .int x2), (3, .int x3)]) hx hb dX8_film_59 hl (by decide) rfl (fun ls hl => ?_)
      obtain ⟨o25, hq, hok⟩ := g_bnd1 hok
      refine L_61 FUEL (0:Int32) o4 o5 o6 o7 o8 o9 o10 o11 o12 o13 o14 o15 o16 o17 o18 (va_up s0_rows_e__sort x1.toNatClampNeg o20) (va_up s0_rows_e__size x1.toNatClampNeg o21) (va_up s0_rows_e_places x1.toNatClampNeg o22) o25 _ _ _ hP hD hS (lv_sub hl [1, 2, 0] rfl) hq (fun H locs ls hP hD hS hl => ?_)
      refine lv_aload_n hx hb dX8_film_108 rfl (lv_at hl 0 rfl) ?_
      refine va_get (ci := 8) (v := .ref h0_course) (C := RX8) (T := TX8) (N := 14) hx hb hts hinX8 hown hK hP 0 rfl rfl 6 (by decide) (hts _ (List.mem_of_getElem? (i := 2) rfl)) (fun _ h9 => h9) rfl dX8_film_109 ?_
      refine va_get (ci := 2) (v := .int o13) (C := RX2) (T := TX2) (N := 6) hx hb hts hinX2 hown hK hP 7 rfl rfl 2 (by decide) (hts _ (List.mem_of_getElem? (i := 3) rfl)) (fun _ h9 => h9) rfl dX8_film_112 ?_
      obtain ⟨e, hok⟩ := g_pr hok
      try subst e
      obtain ⟨e, hok⟩ := g_pr hok
      try subst e
      obtain ⟨e, hok⟩ := g_pr hok
      try subst e
      obtain ⟨e, hok⟩ := g_pr hok
      try subst e
      obtain ⟨e, hok⟩ := g_pr hok
      try subst e
      obtain ⟨e, hok⟩ := g_pr hok
      try subst e
      obtain ⟨e, hok⟩ := g_pr hok
      try subst e
      obtain ⟨e, hok⟩ := g_pr hok
      try subst e
      obtain ⟨e, hok⟩ := g_pr hok
      try subst e
      obtain ⟨e, hok⟩ := g_pr hok
      try subst e
      obtain ⟨e, hok⟩ := g_pr hok
      try subst e
      obtain ⟨e, hok⟩ := g_pr hok
      try subst e
      obtain ⟨e, hok⟩ := g_pr hok
      try subst e
      obtain ⟨e, hok⟩ := g_pr hok
      try subst e
      obtain ⟨e, hok⟩ := g_pr hok
      try subst e
      obtain ⟨e, hok⟩ := g_pr hok
      try subst e
      obtain ⟨e, hok⟩ := g_pr hok
      try subst e
      obtain ⟨e, hok⟩ := g_pr hok
      try subst e
      cases hok
      exact cr_i hx hb hr hlocks hQ dX8_film_115 hP hS
    replace hok := g_neg hok c
    refine lv_bipush (v := -11) hx hb dX8_film_33 (by decide) ?_
    obtain ⟨e, hok⟩ := g_pr hok
    try subst e
    obtain ⟨e, hok⟩ := g_pr hok
    try subst e
    obtain ⟨e, hok⟩ := g_pr hok
    try subst e
    obtain ⟨e, hok⟩ := g_pr hok
    try subst e
    obtain ⟨e, hok⟩ := g_pr hok
    try subst e
    obtain ⟨e, hok⟩ := g_pr hok
    try subst e
    obtain ⟨e, hok⟩ := g_pr hok
    try subst e
    obtain ⟨e, hok⟩ := g_pr hok
    try subst e
    obtain ⟨e, hok⟩ := g_pr hok
    try subst e
    obtain ⟨e, hok⟩ := g_pr hok
    try subst e
    obtain ⟨e, hok⟩ := g_pr hok
    try subst e
    obtain ⟨e, hok⟩ := g_pr hok
    try subst e
    obtain ⟨e, hok⟩ := g_pr hok
    try subst e
    obtain ⟨e, hok⟩ := g_pr hok
    try subst e
    obtain ⟨e, hok⟩ := g_pr hok
    try subst e
    obtain ⟨e, hok⟩ := g_pr hok
    try subst e
    obtain ⟨e, hok⟩ := g_pr hok
    try subst e
    obtain ⟨e, hok⟩ := g_pr hok
    try subst e
    cases hok
    exact cr_i hx hb hr hlocks hQ dX8_film_35 hP hS
  replace hok := g_neg hok c
  refine lv_iconst (v := -1) hx hb dX8_film_23 (by decide) ?_
  obtain ⟨e, hok⟩ := g_pr hok
  try subst e
  obtain ⟨e, hok⟩ := g_pr hok
  try subst e
  obtain ⟨e, hok⟩ := g_pr hok
  try subst e
  obtain ⟨e, hok⟩ := g_pr hok
  try subst e
  obtain ⟨e, hok⟩ := g_pr hok
  try subst e
  obtain ⟨e, hok⟩ := g_pr hok
  try subst e
  obtain ⟨e, hok⟩ := g_pr hok
  try subst e
  obtain ⟨e, hok⟩ := g_pr hok
  try subst e
  obtain ⟨e, hok⟩ := g_pr hok
  try subst e
  obtain ⟨e, hok⟩ := g_pr hok
  try subst e
  obtain ⟨e, hok⟩ := g_pr hok
  try subst e
  obtain ⟨e, hok⟩ := g_pr hok
  try subst e
  obtain ⟨e, hok⟩ := g_pr hok
  try subst e
  obtain ⟨e, hok⟩ := g_pr hok
  try subst e
  obtain ⟨e, hok⟩ := g_pr hok
  try subst e
  obtain ⟨e, hok⟩ := g_pr hok
  try subst e
  obtain ⟨e, hok⟩ := g_pr hok
  try subst e
  obtain ⟨e, hok⟩ := g_pr hok
  try subst e
  cases hok
  exact cr_i hx hb hr hlocks hQ dX8_film_24 hP hS
set_option maxHeartbeats 40000000 in
set_option maxRecDepth 100000 in
theorem c_X8_copy (l : Launch) (G : va_G) (cA : Nat → ClassId) (ts : Nat → Nat) (h0 : Nat) (h0_rows : Nat) (h0_rows_e : Nat → Nat) (h0_rows_e_places : Nat → Nat) (h0_filter : Nat) (h0_trial : Nat) (h0_kept : Nat) (h0_ways : Nat) (h0_spread : Nat) (h0_course : Nat) (h0_changes : Nat) (h0_tape : Nat) (h0_bodies : Nat) (h0_causes : Nat) (x1 : Int32) (x2 : Int32) (x3 : Int32) (x4 : Int32) (x5 : Int32) (s0__hasImage : Int32) (s0__hasCauses : Int32) (s0__stepsDone : Int32) (s0_rows_e__sort : Nat → Int32) (s0_rows_e__size : Nat → Int32) (s0_rows_e_places : Nat → Nat → Int64) (r : Int32) (o0_rows_e_places : Nat → Nat → Int64) (hok : fX8_copy x1 x2 x3 x4 x5 s0_rows_e__sort s0_rows_e__size s0_rows_e_places = some (r, o0_rows_e_places)) : Ct l G cA ts yX8_copy wsX8_copy 2 80 [.ref h0, .int x1, .int x2, .int x3, .int x4, .int x5] (wm_X8_row cA h0 h0_rows h0_rows_e h0_rows_e_places h0_filter h0_trial h0_kept h0_ways h0_spread h0_course h0_changes h0_tape h0_bodies h0_causes s0__hasImage s0__hasCauses s0__stepsDone s0_rows_e__sort s0_rows_e__size s0_rows_e_places) (wm_X8_row cA h0 h0_rows h0_rows_e h0_rows_e_places h0_filter h0_trial h0_kept h0_ways h0_spread h0_course h0_changes h0_tape h0_bodies h0_causes s0__hasImage s0__hasCauses s0__stepsDone s0_rows_e__sort s0_rows_e__size o0_rows_e_places) (some (.int r)) := by
  refine Ct.intro (cc := cX8_copy) (maxL := 8) (ret := some .int) (by decide +kernel) rfl (Nat.le_of_ble_eq_true rfl) ?_
  intro p e s m ar below meth c A Q hx hb hr hml hown hlocks hts hK hZ hA hQ hP hD hS ls hl
  have hown : s.vm.findClass RX8 = some m.cls := hown
  have hinX4 : ∀ w ∈ wsX40, w ∈ wsX8_copy := fun _ h => List.mem_cons_of_mem _ (List.mem_append_right _ (h))
  have hinX8 : ∀ w ∈ wsX80, w ∈ wsX8_copy := fun _ h => List.mem_cons_of_mem _ (List.mem_append_left _ (List.mem_append_right _ (h)))
  have hl : lv_has ls 8 [(0, .ref h0), (1, .int x1), (2, .int x2), (3, .int x3), (4, .int x4), (5, .int x5)] := hl
  have hP : va_P G vwCl (wm_X8_row cA h0 h0_rows h0_rows_e h0_rows_e_places h0_filter h0_trial h0_kept h0_ways h0_spread h0_course h0_changes h0_tape h0_bodies h0_causes s0__hasImage s0__hasCauses s0__stepsDone s0_rows_e__sort s0_rows_e__size s0_rows_e_places) s.heap := hP
  have hD : va_D A (wm_X8_row cA h0 h0_rows h0_rows_e h0_rows_e_places h0_filter h0_trial h0_kept h0_ways h0_spread h0_course h0_changes h0_tape h0_bodies h0_causes s0__hasImage s0__hasCauses s0__stepsDone s0_rows_e__sort s0_rows_e__size s0_rows_e_places) := hD
  unfold fX8_copy at hok
  refine lv_iload_n hx hb dX8_copy_0 rfl (lv_at hl 1 rfl) ?_
  obtain ⟨r1, hq, hok⟩ := g_bnd1 hok
  refine cG (is := []) (wc := (wm_X0_find cA)) (w1 := (wm_X0_find cA)) (rv := (some (.int r1))) (st1 := [.int r1]) (va_runS (Ts := wsX8_copy) (As := [.int x1]) (rest := []) ⟨hx, hb, hml, hown, hts⟩ (c_X8_isRow l G cA ts x1 r1 hq s.heap.size) (va_cwS 1 hts gX8_copy_X8_isRow rfl rfl rfl (by decide +kernel) ⟨Nat.le_of_ble_eq_true rfl, Nat.le_of_ble_eq_true rfl⟩) (pre_S (is := []) hP hD hS hA hK hZ (by decide +kernel) (by rfl)) rfl rfl hl.1 rfl (by exact lv_room (Nat.le_of_ble_eq_true rfl)) dX8_copy_1 ⟨Nat.le_refl _, Nat.le_refl _⟩) hP hD hS hA (by decide +kernel) (by rfl) (by rfl) rfl (fun H locs hP hD hS => ?_)
  have hP : va_P G vwCl (wm_X8_row cA h0 h0_rows h0_rows_e h0_rows_e_places h0_filter h0_trial h0_kept h0_ways h0_spread h0_course h0_changes h0_tape h0_bodies h0_causes s0__hasImage s0__hasCauses s0__stepsDone s0_rows_e__sort s0_rows_e__size s0_rows_e_places) H := hP
  have hD : va_D A (wm_X8_row cA h0 h0_rows h0_rows_e h0_rows_e_places h0_filter h0_trial h0_kept h0_ways h0_spread h0_course h0_changes h0_tape h0_bodies h0_causes s0__hasImage s0__hasCauses s0__stepsDone s0_rows_e__sort s0_rows_e__size s0_rows_e_places) := hD
  refine lv_if_eq (tgt := 14) hx hb dX8_copy_4 (by decide) (fun c => ?_) (fun c => ?_)
  · replace hok := g_pos hok c
    refine lv_iconst (v := -1) hx hb dX8_copy_14 (by decide) ?_
    cases hok
    exact cr_i hx hb hr hlocks hQ dX8_copy_15 hP hS
  replace hok := g_neg hok c
  refine lv_iload_n hx hb dX8_copy_7 rfl (lv_at hl 3 rfl) ?_
  obtain ⟨r2, hq, hok⟩ := g_bnd1 hok
  refine cG (is := []) (wc := (wm_X0_find cA)) (w1 := (wm_X0_find cA)) (rv := (some (.int r2))) (st1 := [.int r2]) (va_runS (Ts := wsX8_copy) (As := [.int x3]) (rest := []) ⟨hx, hb, hml, hown, hts⟩ (c_X8_isRow l G cA ts x3 r2 hq H.size) (va_cwS 1 hts gX8_copy_X8_isRow rfl rfl rfl (by decide +kernel) ⟨Nat.le_of_ble_eq_true rfl, Nat.le_of_ble_eq_true rfl⟩) (pre_S (is := []) hP hD hS hA hK hZ (by decide +kernel) (by rfl)) rfl rfl hl.1 rfl (by exact lv_room (Nat.le_of_ble_eq_true rfl)) dX8_copy_8 ⟨Nat.le_refl _, Nat.le_refl _⟩) hP hD hS hA (by decide +kernel) (by rfl) (by rfl) rfl (fun H locs hP hD hS => ?_)
  have hP : va_P G vwCl (wm_X8_row cA h0 h0_rows h0_rows_e h0_rows_e_places h0_filter h0_trial h0_kept h0_ways h0_spread h0_course h0_changes h0_tape h0_bodies h0_causes s0__hasImage s0__hasCauses s0__stepsDone s0_rows_e__sort s0_rows_e__size s0_rows_e_places) H := hP
  have hD : va_D A (wm_X8_row cA h0 h0_rows h0_rows_e h0_rows_e_places h0_filter h0_trial h0_kept h0_ways h0_spread h0_course h0_changes h0_tape h0_bodies h0_causes s0__hasImage s0__hasCauses s0__stepsDone s0_rows_e__sort s0_rows_e__size s0_rows_e_places) := hD
  refine lv_if_ne (tgt := 16) hx hb dX8_copy_11 (by decide) (fun c => ?_) (fun c => ?_)
  · replace hok := g_neg hok c
    refine lv_aload_n hx hb dX8_copy_16 rfl (lv_at hl 0 rfl) ?_
    refine va_get (ci := 8) (v := .ref h0_rows) (C := RX8) (T := TX8) (N := 14) hx hb hts hinX8 hown hK hP 0 rfl rfl 7 (by decide) (hts _ (List.mem_of_getElem? (i := 1) rfl)) (fun _ h9 => h9) rfl dX8_copy_17 ?_
    refine lv_iload_n hx hb dX8_copy_20 rfl (lv_at hl 1 rfl) ?_
    obtain ⟨hin3, hok⟩ := g_no hok
    refine va_aldq hx hb hK hP 1 4 rfl rfl hin3 dX8_copy_21 ?_
    refine W.eq (congrArg (fun z => F0 m 22 ls (z :: [])) (rf_at (Nat.not_le.mp fun q => hin3 (Or.inr q)))) ?_
    refine lv_astore (lv' := [(6, .ref (h0_rows_e x1.toNatClampNeg)), (0, .ref h0), (1, .int x1), (2, .int x2), (3, .int x3), (4, .int x4), (5, .int x5)]) hx hb dX8_copy_22 hl (by decide) rfl (fun ls hl => ?_)
    refine lv_aload_n hx hb dX8_copy_24 rfl (lv_at hl 1 rfl) ?_
    refine va_get (ci := 8) (v := .ref h0_rows) (C := RX8) (T := TX8) (N := 14) hx hb hts hinX8 hown hK hP 0 rfl rfl 7 (by decide) (hts _ (List.mem_of_getElem? (i := 1) rfl)) (fun _ h9 => h9) rfl dX8_copy_25 ?_
    refine lv_iload_n hx hb dX8_copy_28 rfl (lv_at hl 4 rfl) ?_
    obtain ⟨hin4, hok⟩ := g_no hok
    refine va_aldq hx hb hK hP 1 4 rfl rfl hin4 dX8_copy_29 ?_
    refine W.eq (congrArg (fun z => F0 m 30 ls (z :: [])) (rf_at (Nat.not_le.mp fun q => hin4 (Or.inr q)))) ?_
    refine lv_astore (lv' := [(7, .ref (h0_rows_e x3.toNatClampNeg)), (6, .ref (h0_rows_e x1.toNatClampNeg)), (0, .ref h0), (1, .int x1), (2, .int x2), (3, .int x3), (4, .int x4), (5, .int x5)]) hx hb dX8_copy_30 hl (by decide) rfl (fun ls hl => ?_)
    refine lv_aload hx hb dX8_copy_32 (lv_at hl 1 rfl) ?_
    refine va_get (fs := [.ref (h0_rows_e_places x1.toNatClampNeg), .int (s0_rows_e__sort x1.toNatClampNeg), .int (s0_rows_e__size x1.toNatClampNeg)]) (ci := 4) (v := .int (s0_rows_e__sort x1.toNatClampNeg)) (C := RX4) (T := TX4) (N := 3) hx hb hts hinX4 hown hK hP (2 + 2 * x1.toNatClampNeg) (by rcases lt4 (Nat.not_le.mp fun q => hin3 (Or.inr q)) with e | e | e | e <;> rw [e] <;> rfl) rfl 1 (by decide) (hts _ (List.mem_of_getElem? (i := 2) rfl)) (fun _ h9 => h9) rfl dX8_copy_34 ?_
    refine lv_if_lt (tgt := 48) hx hb dX8_copy_37 (by decide) (fun c => ?_) (fun c => ?_)
    · replace hok := g_pos hok c
      refine lv_bipush (v := -11) hx hb dX8_copy_48 (by decide) ?_
      cases hok
      exact cr_i hx hb hr hlocks hQ dX8_copy_50 hP hS
    replace hok := g_neg hok c
    refine lv_aload hx hb dX8_copy_40 (lv_at hl 0 rfl) ?_
    refine va_get (fs := [.ref (h0_rows_e_places x3.toNatClampNeg), .int (s0_rows_e__sort x3.toNatClampNeg), .int (s0_rows_e__size x3.toNatClampNeg)]) (ci := 4) (v := .int (s0_rows_e__sort x3.toNatClampNeg)) (C := RX4) (T := TX4) (N := 3) hx hb hts hinX4 hown hK hP (2 + 2 * x3.toNatClampNeg) (by rcases lt4 (Nat.not_le.mp fun q => hin4 (Or.inr q)) with e | e | e | e <;> rw [e] <;> rfl) rfl 1 (by decide) (hts _ (List.mem_of_getElem? (i := 2) rfl)) (fun _ h9 => h9) rfl dX8_copy_42 ?_
    refine lv_if_ge (tgt := 51) hx hb dX8_copy_45 (by decide) (fun c => ?_) (fun c => ?_)
    · replace hok := g_pos hok c
      refine lv_aload hx hb dX8_copy_51 (lv_at hl 1 rfl) ?_
      refine va_get (fs := [.ref (h0_rows_e_places x1.toNatClampNeg), .int (s0_rows_e__sort x1.toNatClampNeg), .int (s0_rows_e__size x1.toNatClampNeg)]) (ci := 4) (v := .int (s0_rows_e__sort x1.toNatClampNeg)) (C := RX4) (T := TX4) (N := 3) hx hb hts hinX4 hown hK hP (2 + 2 * x1.toNatClampNeg) (by rcases lt4 (Nat.not_le.mp fun q => hin3 (Or.inr q)) with e | e | e | e <;> rw [e] <;> rfl) rfl 1 (by decide) (hts _ (List.mem_of_getElem? (i := 2) rfl)) (fun _ h9 => h9) rfl dX8_copy_53 ?_
      refine lv_aload hx hb dX8_copy_56 (lv_at hl 0 rfl) ?_
      refine va_get (fs := [.ref (h0_rows_e_places x3.toNatClampNeg), .int (s0_rows_e__sort x3.toNatClampNeg), .int (s0_rows_e__size x3.toNatClampNeg)]) (ci := 4) (v := .int (s0_rows_e__sort x3.toNatClampNeg)) (C := RX4) (T := TX4) (N := 3) hx hb hts hinX4 hown hK hP (2 + 2 * x3.toNatClampNeg) (by rcases lt4 (Nat.not_le.mp fun q => hin4 (Or.inr q)) with e | e | e | e <;> rw [e] <;> rfl) rfl 1 (by decide) (hts _ (List.mem_of_getElem? (i := 2) rfl)) (fun _ h9 => h9) rfl dX8_copy_58 ?_
      refine lv_icmp_eq (tgt := 67) hx hb dX8_copy_61 (by decide) (fun c => ?_) (fun c => ?_)
      · replace hok := g_pos hok c
        refine lv_iload hx hb dX8_copy_67 (lv_at hl 7 rfl) ?_
        refine lv_if_lt (tgt := 126) hx hb dX8_copy_69 (by decide) (fun c => ?_) (fun c => ?_)
        · replace hok := g_pos hok c
          refine lv_bipush (v := -13) hx hb dX8_copy_126 (by decide) ?_
          cases hok
          exact cr_i hx hb hr hlocks hQ dX8_copy_128 hP hS
        replace hok := g_neg hok c
        refine lv_iload_n hx hb dX8_copy_72 rfl (lv_at hl 4 rfl) ?_
        refine lv_if_lt (tgt := 126) hx hb dX8_copy_73 (by decide) (fun c => ?_) (fun c => ?_)
        · replace hok := g_pos hok c
          refine lv_bipush (v := -13) hx hb dX8_copy_126 (by decide) ?_
          cases hok
          exact cr_i hx hb hr hlocks hQ dX8_copy_128 hP hS
        replace hok := g_neg hok c
        refine lv_iload hx hb dX8_copy_76 (lv_at hl 6 rfl) ?_
        refine lv_if_lt (tgt := 126) hx hb dX8_copy_78 (by decide) (fun c => ?_) (fun c => ?_)
        · replace hok := g_pos hok c
          refine lv_bipush (v := -13) hx hb dX8_copy_126 (by decide) ?_
          cases hok
          exact cr_i hx hb hr hlocks hQ dX8_copy_128 hP hS
        replace hok := g_neg hok c
        refine lv_iload hx hb dX8_copy_81 (lv_at hl 7 rfl) ?_
        refine lv_aload hx hb dX8_copy_83 (lv_at hl 1 rfl) ?_
        refine va_get (fs := [.ref (h0_rows_e_places x1.toNatClampNeg), .int (s0_rows_e__sort x1.toNatClampNeg), .int (s0_rows_e__size x1.toNatClampNeg)]) (ci := 4) (v := .int (s0_rows_e__size x1.toNatClampNeg)) (C := RX4) (T := TX4) (N := 3) hx hb hts hinX4 hown hK hP (2 + 2 * x1.toNatClampNeg) (by rcases lt4 (Nat.not_le.mp fun q => hin3 (Or.inr q)) with e | e | e | e <;> rw [e] <;> rfl) rfl 2 (by decide) (hts _ (List.mem_of_getElem? (i := 3) rfl)) (fun _ h9 => h9) rfl dX8_copy_85 ?_
        refine lv_icmp_gt (tgt := 126) hx hb dX8_copy_88 (by decide) (fun c => ?_) (fun c => ?_)
        · replace hok := g_pos hok c
          refine lv_bipush (v := -13) hx hb dX8_copy_126 (by decide) ?_
          cases hok
          exact cr_i hx hb hr hlocks hQ dX8_copy_128 hP hS
        replace hok := g_neg hok c
        refine lv_iload_n hx hb dX8_copy_91 rfl (lv_at hl 4 rfl) ?_
        refine lv_aload hx hb dX8_copy_92 (lv_at hl 1 rfl) ?_
        refine va_get (fs := [.ref (h0_rows_e_places x1.toNatClampNeg), .int (s0_rows_e__sort x1.toNatClampNeg), .int (s0_rows_e__size x1.toNatClampNeg)]) (ci := 4) (v := .int (s0_rows_e__size x1.toNatClampNeg)) (C := RX4) (T := TX4) (N := 3) hx hb hts hinX4 hown hK hP (2 + 2 * x1.toNatClampNeg) (by rcases lt4 (Nat.not_le.mp fun q => hin3 (Or.inr q)) with e | e | e | e <;> rw [e] <;> rfl) rfl 2 (by decide) (hts _ (List.mem_of_getElem? (i := 3) rfl)) (fun _ h9 => h9) rfl dX8_copy_94 ?_
        refine lv_iload hx hb dX8_copy_97 (lv_at hl 7 rfl) ?_
        refine lv_isub hx hb dX8_copy_99 ?_
        refine lv_icmp_gt (tgt := 126) hx hb dX8_copy_100 (by decide) (fun c => ?_) (fun c => ?_)
        · replace hok := g_pos hok c
          refine lv_bipush (v := -13) hx hb dX8_copy_126 (by decide) ?_
          cases hok
          exact cr_i hx hb hr hlocks hQ dX8_copy_128 hP hS
        replace hok := g_neg hok c
        refine lv_iload hx hb dX8_copy_103 (lv_at hl 7 rfl) ?_
        refine lv_aload hx hb dX8_copy_105 (lv_at hl 0 rfl) ?_
        refine va_get (fs := [.ref (h0_rows_e_places x3.toNatClampNeg), .int (s0_rows_e__sort x3.toNatClampNeg), .int (s0_rows_e__size x3.toNatClampNeg)]) (ci := 4) (v := .int (s0_rows_e__size x3.toNatClampNeg)) (C := RX4) (T := TX4) (N := 3) hx hb hts hinX4 hown hK hP (2 + 2 * x3.toNatClampNeg) (by rcases lt4 (Nat.not_le.mp fun q => hin4 (Or.inr q)) with e | e | e | e <;> rw [e] <;> rfl) rfl 2 (by decide) (hts _ (List.mem_of_getElem? (i := 3) rfl)) (fun _ h9 => h9) rfl dX8_copy_107 ?_
        refine lv_icmp_gt (tgt := 126) hx hb dX8_copy_110 (by decide) (fun c => ?_) (fun c => ?_)
        · replace hok := g_pos hok c
          refine lv_bipush (v := -13) hx hb dX8_copy_126 (by decide) ?_
          cases hok
          exact cr_i hx hb hr hlocks hQ dX8_copy_128 hP hS
        replace hok := g_neg hok c
        refine lv_iload hx hb dX8_copy_113 (lv_at hl 6 rfl) ?_
        refine lv_aload hx hb dX8_copy_115 (lv_at hl 0 rfl) ?_
        refine va_get (fs := [.ref (h0_rows_e_places x3.toNatClampNeg), .int (s0_rows_e__sort x3.toNatClampNeg), .int (s0_rows_e__size x3.toNatClampNeg)]) (ci := 4) (v := .int (s0_rows_e__size x3.toNatClampNeg)) (C := RX4) (T := TX4) (N := 3) hx hb hts hinX4 hown hK hP (2 + 2 * x3.toNatClampNeg) (by rcases lt4 (Nat.not_le.mp fun q => hin4 (Or.inr q)) with e | e | e | e <;> rw [e] <;> rfl) rfl 2 (by decide) (hts _ (List.mem_of_getElem? (i := 3) rfl)) (fun _ h9 => h9) rfl dX8_copy_117 ?_
        refine lv_iload hx hb dX8_copy_120 (lv_at hl 7 rfl) ?_
        refine lv_isub hx hb dX8_copy_122 ?_
        refine lv_icmp_le (tgt := 129) hx hb dX8_copy_123 (by decide) (fun c => ?_) (fun c => ?_)
        · replace hok := g_pos hok c
          refine lv_aload hx hb dX8_copy_129 (lv_at hl 1 rfl) ?_
          refine va_get (fs := [.ref (h0_rows_e_places x1.toNatClampNeg), .int (s0_rows_e__sort x1.toNatClampNeg), .int (s0_rows_e__size x1.toNatClampNeg)]) (ci := 4) (v := .ref (h0_rows_e_places x1.toNatClampNeg)) (C := RX4) (T := TX4) (N := 3) hx hb hts hinX4 hown hK hP (2 + 2 * x1.toNatClampNeg) (by rcases lt4 (Nat.not_le.mp fun q => hin3 (Or.inr q)) with e | e | e | e <;> rw [e] <;> rfl) rfl 0 (by decide) (hts _ (List.mem_of_getElem? (i := 4) rfl)) (fun _ h9 => h9) rfl dX8_copy_131 ?_
          refine lv_iload_n hx hb dX8_copy_134 rfl (lv_at hl 4 rfl) ?_
          refine lv_aload hx hb dX8_copy_135 (lv_at hl 0 rfl) ?_
          refine va_get (fs := [.ref (h0_rows_e_places x3.toNatClampNeg), .int (s0_rows_e__sort x3.toNatClampNeg), .int (s0_rows_e__size x3.toNatClampNeg)]) (ci := 4) (v := .ref (h0_rows_e_places x3.toNatClampNeg)) (C := RX4) (T := TX4) (N := 3) hx hb hts hinX4 hown hK hP (2 + 2 * x3.toNatClampNeg) (by rcases lt4 (Nat.not_le.mp fun q => hin4 (Or.inr q)) with e | e | e | e <;> rw [e] <;> rfl) rfl 0 (by decide) (hts _ (List.mem_of_getElem? (i := 4) rfl)) (fun _ h9 => h9) rfl dX8_copy_137 ?_
          refine lv_iload hx hb dX8_copy_140 (lv_at hl 6 rfl) ?_
          refine lv_iload hx hb dX8_copy_142 (lv_at hl 7 rfl) ?_
          obtain ⟨hin, hok⟩ := g_no hok
          refine va_copyl (c0 := cA 1) (n0 := 40) (f := (s0_rows_e_places x1.toNatClampNeg)) (c1 := cA 1) (n1 := 40) (g := (s0_rows_e_places x3.toNatClampNeg)) (ty := .long) hx hb (hml.trans hl.1.symm) hown (hts _ (List.mem_of_getElem? (i := 5) rfl)) (hts _ (List.mem_of_getElem? (i := 6) rfl)) (hts _ (List.mem_of_getElem? (i := 7) rfl)) (hts _ (List.mem_of_getElem? (i := 8) rfl)) hK hP hD hS (3 + 2 * x1.toNatClampNeg) (3 + 2 * x3.toNatClampNeg) 1 1 (by rcases lt4 (Nat.not_le.mp fun q => hin3 (Or.inr q)) with e | e | e | e <;> rw [e] <;> rfl) (by rcases lt4 (Nat.not_le.mp fun q => hin4 (Or.inr q)) with e | e | e | e <;> rw [e] <;> rfl) rfl rfl rfl (fun q => hin (Or.inl q)) (fun q => hin (Or.inr (Or.inl q))) (fun q => hin (Or.inr (Or.inr (Or.inl q)))) (Nat.not_lt.mp fun q => hin (Or.inr (Or.inr (Or.inr (Or.inl q))))) (Nat.not_lt.mp fun q => hin (Or.inr (Or.inr (Or.inr (Or.inr q))))) (fun _ _ => rfl) (Nat.le_of_ble_eq_true rfl) (Nat.le_of_ble_eq_true rfl) dX8_copy_144 (fun H locs hP hD hS => ?_)
          obtain ⟨hP, hD⟩ : va_P G vwCl (wm_X8_row cA h0 h0_rows h0_rows_e h0_rows_e_places h0_filter h0_trial h0_kept h0_ways h0_spread h0_course h0_changes h0_tape h0_bodies h0_causes s0__hasImage s0__hasCauses s0__stepsDone s0_rows_e__sort s0_rows_e__size (va_up s0_rows_e_places x3.toNatClampNeg (va_cpy (s0_rows_e_places x1.toNatClampNeg) (s0_rows_e_places x3.toNatClampNeg) x2.toNatClampNeg x4.toNatClampNeg x5.toNatClampNeg))) H ∧ va_D A (wm_X8_row cA h0 h0_rows h0_rows_e h0_rows_e_places h0_filter h0_trial h0_kept h0_ways h0_spread h0_course h0_changes h0_tape h0_bodies h0_causes s0__hasImage s0__hasCauses s0__stepsDone s0_rows_e__sort s0_rows_e__size (va_up s0_rows_e_places x3.toNatClampNeg (va_cpy (s0_rows_e_places x1.toNatClampNeg) (s0_rows_e_places x3.toNatClampNeg) x2.toNatClampNeg x4.toNatClampNeg x5.toNatClampNeg))) := PD_eq hP hD (by rcases lt4 (Nat.not_le.mp fun q => hin4 (Or.inr q)) with e | e | e | e <;> rw [e] <;> rfl)
          refine lv_iload hx hb dX8_copy_147 (lv_at hl 7 rfl) ?_
          cases hok
          exact cr_i hx hb hr hlocks hQ dX8_copy_149 hP hS
        replace hok := g_neg hok c
        refine lv_bipush (v := -13) hx hb dX8_copy_126 (by decide) ?_
        cases hok
        exact cr_i hx hb hr hlocks hQ dX8_copy_128 hP hS
      replace hok := g_neg hok c
      refine lv_bipush (v := -12) hx hb dX8_copy_64 (by decide) ?_
      cases hok
      exact cr_i hx hb hr hlocks hQ dX8_copy_66 hP hS
    replace hok := g_neg hok c
    refine lv_bipush (v := -11) hx hb dX8_copy_48 (by decide) ?_
    cases hok
    exact cr_i hx hb hr hlocks hQ dX8_copy_50 hP hS
  replace hok := g_pos hok c
  refine lv_iconst (v := -1) hx hb dX8_copy_14 (by decide) ?_
  cases hok
  exact cr_i hx hb hr hlocks hQ dX8_copy_15 hP hS
