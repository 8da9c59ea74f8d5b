set_option maxHeartbeats 40000000 in
set_option maxRecDepth 100000 in
theorem c_X7_isOnCycle (l : Launch) (G : va_G) (cA : Nat → ClassId) (ts : Nat → Nat) (h0 : Nat) (h0_tails : Nat) (h0_comesTo : Nat) (h0_by : Nat) (h0_onward : Nat) (x1 : Int32) (s0__size : Int32) (s0__told : Int32) (s0__whole : Int32) (s0__anyStuck : Int32) (s0__loudest : Int32) (s0_tails : Nat → Int32) (s0_comesTo : Nat → Int32) (r : Int32) (hok : fX7_isOnCycle x1 s0__size s0_tails s0_comesTo = some r) : Ct l G cA ts yX7_isOnCycle wsX7_isOnCycle 2 61 [.ref h0, .int x1] (wm_X7_isOnCycle cA h0 h0_tails h0_comesTo h0_by h0_onward s0__size s0__told s0__whole s0__anyStuck s0__loudest s0_tails s0_comesTo) (wm_X7_isOnCycle cA h0 h0_tails h0_comesTo h0_by h0_onward s0__size s0__told s0__whole s0__anyStuck s0__loudest s0_tails s0_comesTo) (some (.int r)) := by
  refine Ct.intro (cc := cX7_isOnCycle) (maxL := 2) (ret := some .boolean) (by decide +kernel) rfl (Nat.le_of_ble_eq_true rfl) ?_
  intro p e s m ar below meth c A Q hx hb hr hml hown hlocks hts hK hZ hA hQ hP hD hS ls hl
  have hown : s.vm.findClass RX7 = some m.cls := hown
  have hinX7 : ∀ w ∈ wsX70, w ∈ wsX7_isOnCycle := fun _ h => List.mem_cons_of_mem _ (List.mem_append_right _ (h))
  have hl : lv_has ls 2 [(0, .ref h0), (1, .int x1)] := hl
  have hP : va_P G vwCl (wm_X7_isOnCycle cA h0 h0_tails h0_comesTo h0_by h0_onward s0__size s0__told s0__whole s0__anyStuck s0__loudest s0_tails s0_comesTo) s.heap := hP
  have hD : va_D A (wm_X7_isOnCycle cA h0 h0_tails h0_comesTo h0_by h0_onward s0__size s0__told s0__whole s0__anyStuck s0__loudest s0_tails s0_comesTo) := hD
  unfold fX7_isOnCycle at hok
  refine lv_aload_n hx hb dX7_isOnCycle_0 rfl (lv_at hl 0 rfl) ?_
  refine lv_iload_n hx hb dX7_isOnCycle_1 rfl (lv_at hl 1 rfl) ?_
  obtain ⟨r1, hq, hok⟩ := g_bnd1 hok
  refine cG (is := [0]) (wc := (wm_X7_is cA h0 h0_by h0_onward h0_tails h0_comesTo s0__size s0__told s0__whole s0__anyStuck s0__loudest)) (w1 := (wm_X7_is cA h0 h0_by h0_onward h0_tails h0_comesTo s0__size s0__told s0__whole s0__anyStuck s0__loudest)) (rv := (some (.int r1))) (st1 := [.int r1]) (va_runV (Ts := wsX7_isOnCycle) (As := [.int x1]) (rest := []) ⟨hx, hb, hml, hown, hts⟩ (c_X7_is l G cA ts h0 h0_by h0_onward h0_tails h0_comesTo x1 s0__size s0__told s0__whole s0__anyStuck s0__loudest r1 hq s.heap.size) (cwV 1 hts gX7_isOnCycle_X7_is rfl rfl rfl (by decide +kernel) ⟨Nat.le_of_ble_eq_true rfl, Nat.le_of_ble_eq_true rfl⟩) (pre_V (ci := 7) (q0 := 0) (is := [0]) rfl rfl hP hD hS hA hK hZ (by decide +kernel) (by rfl)) rfl rfl hl.1 rfl (by exact lv_room (Nat.le_of_ble_eq_true rfl)) dX7_isOnCycle_2 ⟨Nat.le_refl _, Nat.le_refl _⟩) hP hD hS hA (by decide +kernel) (by rfl) (by rfl) rfl (fun H locs hP hD hS => ?_)
  have hP : va_P G vwCl (wm_X7_isOnCycle cA h0 h0_tails h0_comesTo h0_by h0_onward s0__size s0__told s0__whole s0__anyStuck s0__loudest s0_tails s0_comesTo) H := hP
  have hD : va_D A (wm_X7_isOnCycle cA h0 h0_tails h0_comesTo h0_by h0_onward s0__size s0__told s0__whole s0__anyStuck s0__loudest s0_tails s0_comesTo) := hD
  refine lv_if_eq (tgt := 31) hx hb dX7_isOnCycle_5 (by decide) (fun c => ?_) (fun c => ?_)
  · replace hok := g_pos hok c
    refine lv_iconst (v := 0) hx hb dX7_isOnCycle_31 (by decide) ?_
    cases hok
    exact cr_z (ty := .boolean) (by decide +kernel) hx hb hr hlocks hQ dX7_isOnCycle_32 hP hS
  replace hok := g_neg hok c
  refine lv_aload_n hx hb dX7_isOnCycle_8 rfl (lv_at hl 0 rfl) ?_
  refine va_get (ci := 7) (v := .ref h0_comesTo) (C := RX7) (T := TX7) (N := 9) hx hb hts hinX7 hown hK hP 0 rfl rfl 3 (by decide) (hts _ (List.mem_of_getElem? (i := 1) rfl)) (fun _ h9 => h9) rfl dX7_isOnCycle_9 ?_
  refine lv_iload_n hx hb dX7_isOnCycle_12 rfl (lv_at hl 1 rfl) ?_
  obtain ⟨hin, hok⟩ := g_no hok
  refine x_iald (k := x1.toNatClampNeg) hx hb hK hP 2 0 rfl rfl hin rfl dX7_isOnCycle_13 ?_
  refine lv_iconst (v := -1) hx hb dX7_isOnCycle_14 (by decide) ?_
  refine lv_icmp_eq (tgt := 31) hx hb dX7_isOnCycle_15 (by decide) (fun c => ?_) (fun c => ?_)
  · replace hok := g_pos hok c
    refine lv_iconst (v := 0) hx hb dX7_isOnCycle_31 (by decide) ?_
    cases hok
    exact cr_z (ty := .boolean) (by decide +kernel) hx hb hr hlocks hQ dX7_isOnCycle_32 hP hS
  replace hok := g_neg hok c
  refine lv_aload_n hx hb dX7_isOnCycle_18 rfl (lv_at hl 0 rfl) ?_
  refine va_get (ci := 7) (v := .ref h0_tails) (C := RX7) (T := TX7) (N := 9) hx hb hts hinX7 hown hK hP 0 rfl rfl 2 (by decide) (hts _ (List.mem_of_getElem? (i := 2) rfl)) (fun _ h9 => h9) rfl dX7_isOnCycle_19 ?_
  refine lv_iload_n hx hb dX7_isOnCycle_22 rfl (lv_at hl 1 rfl) ?_
  obtain ⟨hin, hok⟩ := g_no hok
  refine x_iald (k := x1.toNatClampNeg) hx hb hK hP 1 0 rfl rfl hin rfl dX7_isOnCycle_23 ?_
  refine lv_if_ne (tgt := 31) hx hb dX7_isOnCycle_24 (by decide) (fun c => ?_) (fun c => ?_)
  · replace hok := g_neg hok c
    refine lv_iconst (v := 0) hx hb dX7_isOnCycle_31 (by decide) ?_
    cases hok
    exact cr_z (ty := .boolean) (by decide +kernel) hx hb hr hlocks hQ dX7_isOnCycle_32 hP hS
  replace hok := g_pos hok c
  refine lv_iconst (v := 1) hx hb dX7_isOnCycle_27 (by decide) ?_
  refine lv_goto (tgt := 32) hx hb dX7_isOnCycle_28 (by decide) ?_
  cases hok
  exact cr_z (ty := .boolean) (by decide +kernel) hx hb hr hlocks hQ dX7_isOnCycle_32 hP hS
set_option maxHeartbeats 40000000 in
set_option maxRecDepth 100000 in
theorem c_X7_cycleFrom (l : Launch) (G : va_G) (cA : Nat → ClassId) (ts : Nat → Nat) (h0 : Nat) (h0_comesTo : Nat) (h0_by : Nat) (h0_onward : Nat) (h0_tails : Nat) (x1 : Int32) (s0__size : Int32) (s0__told : Int32) (s0__whole : Int32) (s0__anyStuck : Int32) (s0__loudest : Int32) (s0_comesTo : Nat → Int32) (r : Int32) (hok : fX7_cycleFrom x1 s0__size s0_comesTo = some r) : Ct l G cA ts yX7_cycleFrom wsX7_cycleFrom 2 61 [.ref h0, .int x1] (wm_X7_cycleFrom cA h0 h0_comesTo h0_by h0_onward h0_tails s0__size s0__told s0__whole s0__anyStuck s0__loudest s0_comesTo) (wm_X7_cycleFrom cA h0 h0_comesTo h0_by h0_onward h0_tails s0__size s0__told s0__whole s0__anyStuck s0__loudest s0_comesTo) (some (.int r)) := by
  refine Ct.intro (cc := cX7_cycleFrom) (maxL := 2) (ret := some .int) (by decide +kernel) rfl (Nat.le_of_ble_eq_true rfl) ?_
  intro p e s m ar below meth c A Q hx hb hr hml hown hlocks hts hK hZ hA hQ hP hD hS ls hl
  have hown : s.vm.findClass RX7 = some m.cls := hown
  have hinX7 : ∀ w ∈ wsX70, w ∈ wsX7_cycleFrom := fun _ h => List.mem_cons_of_mem _ (List.mem_append_right _ (h))
  have hl : lv_has ls 2 [(0, .ref h0), (1, .int x1)] := hl
  have hP : va_P G vwCl (wm_X7_cycleFrom cA h0 h0_comesTo h0_by h0_onward h0_tails s0__size s0__told s0__whole s0__anyStuck s0__loudest s0_comesTo) s.heap := hP
  have hD : va_D A (wm_X7_cycleFrom cA h0 h0_comesTo h0_by h0_onward h0_tails s0__size s0__told s0__whole s0__anyStuck s0__loudest s0_comesTo) := hD
  unfold fX7_cycleFrom at hok
  refine lv_aload_n hx hb dX7_cycleFrom_0 rfl (lv_at hl 0 rfl) ?_
  refine lv_iload_n hx hb dX7_cycleFrom_1 rfl (lv_at hl 1 rfl) ?_
  obtain ⟨r1, hq, hok⟩ := g_bnd1 hok
  refine cG (is := [0]) (wc := (wm_X7_is cA h0 h0_by h0_onward h0_tails h0_comesTo s0__size s0__told s0__whole s0__anyStuck s0__loudest)) (w1 := (wm_X7_is cA h0 h0_by h0_onward h0_tails h0_comesTo s0__size s0__told s0__whole s0__anyStuck s0__loudest)) (rv := (some (.int r1))) (st1 := [.int r1]) (va_runV (Ts := wsX7_cycleFrom) (As := [.int x1]) (rest := []) ⟨hx, hb, hml, hown, hts⟩ (c_X7_is l G cA ts h0 h0_by h0_onward h0_tails h0_comesTo x1 s0__size s0__told s0__whole s0__anyStuck s0__loudest r1 hq s.heap.size) (cwV 1 hts gX7_cycleFrom_X7_is rfl rfl rfl (by decide +kernel) ⟨Nat.le_of_ble_eq_true rfl, Nat.le_of_ble_eq_true rfl⟩) (pre_V (ci := 7) (q0 := 0) (is := [0]) rfl rfl hP hD hS hA hK hZ (by decide +kernel) (by rfl)) rfl rfl hl.1 rfl (by exact lv_room (Nat.le_of_ble_eq_true rfl)) dX7_cycleFrom_2 ⟨Nat.le_refl _, Nat.le_refl _⟩) hP hD hS hA (by decide +kernel) (by rfl) (by rfl) rfl (fun H locs hP hD hS => ?_)
  have hP : va_P G vwCl (wm_X7_cycleFrom cA h0 h0_comesTo h0_by h0_onward h0_tails s0__size s0__told s0__whole s0__anyStuck s0__loudest s0_comesTo) H := hP
  have hD : va_D A (wm_X7_cycleFrom cA h0 h0_comesTo h0_by h0_onward h0_tails s0__size s0__told s0__whole s0__anyStuck s0__loudest s0_comesTo) := hD
  refine lv_if_eq (tgt := 17) hx hb dX7_cycleFrom_5 (by decide) (fun c => ?_) (fun c => ?_)
  · replace hok := g_pos hok c
    refine lv_iconst (v := -1) hx hb dX7_cycleFrom_17 (by decide) ?_
    cases hok
    exact cr_i hx hb hr hlocks hQ dX7_cycleFrom_18 hP hS
  replace hok := g_neg hok c
  refine lv_aload_n hx hb dX7_cycleFrom_8 rfl (lv_at hl 0 rfl) ?_
  refine va_get (ci := 7) (v := .ref h0_comesTo) (C := RX7) (T := TX7) (N := 9) hx hb hts hinX7 hown hK hP 0 rfl rfl 3 (by decide) (hts _ (List.mem_of_getElem? (i := 1) rfl)) (fun _ h9 => h9) rfl dX7_cycleFrom_9 ?_
  refine lv_iload_n hx hb dX7_cycleFrom_12 rfl (lv_at hl 1 rfl) ?_
  obtain ⟨hin, hok⟩ := g_no hok
  refine x_iald (k := x1.toNatClampNeg) hx hb hK hP 1 0 rfl rfl hin rfl dX7_cycleFrom_13 ?_
  refine lv_goto (tgt := 18) hx hb dX7_cycleFrom_14 (by decide) ?_
  cases hok
  exact cr_i hx hb hr hlocks hQ dX7_cycleFrom_18 hP hS
set_option maxHeartbeats 40000000 in
set_option maxRecDepth 100000 in
theorem c_X7_tailFrom (l : Launch) (G : va_G) (cA : Nat → ClassId) (ts : Nat → Nat) (h0 : Nat) (h0_tails : Nat) (h0_by : Nat) (h0_onward : Nat) (h0_comesTo : Nat) (x1 : Int32) (s0__size : Int32) (s0__told : Int32) (s0__whole : Int32) (s0__anyStuck : Int32) (s0__loudest : Int32) (s0_tails : Nat → Int32) (r : Int32) (hok : fX7_tailFrom x1 s0__size s0_tails = some r) : Ct l G cA ts yX7_tailFrom wsX7_tailFrom 2 61 [.ref h0, .int x1] (wm_X7_tailFrom cA h0 h0_tails h0_by h0_onward h0_comesTo s0__size s0__told s0__whole s0__anyStuck s0__loudest s0_tails) (wm_X7_tailFrom cA h0 h0_tails h0_by h0_onward h0_comesTo s0__size s0__told s0__whole s0__anyStuck s0__loudest s0_tails) (some (.int r)) := by
  refine Ct.intro (cc := cX7_tailFrom) (maxL := 2) (ret := some .int) (by decide +kernel) rfl (Nat.le_of_ble_eq_true rfl) ?_
  intro p e s m ar below meth c A Q hx hb hr hml hown hlocks hts hK hZ hA hQ hP hD hS ls hl
  have hown : s.vm.findClass RX7 = some m.cls := hown
  have hinX7 : ∀ w ∈ wsX70, w ∈ wsX7_tailFrom := fun _ h => List.mem_cons_of_mem _ (List.mem_append_right _ (h))
  have hl : lv_has ls 2 [(0, .ref h0), (1, .int x1)] := hl
  have hP : va_P G vwCl (wm_X7_tailFrom cA h0 h0_tails h0_by h0_onward h0_comesTo s0__size s0__told s0__whole s0__anyStuck s0__loudest s0_tails) s.heap := hP
  have hD : va_D A (wm_X7_tailFrom cA h0 h0_tails h0_by h0_onward h0_comesTo s0__size s0__told s0__whole s0__anyStuck s0__loudest s0_tails) := hD
  unfold fX7_tailFrom at hok
  refine lv_aload_n hx hb dX7_tailFrom_0 rfl (lv_at hl 0 rfl) ?_
  refine lv_iload_n hx hb dX7_tailFrom_1 rfl (lv_at hl 1 rfl) ?_
  obtain ⟨r1, hq, hok⟩ := g_bnd1 hok
  refine cG (is := [0]) (wc := (wm_X7_is cA h0 h0_by h0_onward h0_tails h0_comesTo s0__size s0__told s0__whole s0__anyStuck s0__loudest)) (w1 := (wm_X7_is cA h0 h0_by h0_onward h0_tails h0_comesTo s0__size s0__told s0__whole s0__anyStuck s0__loudest)) (rv := (some (.int r1))) (st1 := [.int r1]) (va_runV (Ts := wsX7_tailFrom) (As := [.int x1]) (rest := []) ⟨hx, hb, hml, hown, hts⟩ (c_X7_is l G cA ts h0 h0_by h0_onward h0_tails h0_comesTo x1 s0__size s0__told s0__whole s0__anyStuck s0__loudest r1 hq s.heap.size) (cwV 1 hts gX7_tailFrom_X7_is rfl rfl rfl (by decide +kernel) ⟨Nat.le_of_ble_eq_true rfl, Nat.le_of_ble_eq_true rfl⟩) (pre_V (ci := 7) (q0 := 0) (is := [0]) rfl rfl hP hD hS hA hK hZ (by decide +kernel) (by rfl)) rfl rfl hl.1 rfl (by exact lv_room (Nat.le_of_ble_eq_true rfl)) dX7_tailFrom_2 ⟨Nat.le_refl _, Nat.le_refl _⟩) hP hD hS hA (by decide +kernel) (by rfl) (by rfl) rfl (fun H locs hP hD hS => ?_)
  have hP : va_P G vwCl (wm_X7_tailFrom cA h0 h0_tails h0_by h0_onward h0_comesTo s0__size s0__told s0__whole s0__anyStuck s0__loudest s0_tails) H := hP
  have hD : va_D A (wm_X7_tailFrom cA h0 h0_tails h0_by h0_onward h0_comesTo s0__size s0__told s0__whole s0__anyStuck s0__loudest s0_tails) := hD
  refine lv_if_eq (tgt := 17) hx hb dX7_tailFrom_5 (by decide) (fun c => ?_) (fun c => ?_)
  · replace hok := g_pos hok c
    refine lv_iconst (v := 0) hx hb dX7_tailFrom_17 (by decide) ?_
    cases hok
    exact cr_i hx hb hr hlocks hQ dX7_tailFrom_18 hP hS
  replace hok := g_neg hok c
  refine lv_aload_n hx hb dX7_tailFrom_8 rfl (lv_at hl 0 rfl) ?_
  refine va_get (ci := 7) (v := .ref h0_tails) (C := RX7) (T := TX7) (N := 9) hx hb hts hinX7 hown hK hP 0 rfl rfl 2 (by decide) (hts _ (List.mem_of_getElem? (i := 1) rfl)) (fun _ h9 => h9) rfl dX7_tailFrom_9 ?_
  refine lv_iload_n hx hb dX7_tailFrom_12 rfl (lv_at hl 1 rfl) ?_
  obtain ⟨hin, hok⟩ := g_no hok
  refine x_iald (k := x1.toNatClampNeg) hx hb hK hP 1 0 rfl rfl hin rfl dX7_tailFrom_13 ?_
  refine lv_goto (tgt := 18) hx hb dX7_tailFrom_14 (by decide) ?_
  cases hok
  exact cr_i hx hb hr hlocks hQ dX7_tailFrom_18 hP hS
set_option maxHeartbeats 40000000 in
set_option maxRecDepth 100000 in
theorem c_X7_numberOf (l : Launch) (G : va_G) (cA : Nat → ClassId) (ts : Nat → Nat) (h0 : Nat) (h0_comesTo : Nat) (h0_by : Nat) (h0_onward : Nat) (h0_tails : Nat) (x1 : Int32) (s0__size : Int32) (s0__told : Int32) (s0__whole : Int32) (s0__anyStuck : Int32) (s0__loudest : Int32) (s0_comesTo : Nat → Int32) (r : Int32) (hok : fX7_numberOf x1 s0__size s0_comesTo = some r) : Ct l G cA ts yX7_numberOf wsX7_numberOf 2 61 [.ref h0, .int x1] (wm_X7_cycleFrom cA h0 h0_comesTo h0_by h0_onward h0_tails s0__size s0__told s0__whole s0__anyStuck s0__loudest s0_comesTo) (wm_X7_cycleFrom cA h0 h0_comesTo h0_by h0_onward h0_tails s0__size s0__told s0__whole s0__anyStuck s0__loudest s0_comesTo) (some (.int r)) := by
  refine Ct.intro (cc := cX7_numberOf) (maxL := 4) (ret := some .int) (by decide +kernel) rfl (Nat.le_of_ble_eq_true rfl) ?_
  intro p e s m ar below meth c A Q hx hb hr hml hown hlocks hts hK hZ hA hQ hP hD hS ls hl
  have hown : s.vm.findClass RX7 = some m.cls := hown
  have hinX7 : ∀ w ∈ wsX70, w ∈ wsX7_numberOf := fun _ h => List.mem_cons_of_mem _ (List.mem_append_right _ (h))
  have hl : lv_has ls 4 [(0, .ref h0), (1, .int x1)] := hl
  have hP : va_P G vwCl (wm_X7_cycleFrom cA h0 h0_comesTo h0_by h0_onward h0_tails s0__size s0__told s0__whole s0__anyStuck s0__loudest s0_comesTo) s.heap := hP
  have hD : va_D A (wm_X7_cycleFrom cA h0 h0_comesTo h0_by h0_onward h0_tails s0__size s0__told s0__whole s0__anyStuck s0__loudest s0_comesTo) := hD
  have L_4 : ∀ (n : Nat) (y2 : Int32) (y3 : Int32) (p0_0 : Int32) (H : Heap) (locs : List Loc) (ls : Array Slot), va_P G vwCl (wm_X7_cycleFrom cA h0 h0_comesTo h0_by h0_onward h0_tails s0__size s0__told s0__whole s0__anyStuck s0__loudest s0_comesTo) H → va_D A (wm_X7_cycleFrom cA h0 h0_comesTo h0_by h0_onward h0_tails s0__size s0__told s0__whole s0__anyStuck s0__loudest s0_comesTo) → va_S A s.heap H locs → lv_has ls 4 [(0, .ref h0), (1, .int x1), (2, .int y2), (3, .int y3)] → fX7_numberOf_L4 x1 s0__size s0_comesTo n y2 y3 = some p0_0 → (∀ (H : Heap) (locs : List Loc) (ls : Array Slot), va_P G vwCl (wm_X7_cycleFrom cA h0 h0_comesTo h0_by h0_onward h0_tails s0__size s0__told s0__whole s0__anyStuck s0__loudest s0_comesTo) H → va_D A (wm_X7_cycleFrom cA h0 h0_comesTo h0_by h0_onward h0_tails s0__size s0__told s0__whole s0__anyStuck s0__loudest s0_comesTo) → va_S A s.heap H locs → lv_has ls 4 [(2, .int p0_0)] → W p l e (rmX 2 61) s m ar below meth c H locs 0 0 Q (F0 m 36 ls [])) → W p l e (rmX 2 61) s m ar below meth c H locs 0 0 Q (F0 m 4 ls []) := by
    intro n
    induction n with
    | zero =>
      intro y2 y3 p0_0 H locs ls hP hD hS hl hok
      rw [fX7_numberOf_L4] at hok
      cases hok
    | succ n ih =>
      intro y2 y3 p0_0 H locs ls hP hD hS hl hok K
      rw [fX7_numberOf_L4] at hok
      refine lv_iload_n hx hb dX7_numberOf_4 rfl (lv_at hl 3 rfl) ?_
      refine lv_iload_n hx hb dX7_numberOf_5 rfl (lv_at hl 1 rfl) ?_
      refine lv_icmp_ge (tgt := 36) hx hb dX7_numberOf_6 (by decide) (fun c => ?_) (fun c => ?_)
      · replace hok := g_pos hok c
        cases hok
        exact K _ _ _ hP hD hS (lv_sub hl [2] rfl)
      replace hok := g_neg hok c
      refine lv_aload_n hx hb dX7_numberOf_9 rfl (lv_at hl 0 rfl) ?_
      refine lv_iload_n hx hb dX7_numberOf_10 rfl (lv_at hl 3 rfl) ?_
      obtain ⟨r1, hq, hok⟩ := g_bnd1 hok
      refine cG (is := [0]) (wc := (wm_X7_is cA h0 h0_by h0_onward h0_tails h0_comesTo s0__size s0__told s0__whole s0__anyStuck s0__loudest)) (w1 := (wm_X7_is cA h0 h0_by h0_onward h0_tails h0_comesTo s0__size s0__told s0__whole s0__anyStuck s0__loudest)) (rv := (some (.int r1))) (st1 := [.int r1]) (va_runV (Ts := wsX7_numberOf) (As := [.int y3]) (rest := []) ⟨hx, hb, hml, hown, hts⟩ (c_X7_is l G cA ts h0 h0_by h0_onward h0_tails h0_comesTo y3 s0__size s0__told s0__whole s0__anyStuck s0__loudest r1 hq H.size) (cwV 1 hts gX7_numberOf_X7_is rfl rfl rfl (by decide +kernel) ⟨Nat.le_of_ble_eq_true rfl, Nat.le_of_ble_eq_true rfl⟩) (pre_V (ci := 7) (q0 := 0) (is := [0]) rfl rfl hP hD hS hA hK hZ (by decide +kernel) (by rfl)) rfl rfl hl.1 rfl (by exact lv_room (Nat.le_of_ble_eq_true rfl)) dX7_numberOf_11 ⟨Nat.le_refl _, Nat.le_refl _⟩) hP hD hS hA (by decide +kernel) (by rfl) (by rfl) rfl (fun H locs hP hD hS => ?_)
      have hP : va_P G vwCl (wm_X7_cycleFrom cA h0 h0_comesTo h0_by h0_onward h0_tails s0__size s0__told s0__whole s0__anyStuck s0__loudest s0_comesTo) H := hP
      have hD : va_D A (wm_X7_cycleFrom cA h0 h0_comesTo h0_by h0_onward h0_tails s0__size s0__told s0__whole s0__anyStuck s0__loudest s0_comesTo) := hD
      refine lv_if_eq (tgt := 36) hx hb dX7_numberOf_14 (by decide) (fun c => ?_) (fun c => ?_)
      · replace hok := g_pos hok c
        cases hok
        exact K _ _ _ hP hD hS (lv_sub hl [2] rfl)
      replace hok := g_neg hok c
      refine lv_aload_n hx hb dX7_numberOf_17 rfl (lv_at hl 0 rfl) ?_
      refine va_get (ci := 7) (v := .ref h0_comesTo) (C := RX7) (T := TX7) (N := 9) hx hb hts hinX7 hown hK hP 0 rfl rfl 3 (by decide) (hts _ (List.mem_of_getElem? (i := 1) rfl)) (fun _ h9 => h9) rfl dX7_numberOf_18 ?_
      refine lv_iload_n hx hb dX7_numberOf_21 rfl (lv_at hl 3 rfl) ?_
      obtain ⟨hin, hok⟩ := g_no hok
      refine x_iald (k := y3.toNatClampNeg) hx hb hK hP 1 0 rfl rfl hin rfl dX7_numberOf_22 ?_
      refine lv_iload_n hx hb dX7_numberOf_23 rfl (lv_at hl 3 rfl) ?_
      refine lv_icmp_ne (tgt := 30) hx hb dX7_numberOf_24 (by decide) (fun c => ?_) (fun c => ?_)
      · replace hok := g_neg hok c
        refine lv_iinc (v := (y3 + 1)) (lv' := [(3, .int (y3 + 1)), (0, .ref h0), (1, .int x1), (2, .int y2)]) hx hb dX7_numberOf_30 hl (k := 3) rfl rfl (by decide) rfl (fun ls hl => ?_)
        refine lv_goto (tgt := 4) hx hb dX7_numberOf_33 (by decide) ?_
        exact ih y2 (y3 + 1) p0_0 _ _ _ hP hD hS (lv_sub hl [1, 2, 3, 0] rfl) hok K
      replace hok := g_pos hok c
      refine lv_iinc (v := (y2 + 1)) (lv' := [(2, .int (y2 + 1)), (0, .ref h0), (1, .int x1), (3, .int y3)]) hx hb dX7_numberOf_27 hl (k := 2) rfl rfl (by decide) rfl (fun ls hl => ?_)
      refine lv_iinc (v := (y3 + 1)) (lv' := [(3, .int (y3 + 1)), (2, .int (y2 + 1)), (0, .ref h0), (1, .int x1)]) hx hb dX7_numberOf_30 hl (k := 3) rfl rfl (by decide) rfl (fun ls hl => ?_)
      refine lv_goto (tgt := 4) hx hb dX7_numberOf_33 (by decide) ?_
      exact ih (y2 + 1) (y3 + 1) p0_0 _ _ _ hP hD hS (lv_sub hl [2, 3, 1, 0] rfl) hok K
  unfold fX7_numberOf at hok
  refine lv_iconst (v := 0) hx hb dX7_numberOf_0 (by decide) ?_
  refine lv_istore_n (lv' := [(2, .int (0:Int32)), (0, .ref h0), (1, .int x1)]) hx hb dX7_numberOf_1 rfl hl (by decide) rfl (fun ls hl => ?_)
  refine lv_iconst (v := 0) hx hb dX7_numberOf_2 (by decide) ?_
  refine lv_istore_n (lv' := [(3, .int (0:Int32)), (2, .int (0:Int32)), (0, .ref h0), (1, .int x1)]) hx hb dX7_numberOf_3 rfl hl (by decide) rfl (fun ls hl => ?_)
  obtain ⟨o2, hq, hok⟩ := g_bnd1 hok
  refine L_4 FUEL (0:Int32) (0:Int32) o2 _ _ _ hP hD hS (lv_sub hl [2, 3, 1, 0] rfl) hq (fun H locs ls hP hD hS hl => ?_)
  refine lv_iload_n hx hb dX7_numberOf_36 rfl (lv_at hl 0 rfl) ?_
  cases hok
  exact cr_i hx hb hr hlocks hQ dX7_numberOf_37 hP hS
set_option maxHeartbeats 40000000 in
set_option maxRecDepth 100000 in
theorem c_X7_cycleNumbered (l : Launch) (G : va_G) (cA : Nat → ClassId) (ts : Nat → Nat) (h0 : Nat) (h0_comesTo : Nat) (h0_by : Nat) (h0_onward : Nat) (h0_tails : Nat) (x1 : Int32) (s0__size : Int32) (s0__told : Int32) (s0__whole : Int32) (s0__anyStuck : Int32) (s0__loudest : Int32) (s0_comesTo : Nat → Int32) (r : Int32) (hok : fX7_cycleNumbered x1 s0__size s0_comesTo = some r) : Ct l G cA ts yX7_cycleNumbered wsX7_cycleNumbered 2 61 [.ref h0, .int x1] (wm_X7_cycleFrom cA h0 h0_comesTo h0_by h0_onward h0_tails s0__size s0__told s0__whole s0__anyStuck s0__loudest s0_comesTo) (wm_X7_cycleFrom cA h0 h0_comesTo h0_by h0_onward h0_tails s0__size s0__told s0__whole s0__anyStuck s0__loudest s0_comesTo) (some (.int r)) := by
  refine Ct.intro (cc := cX7_cycleNumbered) (maxL := 4) (ret := some .int) (by decide +kernel) rfl (Nat.le_of_ble_eq_true rfl) ?_
  intro p e s m ar below meth c A Q hx hb hr hml hown hlocks hts hK hZ hA hQ hP hD hS ls hl
  have hown : s.vm.findClass RX7 = some m.cls := hown
  have hinX7 : ∀ w ∈ wsX70, w ∈ wsX7_cycleNumbered := fun _ h => List.mem_cons_of_mem _ (List.mem_append_right _ (h))
  have hl : lv_has ls 4 [(0, .ref h0), (1, .int x1)] := hl
  have hP : va_P G vwCl (wm_X7_cycleFrom cA h0 h0_comesTo h0_by h0_onward h0_tails s0__size s0__told s0__whole s0__anyStuck s0__loudest s0_comesTo) s.heap := hP
  have hD : va_D A (wm_X7_cycleFrom cA h0 h0_comesTo h0_by h0_onward h0_tails s0__size s0__told s0__whole s0__anyStuck s0__loudest s0_comesTo) := hD
  have L_4 : ∀ (n : Nat) (y2 : Int32) (y3 : Int32) (oE : ((Int32)) ⊕ (Unit)) (H : Heap) (locs : List Loc) (ls : Array Slot), va_P G vwCl (wm_X7_cycleFrom cA h0 h0_comesTo h0_by h0_onward h0_tails s0__size s0__told s0__whole s0__anyStuck s0__loudest s0_comesTo) H → va_D A (wm_X7_cycleFrom cA h0 h0_comesTo h0_by h0_onward h0_tails s0__size s0__told s0__whole s0__anyStuck s0__loudest s0_comesTo) → va_S A s.heap H locs → lv_has ls 4 [(0, .ref h0), (1, .int x1), (2, .int y2), (3, .int y3)] → fX7_cycleNumbered_L4 x1 s0__size s0_comesTo n y2 y3 = some oE → (∀ (p0_0 : Int32), oE = .inl p0_0 → ∀ (H : Heap) (locs : List Loc) (ls : Array Slot), va_P G vwCl (wm_X7_cycleFrom cA h0 h0_comesTo h0_by h0_onward h0_tails s0__size s0__told s0__whole s0__anyStuck s0__loudest s0_comesTo) H → va_D A (wm_X7_cycleFrom cA h0 h0_comesTo h0_by h0_onward h0_tails s0__size s0__told s0__whole s0__anyStuck s0__loudest s0_comesTo) → va_S A s.heap H locs → lv_has ls 4 [(3, .int p0_0)] → W p l e (rmX 2 61) s m ar below meth c H locs 0 0 Q (F0 m 38 ls [])) → (∀ (_ : Unit), oE = .inr (()) → ∀ (H : Heap) (locs : List Loc) (ls : Array Slot), va_P G vwCl (wm_X7_cycleFrom cA h0 h0_comesTo h0_by h0_onward h0_tails s0__size s0__told s0__whole s0__anyStuck s0__loudest s0_comesTo) H → va_D A (wm_X7_cycleFrom cA h0 h0_comesTo h0_by h0_onward h0_tails s0__size s0__told s0__whole s0__anyStuck s0__loudest s0_comesTo) → va_S A s.heap H locs → lv_has ls 4 [] → W p l e (rmX 2 61) s m ar below meth c H locs 0 0 Q (F0 m 46 ls [])) → W p l e (rmX 2 61) s m ar below meth c H locs 0 0 Q (F0 m 4 ls []) := by
    intro n
    induction n with
    | zero =>
      intro y2 y3 oE H locs ls hP hD hS hl hok
      rw [fX7_cycleNumbered_L4] at hok
      cases hok
    | succ n ih =>
      intro y2 y3 oE H locs ls hP hD hS hl hok  K0 K1
      rw [fX7_cycleNumbered_L4] at hok
      refine lv_iload_n hx hb dX7_cycleNumbered_4 rfl (lv_at hl 3 rfl) ?_
      refine lv_aload_n hx hb dX7_cycleNumbered_5 rfl (lv_at hl 0 rfl) ?_
      refine va_get (ci := 7) (v := .int s0__size) (C := RX7) (T := TX7) (N := 9) hx hb hts hinX7 hown hK hP 0 rfl rfl 4 (by decide) (hts _ (List.mem_of_getElem? (i := 1) rfl)) (fun _ h9 => h9) rfl dX7_cycleNumbered_6 ?_
      refine lv_icmp_ge (tgt := 46) hx hb dX7_cycleNumbered_9 (by decide) (fun c => ?_) (fun c => ?_)
      · replace hok := g_pos hok c
        cases hok
        exact K1 () rfl _ _ _ hP hD hS (lv_sub hl [] rfl)
      replace hok := g_neg hok c
      refine lv_aload_n hx hb dX7_cycleNumbered_12 rfl (lv_at hl 0 rfl) ?_
      refine lv_iload_n hx hb dX7_cycleNumbered_13 rfl (lv_at hl 3 rfl) ?_
      obtain ⟨r1, hq, hok⟩ := g_bnd1 hok
      refine cG (is := [0]) (wc := (wm_X7_is cA h0 h0_by h0_onward h0_tails h0_comesTo s0__size s0__told s0__whole s0__anyStuck s0__loudest)) (w1 := (wm_X7_is cA h0 h0_by h0_onward h0_tails h0_comesTo s0__size s0__told s0__whole s0__anyStuck s0__loudest)) (rv := (some (.int r1))) (st1 := [.int r1]) (va_runV (Ts := wsX7_cycleNumbered) (As := [.int y3]) (rest := []) ⟨hx, hb, hml, hown, hts⟩ (c_X7_is l G cA ts h0 h0_by h0_onward h0_tails h0_comesTo y3 s0__size s0__told s0__whole s0__anyStuck s0__loudest r1 hq H.size) (cwV 1 hts gX7_cycleNumbered_X7_is rfl rfl rfl (by decide +kernel) ⟨Nat.le_of_ble_eq_true rfl, Nat.le_of_ble_eq_true rfl⟩) (pre_V (ci := 7) (q0 := 0) (is := [0]) rfl rfl hP hD hS hA hK hZ (by decide +kernel) (by rfl)) rfl rfl hl.1 rfl (by exact lv_room (Nat.le_of_ble_eq_true rfl)) dX7_cycleNumbered_14 ⟨Nat.le_refl _, Nat.le_refl _⟩) hP hD hS hA (by decide +kernel) (by rfl) (by rfl) rfl (fun H locs hP hD hS => ?_)
      have hP : va_P G vwCl (wm_X7_cycleFrom cA h0 h0_comesTo h0_by h0_onward h0_tails s0__size s0__told s0__whole s0__anyStuck s0__loudest s0_comesTo) H := hP
      have hD : va_D A (wm_X7_cycleFrom cA h0 h0_comesTo h0_by h0_onward h0_tails s0__size s0__told s0__whole s0__anyStuck s0__loudest s0_comesTo) := hD
      refine lv_if_eq (tgt := 46) hx hb dX7_cycleNumbered_17 (by decide) (fun c => ?_) (fun c => ?_)
      · replace hok := g_pos hok c
        cases hok
        exact K1 () rfl _ _ _ hP hD hS (lv_sub hl [] rfl)
      replace hok := g_neg hok c
      refine lv_aload_n hx hb dX7_cycleNumbered_20 rfl (lv_at hl 0 rfl) ?_
      refine va_get (ci := 7) (v := .ref h0_comesTo) (C := RX7) (T := TX7) (N := 9) hx hb hts hinX7 hown hK hP 0 rfl rfl 3 (by decide) (hts _ (List.mem_of_getElem? (i := 2) rfl)) (fun _ h9 => h9) rfl dX7_cycleNumbered_21 ?_
      refine lv_iload_n hx hb dX7_cycleNumbered_24 rfl (lv_at hl 3 rfl) ?_
      obtain ⟨hin, hok⟩ := g_no hok
      refine x_iald (k := y3.toNatClampNeg) hx hb hK hP 1 0 rfl rfl hin rfl dX7_cycleNumbered_25 ?_
      refine lv_iload_n hx hb dX7_cycleNumbered_26 rfl (lv_at hl 3 rfl) ?_
      refine lv_icmp_ne (tgt := 40) hx hb dX7_cycleNumbered_27 (by decide) (fun c => ?_) (fun c => ?_)
      · replace hok := g_neg hok c
        refine lv_iinc (v := (y3 + 1)) (lv' := [(3, .int (y3 + 1)), (0, .ref h0), (1, .int x1), (2, .int y2)]) hx hb dX7_cycleNumbered_40 hl (k := 3) rfl rfl (by decide) rfl (fun ls hl => ?_)
        refine lv_goto (tgt := 4) hx hb dX7_cycleNumbered_43 (by decide) ?_
        exact ih y2 (y3 + 1) oE _ _ _ hP hD hS (lv_sub hl [1, 2, 3, 0] rfl) hok K0 K1
      replace hok := g_pos hok c
      refine lv_iinc (v := (y2 + 1)) (lv' := [(2, .int (y2 + 1)), (0, .ref h0), (1, .int x1), (3, .int y3)]) hx hb dX7_cycleNumbered_30 hl (k := 2) rfl rfl (by decide) rfl (fun ls hl => ?_)
      refine lv_iload_n hx hb dX7_cycleNumbered_33 rfl (lv_at hl 0 rfl) ?_
      refine lv_iload_n hx hb dX7_cycleNumbered_34 rfl (lv_at hl 2 rfl) ?_
      refine lv_icmp_ne (tgt := 40) hx hb dX7_cycleNumbered_35 (by decide) (fun c => ?_) (fun c => ?_)
      · replace hok := g_neg hok c
        refine lv_iinc (v := (y3 + 1)) (lv' := [(3, .int (y3 + 1)), (2, .int (y2 + 1)), (0, .ref h0), (1, .int x1)]) hx hb dX7_cycleNumbered_40 hl (k := 3) rfl rfl (by decide) rfl (fun ls hl => ?_)
        refine lv_goto (tgt := 4) hx hb dX7_cycleNumbered_43 (by decide) ?_
        exact ih (y2 + 1) (y3 + 1) oE _ _ _ hP hD hS (lv_sub hl [2, 3, 1, 0] rfl) hok K0 K1
      replace hok := g_pos hok c
      cases hok
      exact K0 _ rfl _ _ _ hP hD hS (lv_sub hl [3] rfl)
  unfold fX7_cycleNumbered at hok
  refine lv_iconst (v := -1) hx hb dX7_cycleNumbered_0 (by decide) ?_
  refine lv_istore_n (lv' := [(2, .int (-1:Int32)), (0, .ref h0), (1, .int x1)]) hx hb dX7_cycleNumbered_1 rfl hl (by decide) rfl (fun ls hl => ?_)
  refine lv_iconst (v := 0) hx hb dX7_cycleNumbered_2 (by decide) ?_
  refine lv_istore_n (lv' := [(3, .int (0:Int32)), (2, .int (-1:Int32)), (0, .ref h0), (1, .int x1)]) hx hb dX7_cycleNumbered_3 rfl hl (by decide) rfl (fun ls hl => ?_)
  obtain ⟨o2, hq, hok⟩ := g_bnd1 hok
  refine L_4 FUEL (-1:Int32) (0:Int32) o2 _ _ _ hP hD hS (lv_sub hl [2, 3, 1, 0] rfl) hq (fun p0_0 ho H locs ls hP hD hS hl => ?_) (fun _ ho H locs ls hP hD hS hl => ?_)
  · subst ho
    replace hok := g_inl hok
    replace hok := g_c1 hok
    refine lv_iload_n hx hb dX7_cycleNumbered_38 rfl (lv_at hl 0 rfl) ?_
    cases hok
    exact cr_i hx hb hr hlocks hQ dX7_cycleNumbered_39 hP hS
  subst ho
  replace hok := g_inr hok
  replace hok := g_c0 hok
  refine lv_iconst (v := -1) hx hb dX7_cycleNumbered_46 (by decide) ?_
  cases hok
  exact cr_i hx hb hr hlocks hQ dX7_cycleNumbered_47 hP hS
set_option maxHeartbeats 40000000 in
set_option maxRecDepth 100000 in
theorem c_X7_periodOf (l : Launch) (G : va_G) (cA : Nat → ClassId) (ts : Nat → Nat) (h0 : Nat) (h0_tails : Nat) (h0_comesTo : Nat) (h0_by : Nat) (h0_onward : Nat) (x1 : Int32) (s0__size : Int32) (s0__told : Int32) (s0__whole : Int32) (s0__anyStuck : Int32) (s0__loudest : Int32) (s0_tails : Nat → Int32) (s0_comesTo : Nat → Int32) (r : Int32) (hok : fX7_periodOf x1 s0__size s0_tails s0_comesTo = some r) : Ct l G cA ts yX7_periodOf wsX7_periodOf 3 82 [.ref h0, .int x1] (wm_X7_isOnCycle cA h0 h0_tails h0_comesTo h0_by h0_onward s0__size s0__told s0__whole s0__anyStuck s0__loudest s0_tails s0_comesTo) (wm_X7_isOnCycle cA h0 h0_tails h0_comesTo h0_by h0_onward s0__size s0__told s0__whole s0__anyStuck s0__loudest s0_tails s0_comesTo) (some (.int r)) := by
  refine Ct.intro (cc := cX7_periodOf) (maxL := 4) (ret := some .int) (by decide +kernel) rfl (Nat.le_of_ble_eq_true rfl) ?_
  intro p e s m ar below meth c A Q hx hb hr hml hown hlocks hts hK hZ hA hQ hP hD hS ls hl
  have hown : s.vm.findClass RX7 = some m.cls := hown
  have hinX7 : ∀ w ∈ wsX70, w ∈ wsX7_periodOf := fun _ h => List.mem_cons_of_mem _ (List.mem_append_right _ (h))
  have hl : lv_has ls 4 [(0, .ref h0), (1, .int x1)] := hl
  have hP : va_P G vwCl (wm_X7_isOnCycle cA h0 h0_tails h0_comesTo h0_by h0_onward s0__size s0__told s0__whole s0__anyStuck s0__loudest s0_tails s0_comesTo) s.heap := hP
  have hD : va_D A (wm_X7_isOnCycle cA h0 h0_tails h0_comesTo h0_by h0_onward s0__size s0__told s0__whole s0__anyStuck s0__loudest s0_tails s0_comesTo) := hD
  have L_4 : ∀ (n : Nat) (y2 : Int32) (y3 : Int32) (p0_0 : Int32) (H : Heap) (locs : List Loc) (ls : Array Slot), va_P G vwCl (wm_X7_isOnCycle cA h0 h0_tails h0_comesTo h0_by h0_onward s0__size s0__told s0__whole s0__anyStuck s0__loudest s0_tails s0_comesTo) H → va_D A (wm_X7_isOnCycle cA h0 h0_tails h0_comesTo h0_by h0_onward s0__size s0__told s0__whole s0__anyStuck s0__loudest s0_tails s0_comesTo) → va_S A s.heap H locs → lv_has ls 4 [(0, .ref h0), (1, .int x1), (2, .int y2), (3, .int y3)] → fX7_periodOf_L4 x1 s0__size s0_tails s0_comesTo n y2 y3 = some p0_0 → (∀ (H : Heap) (locs : List Loc) (ls : Array Slot), va_P G vwCl (wm_X7_isOnCycle cA h0 h0_tails h0_comesTo h0_by h0_onward s0__size s0__told s0__whole s0__anyStuck s0__loudest s0_tails s0_comesTo) H → va_D A (wm_X7_isOnCycle cA h0 h0_tails h0_comesTo h0_by h0_onward s0__size s0__told s0__whole s0__anyStuck s0__loudest s0_tails s0_comesTo) → va_S A s.heap H locs → lv_has ls 4 [(2, .int p0_0)] → W p l e (rmX 3 82) s m ar below meth c H locs 0 0 Q (F0 m 39 ls [])) → W p l e (rmX 3 82) s m ar below meth c H locs 0 0 Q (F0 m 4 ls []) := by
    intro n
    induction n with
    | zero =>
      intro y2 y3 p0_0 H locs ls hP hD hS hl hok
      rw [fX7_periodOf_L4] at hok
      cases hok
    | succ n ih =>
      intro y2 y3 p0_0 H locs ls hP hD hS hl hok K
      rw [fX7_periodOf_L4] at hok
      refine lv_iload_n hx hb dX7_periodOf_4 rfl (lv_at hl 3 rfl) ?_
      refine lv_aload_n hx hb dX7_periodOf_5 rfl (lv_at hl 0 rfl) ?_
      refine va_get (ci := 7) (v := .int s0__size) (C := RX7) (T := TX7) (N := 9) hx hb hts hinX7 hown hK hP 0 rfl rfl 4 (by decide) (hts _ (List.mem_of_getElem? (i := 1) rfl)) (fun _ h9 => h9) rfl dX7_periodOf_6 ?_
      refine lv_icmp_ge (tgt := 39) hx hb dX7_periodOf_9 (by decide) (fun c => ?_) (fun c => ?_)
      · replace hok := g_pos hok c
        cases hok
        exact K _ _ _ hP hD hS (lv_sub hl [2] rfl)
      replace hok := g_neg hok c
      refine lv_aload_n hx hb dX7_periodOf_12 rfl (lv_at hl 0 rfl) ?_
      refine lv_iload_n hx hb dX7_periodOf_13 rfl (lv_at hl 3 rfl) ?_
      obtain ⟨r1, hq, hok⟩ := g_bnd1 hok
      refine cG (is := [0, 1, 2]) (wc := (wm_X7_isOnCycle cA h0 h0_tails h0_comesTo h0_by h0_onward s0__size s0__told s0__whole s0__anyStuck s0__loudest s0_tails s0_comesTo)) (w1 := (wm_X7_isOnCycle cA h0 h0_tails h0_comesTo h0_by h0_onward s0__size s0__told s0__whole s0__anyStuck s0__loudest s0_tails s0_comesTo)) (rv := (some (.int r1))) (st1 := [.int r1]) (va_runV (Ts := wsX7_periodOf) (As := [.int y3]) (rest := []) ⟨hx, hb, hml, hown, hts⟩ (c_X7_isOnCycle l G cA ts h0 h0_tails h0_comesTo h0_by h0_onward y3 s0__size s0__told s0__whole s0__anyStuck s0__loudest s0_tails s0_comesTo r1 hq H.size) (cwV 1 hts gX7_periodOf_X7_isOnCycle rfl rfl rfl (by decide +kernel) ⟨Nat.le_of_ble_eq_true rfl, Nat.le_of_ble_eq_true rfl⟩) (pre_V (ci := 7) (q0 := 0) (is := [0, 1, 2]) rfl rfl hP hD hS hA hK hZ (by decide +kernel) (by rfl)) rfl rfl hl.1 rfl (by exact lv_room (Nat.le_of_ble_eq_true rfl)) dX7_periodOf_14 ⟨Nat.le_refl _, Nat.le_refl _⟩) hP hD hS hA (by decide +kernel) (by rfl) (by rfl) rfl (fun H locs hP hD hS => ?_)
      have hP : va_P G vwCl (wm_X7_isOnCycle cA h0 h0_tails h0_comesTo h0_by h0_onward s0__size s0__told s0__whole s0__anyStuck s0__loudest s0_tails s0_comesTo) H := hP
      have hD : va_D A (wm_X7_isOnCycle cA h0 h0_tails h0_comesTo h0_by h0_onward s0__size s0__told s0__whole s0__anyStuck s0__loudest s0_tails s0_comesTo) := hD
      refine lv_if_eq (tgt := 33) hx hb dX7_periodOf_17 (by decide) (fun c => ?_) (fun c => ?_)
      · replace hok := g_pos hok c
        refine lv_iinc (v := (y3 + 1)) (lv' := [(3, .int (y3 + 1)), (0, .ref h0), (1, .int x1), (2, .int y2)]) hx hb dX7_periodOf_33 hl (k := 3) rfl rfl (by decide) rfl (fun ls hl => ?_)
        refine lv_goto (tgt := 4) hx hb dX7_periodOf_36 (by decide) ?_
        exact ih y2 (y3 + 1) p0_0 _ _ _ hP hD hS (lv_sub hl [1, 2, 3, 0] rfl) hok K
      replace hok := g_neg hok c
      refine lv_aload_n hx hb dX7_periodOf_20 rfl (lv_at hl 0 rfl) ?_
      refine va_get (ci := 7) (v := .ref h0_comesTo) (C := RX7) (T := TX7) (N := 9) hx hb hts hinX7 hown hK hP 0 rfl rfl 3 (by decide) (hts _ (List.mem_of_getElem? (i := 2) rfl)) (fun _ h9 => h9) rfl dX7_periodOf_21 ?_
      refine lv_iload_n hx hb dX7_periodOf_24 rfl (lv_at hl 3 rfl) ?_
      obtain ⟨hin, hok⟩ := g_no hok
      refine x_iald (k := y3.toNatClampNeg) hx hb hK hP 2 0 rfl rfl hin rfl dX7_periodOf_25 ?_
      refine lv_iload_n hx hb dX7_periodOf_26 rfl (lv_at hl 1 rfl) ?_
      refine lv_icmp_ne (tgt := 33) hx hb dX7_periodOf_27 (by decide) (fun c => ?_) (fun c => ?_)
      · replace hok := g_neg hok c
        refine lv_iinc (v := (y3 + 1)) (lv' := [(3, .int (y3 + 1)), (0, .ref h0), (1, .int x1), (2, .int y2)]) hx hb dX7_periodOf_33 hl (k := 3) rfl rfl (by decide) rfl (fun ls hl => ?_)
        refine lv_goto (tgt := 4) hx hb dX7_periodOf_36 (by decide) ?_
        exact ih y2 (y3 + 1) p0_0 _ _ _ hP hD hS (lv_sub hl [1, 2, 3, 0] rfl) hok K
      replace hok := g_pos hok c
      refine lv_iinc (v := (y2 + 1)) (lv' := [(2, .int (y2 + 1)), (0, .ref h0), (1, .int x1), (3, .int y3)]) hx hb dX7_periodOf_30 hl (k := 2) rfl rfl (by decide) rfl (fun ls hl => ?_)
      refine lv_iinc (v := (y3 + 1)) (lv' := [(3, .int (y3 + 1)), (2, .int (y2 + 1)), (0, .ref h0), (1, .int x1)]) hx hb dX7_periodOf_33 hl (k := 3) rfl rfl (by decide) rfl (fun ls hl => ?_)
      refine lv_goto (tgt := 4) hx hb dX7_periodOf_36 (by decide) ?_
      exact ih (y2 + 1) (y3 + 1) p0_0 _ _ _ hP hD hS (lv_sub hl [2, 3, 1, 0] rfl) hok K
  unfold fX7_periodOf at hok
  refine lv_iconst (v := 0) hx hb dX7_periodOf_0 (by decide) ?_
  refine lv_istore_n (lv' := [(2, .int (0:Int32)), (0, .ref h0), (1, .int x1)]) hx hb dX7_periodOf_1 rfl hl (by decide) rfl (fun ls hl => ?_)
  refine lv_iconst (v := 0) hx hb dX7_periodOf_2 (by decide) ?_
  refine lv_istore_n (lv' := [(3, .int (0:Int32)), (2, .int (0:Int32)), (0, .ref h0), (1, .int x1)]) hx hb dX7_periodOf_3 rfl hl (by decide) rfl (fun ls hl => ?_)
  obtain ⟨o2, hq, hok⟩ := g_bnd1 hok
  refine L_4 FUEL (0:Int32) (0:Int32) o2 _ _ _ hP hD hS (lv_sub hl [2, 3, 1, 0] rfl) hq (fun H locs ls hP hD hS hl => ?_)
  refine lv_iload_n hx hb dX7_periodOf_39 rfl (lv_at hl 0 rfl) ?_
  cases hok
  exact cr_i hx hb hr hlocks hQ dX7_periodOf_40 hP hS
set_option maxHeartbeats 40000000 in
set_option maxRecDepth 100000 in
theorem c_X7_amplitudeOf (l : Launch) (G : va_G) (cA : Nat → ClassId) (ts : Nat → Nat) (h0 : Nat) (h0_by : Nat) (h0_by_numbers : Nat) (h0_tails : Nat) (h0_comesTo : Nat) (h0_onward : Nat) (h0_by_words : Nat) (x1 : Int32) (s0__size : Int32) (s0__told : Int32) (s0__whole : Int32) (s0__anyStuck : Int32) (s0__loudest : Int32) (s0_by__all : Int32) (s0_by__v : Int32) (s0_by__loss : Int32) (s0_by__result : Int32) (s0_by__over : Int32) (s0_by__heldAll : Int32) (s0_by__heldRounded : Int32) (s0_by_numbers : Nat → Int32) (s0_tails : Nat → Int32) (s0_comesTo : Nat → Int32) (r : Int32) (hok : fX7_amplitudeOf x1 s0__size s0_by_numbers s0_tails s0_comesTo = some r) : Ct l G cA ts yX7_amplitudeOf wsX7_amplitudeOf 3 82 [.ref h0, .int x1] (wm_X7_amplitudeOf cA h0 h0_by h0_by_numbers h0_tails h0_comesTo h0_onward h0_by_words s0__size s0__told s0__whole s0__anyStuck s0__loudest s0_by__all s0_by__v s0_by__loss s0_by__result s0_by__over s0_by__heldAll s0_by__heldRounded s0_by_numbers s0_tails s0_comesTo) (wm_X7_amplitudeOf cA h0 h0_by h0_by_numbers h0_tails h0_comesTo h0_onward h0_by_words s0__size s0__told s0__whole s0__anyStuck s0__loudest s0_by__all s0_by__v s0_by__loss s0_by__result s0_by__over s0_by__heldAll s0_by__heldRounded s0_by_numbers s0_tails s0_comesTo) (some (.int r)) := by
  refine Ct.intro (cc := cX7_amplitudeOf) (maxL := 4) (ret := some .int) (by decide +kernel) rfl (Nat.le_of_ble_eq_true rfl) ?_
  intro p e s m ar below meth c A Q hx hb hr hml hown hlocks hts hK hZ hA hQ hP hD hS ls hl
  have hown : s.vm.findClass RX7 = some m.cls := hown
  have hinX7 : ∀ w ∈ wsX70, w ∈ wsX7_amplitudeOf := fun _ h => List.mem_cons_of_mem _ (List.mem_append_left _ (List.mem_append_right _ (h)))
  have hl : lv_has ls 4 [(0, .ref h0), (1, .int x1)] := hl
  have hP : va_P G vwCl (wm_X7_amplitudeOf cA h0 h0_by h0_by_numbers h0_tails h0_comesTo h0_onward h0_by_words s0__size s0__told s0__whole s0__anyStuck s0__loudest s0_by__all s0_by__v s0_by__loss s0_by__result s0_by__over s0_by__heldAll s0_by__heldRounded s0_by_numbers s0_tails s0_comesTo) s.heap := hP
  have hD : va_D A (wm_X7_amplitudeOf cA h0 h0_by h0_by_numbers h0_tails h0_comesTo h0_onward h0_by_words s0__size s0__told s0__whole s0__anyStuck s0__loudest s0_by__all s0_by__v s0_by__loss s0_by__result s0_by__over s0_by__heldAll s0_by__heldRounded s0_by_numbers s0_tails s0_comesTo) := hD
  have L_4 : ∀ (n : Nat) (y2 : Int32) (y3 : Int32) (p0_0 : Int32) (H : Heap) (locs : List Loc) (ls : Array Slot), va_P G vwCl (wm_X7_amplitudeOf cA h0 h0_by h0_by_numbers h0_tails h0_comesTo h0_onward h0_by_words s0__size s0__told s0__whole s0__anyStuck s0__loudest s0_by__all s0_by__v s0_by__loss s0_by__result s0_by__over s0_by__heldAll s0_by__heldRounded s0_by_numbers s0_tails s0_comesTo) H → va_D A (wm_X7_amplitudeOf cA h0 h0_by h0_by_numbers h0_tails h0_comesTo h0_onward h0_by_words s0__size s0__told s0__whole s0__anyStuck s0__loudest s0_by__all s0_by__v s0_by__loss s0_by__result s0_by__over s0_by__heldAll s0_by__heldRounded s0_by_numbers s0_tails s0_comesTo) → va_S A s.heap H locs → lv_has ls 4 [(0, .ref h0), (1, .int x1), (2, .int y2), (3, .int y3)] → fX7_amplitudeOf_L4 x1 s0__size s0_by_numbers s0_tails s0_comesTo n y2 y3 = some p0_0 → (∀ (H : Heap) (locs : List Loc) (ls : Array Slot), va_P G vwCl (wm_X7_amplitudeOf cA h0 h0_by h0_by_numbers h0_tails h0_comesTo h0_onward h0_by_words s0__size s0__told s0__whole s0__anyStuck s0__loudest s0_by__all s0_by__v s0_by__loss s0_by__result s0_by__over s0_by__heldAll s0_by__heldRounded s0_by_numbers s0_tails s0_comesTo) H → va_D A (wm_X7_amplitudeOf cA h0 h0_by h0_by_numbers h0_tails h0_comesTo h0_onward h0_by_words s0__size s0__told s0__whole s0__anyStuck s0__loudest s0_by__all s0_by__v s0_by__loss s0_by__result s0_by__over s0_by__heldAll s0_by__heldRounded s0_by_numbers s0_tails s0_comesTo) → va_S A s.heap H locs → lv_has ls 4 [(2, .int p0_0)] → W p l e (rmX 3 82) s m ar below meth c H locs 0 0 Q (F0 m 52 ls [])) → W p l e (rmX 3 82) s m ar below meth c H locs 0 0 Q (F0 m 4 ls []) := by
    intro n
    induction n with
    | zero =>
      intro y2 y3 p0_0 H locs ls hP hD hS hl hok
      rw [fX7_amplitudeOf_L4] at hok
      cases hok
    | succ n ih =>
      intro y2 y3 p0_0 H locs ls hP hD hS hl hok K
      rw [fX7_amplitudeOf_L4] at hok
      refine lv_iload_n hx hb dX7_amplitudeOf_4 rfl (lv_at hl 3 rfl) ?_
      refine lv_aload_n hx hb dX7_amplitudeOf_5 rfl (lv_at hl 0 rfl) ?_
      refine va_get (ci := 7) (v := .int s0__size) (C := RX7) (T := TX7) (N := 9) hx hb hts hinX7 hown hK hP 0 rfl rfl 4 (by decide) (hts _ (List.mem_of_getElem? (i := 1) rfl)) (fun _ h9 => h9) rfl dX7_amplitudeOf_6 ?_
      refine lv_icmp_ge (tgt := 52) hx hb dX7_amplitudeOf_9 (by decide) (fun c => ?_) (fun c => ?_)
      · replace hok := g_pos hok c
        cases hok
        exact K _ _ _ hP hD hS (lv_sub hl [2] rfl)
      replace hok := g_neg hok c
      refine lv_aload_n hx hb dX7_amplitudeOf_12 rfl (lv_at hl 0 rfl) ?_
      refine lv_iload_n hx hb dX7_amplitudeOf_13 rfl (lv_at hl 3 rfl) ?_
      obtain ⟨r1, hq, hok⟩ := g_bnd1 hok
      refine cG (is := [0, 3, 4]) (wc := (wm_X7_isOnCycle cA h0 h0_tails h0_comesTo h0_by h0_onward s0__size s0__told s0__whole s0__anyStuck s0__loudest s0_tails s0_comesTo)) (w1 := (wm_X7_isOnCycle cA h0 h0_tails h0_comesTo h0_by h0_onward s0__size s0__told s0__whole s0__anyStuck s0__loudest s0_tails s0_comesTo)) (rv := (some (.int r1))) (st1 := [.int r1]) (va_runV (Ts := wsX7_amplitudeOf) (As := [.int y3]) (rest := []) ⟨hx, hb, hml, hown, hts⟩ (c_X7_isOnCycle l G cA ts h0 h0_tails h0_comesTo h0_by h0_onward y3 s0__size s0__told s0__whole s0__anyStuck s0__loudest s0_tails s0_comesTo r1 hq H.size) (cwV 1 hts gX7_amplitudeOf_X7_isOnCycle rfl rfl rfl (by decide +kernel) ⟨Nat.le_of_ble_eq_true rfl, Nat.le_of_ble_eq_true rfl⟩) (pre_V (ci := 7) (q0 := 0) (is := [0, 3, 4]) rfl rfl hP hD hS hA hK hZ (by decide +kernel) (by rfl)) rfl rfl hl.1 rfl (by exact lv_room (Nat.le_of_ble_eq_true rfl)) dX7_amplitudeOf_14 ⟨Nat.le_refl _, Nat.le_refl _⟩) hP hD hS hA (by decide +kernel) (by rfl) (by rfl) rfl (fun H locs hP hD hS => ?_)
      have hP : va_P G vwCl (wm_X7_amplitudeOf cA h0 h0_by h0_by_numbers h0_tails h0_comesTo h0_onward h0_by_words s0__size s0__told s0__whole s0__anyStuck s0__loudest s0_by__all s0_by__v s0_by__loss s0_by__result s0_by__over s0_by__heldAll s0_by__heldRounded s0_by_numbers s0_tails s0_comesTo) H := hP
      have hD : va_D A (wm_X7_amplitudeOf cA h0 h0_by h0_by_numbers h0_tails h0_comesTo h0_onward h0_by_words s0__size s0__told s0__whole s0__anyStuck s0__loudest s0_by__all s0_by__v s0_by__loss s0_by__result s0_by__over s0_by__heldAll s0_by__heldRounded s0_by_numbers s0_tails s0_comesTo) := hD
      refine lv_if_eq (tgt := 46) hx hb dX7_amplitudeOf_17 (by decide) (fun c => ?_) (fun c => ?_)
      · replace hok := g_pos hok c
        refine lv_iinc (v := (y3 + 1)) (lv' := [(3, .int (y3 + 1)), (0, .ref h0), (1, .int x1), (2, .int y2)]) hx hb dX7_amplitudeOf_46 hl (k := 3) rfl rfl (by decide) rfl (fun ls hl => ?_)
        refine lv_goto (tgt := 4) hx hb dX7_amplitudeOf_49 (by decide) ?_
        exact ih y2 (y3 + 1) p0_0 _ _ _ hP hD hS (lv_sub hl [1, 2, 3, 0] rfl) hok K
      replace hok := g_neg hok c
      refine lv_aload_n hx hb dX7_amplitudeOf_20 rfl (lv_at hl 0 rfl) ?_
      refine va_get (ci := 7) (v := .ref h0_comesTo) (C := RX7) (T := TX7) (N := 9) hx hb hts hinX7 hown hK hP 0 rfl rfl 3 (by decide) (hts _ (List.mem_of_getElem? (i := 2) rfl)) (fun _ h9 => h9) rfl dX7_amplitudeOf_21 ?_
      refine lv_iload_n hx hb dX7_amplitudeOf_24 rfl (lv_at hl 3 rfl) ?_
      obtain ⟨hin, hok⟩ := g_no hok
      refine x_iald (k := y3.toNatClampNeg) hx hb hK hP 4 0 rfl rfl hin rfl dX7_amplitudeOf_25 ?_
      refine lv_iload_n hx hb dX7_amplitudeOf_26 rfl (lv_at hl 1 rfl) ?_
      refine lv_icmp_ne (tgt := 46) hx hb dX7_amplitudeOf_27 (by decide) (fun c => ?_) (fun c => ?_)
      · replace hok := g_neg hok c
        refine lv_iinc (v := (y3 + 1)) (lv' := [(3, .int (y3 + 1)), (0, .ref h0), (1, .int x1), (2, .int y2)]) hx hb dX7_amplitudeOf_46 hl (k := 3) rfl rfl (by decide) rfl (fun ls hl => ?_)
        refine lv_goto (tgt := 4) hx hb dX7_amplitudeOf_49 (by decide) ?_
        exact ih y2 (y3 + 1) p0_0 _ _ _ hP hD hS (lv_sub hl [1, 2, 3, 0] rfl) hok K
      replace hok := g_pos hok c
      refine lv_iload_n hx hb dX7_amplitudeOf_30 rfl (lv_at hl 2 rfl) ?_
      refine lv_aload_n hx hb dX7_amplitudeOf_31 rfl (lv_at hl 0 rfl) ?_
      refine va_get (ci := 7) (v := .ref h0_by) (C := RX7) (T := TX7) (N := 9) hx hb hts hinX7 hown hK hP 0 rfl rfl 0 (by decide) (hts _ (List.mem_of_getElem? (i := 3) rfl)) (fun _ h9 => h9) rfl dX7_amplitudeOf_32 ?_
      refine lv_iload_n hx hb dX7_amplitudeOf_35 rfl (lv_at hl 3 rfl) ?_
      obtain ⟨r2, hq, hok⟩ := g_bnd1 hok
      refine cG (is := [1, 2]) (wc := (wm_X3_unit cA h0_by h0_by_numbers h0_by_words s0_by__all s0_by__v s0_by__loss s0_by__result s0_by__over s0_by__heldAll s0_by__heldRounded s0_by_numbers)) (w1 := (wm_X3_unit cA h0_by h0_by_numbers h0_by_words s0_by__all s0_by__v s0_by__loss s0_by__result s0_by__over s0_by__heldAll s0_by__heldRounded s0_by_numbers)) (rv := (some (.int r2))) (st1 := [.int r2, .int y2]) (va_runV (Ts := wsX7_amplitudeOf) (As := [.int y3]) (rest := [.int y2]) ⟨hx, hb, hml, hown, hts⟩ (c_X3_latestIn l G cA ts h0_by h0_by_numbers h0_by_words y3 s0_by__all s0_by__v s0_by__loss s0_by__result s0_by__over s0_by__heldAll s0_by__heldRounded s0_by_numbers r2 hq H.size) (cwV 1 hts gX7_amplitudeOf_X3_latestIn rfl rfl rfl (by decide +kernel) ⟨Nat.le_of_ble_eq_true rfl, Nat.le_of_ble_eq_true rfl⟩) (pre_V (ci := 3) (q0 := 1) (is := [1, 2]) rfl rfl hP hD hS hA hK hZ (by decide +kernel) (by rfl)) rfl rfl hl.1 rfl (by exact lv_room (Nat.le_of_ble_eq_true rfl)) dX7_amplitudeOf_36 ⟨Nat.le_refl _, Nat.le_refl _⟩) hP hD hS hA (by decide +kernel) (by rfl) (by rfl) rfl (fun H locs hP hD hS => ?_)
      have hP : va_P G vwCl (wm_X7_amplitudeOf cA h0 h0_by h0_by_numbers h0_tails h0_comesTo h0_onward h0_by_words s0__size s0__told s0__whole s0__anyStuck s0__loudest s0_by__all s0_by__v s0_by__loss s0_by__result s0_by__over s0_by__heldAll s0_by__heldRounded s0_by_numbers s0_tails s0_comesTo) H := hP
      have hD : va_D A (wm_X7_amplitudeOf cA h0 h0_by h0_by_numbers h0_tails h0_comesTo h0_onward h0_by_words s0__size s0__told s0__whole s0__anyStuck s0__loudest s0_by__all s0_by__v s0_by__loss s0_by__result s0_by__over s0_by__heldAll s0_by__heldRounded s0_by_numbers s0_tails s0_comesTo) := hD
      refine va_mabs hx hb (hml.trans hl.1.symm) hown (hts _ (List.mem_of_getElem? (i := 4) rfl)) (hts _ (List.mem_of_getElem? (i := 5) rfl)) (hts _ (List.mem_of_getElem? (i := 6) rfl)) (hts _ (List.mem_of_getElem? (i := 7) rfl)) (Nat.le_of_ble_eq_true rfl) (Nat.le_of_ble_eq_true rfl) (Nat.zero_le _) (Nat.zero_le _) dX7_amplitudeOf_39 ?_
      refine va_mmax hx hb (hml.trans hl.1.symm) hown (hts _ (List.mem_of_getElem? (i := 8) rfl)) (hts _ (List.mem_of_getElem? (i := 9) rfl)) (hts _ (List.mem_of_getElem? (i := 6) rfl)) (hts _ (List.mem_of_getElem? (i := 10) rfl)) (Nat.le_of_ble_eq_true rfl) (Nat.le_of_ble_eq_true rfl) (Nat.zero_le _) (Nat.zero_le _) dX7_amplitudeOf_42 ?_
      refine lv_istore_n (lv' := [(2, .int (if y2 < (if 0 ≤ r2 then r2 else 0 - r2) then (if 0 ≤ r2 then r2 else 0 - r2) else y2)), (0, .ref h0), (1, .int x1), (3, .int y3)]) hx hb dX7_amplitudeOf_45 rfl hl (by decide) rfl (fun ls hl => ?_)
      refine lv_iinc (v := (y3 + 1)) (lv' := [(3, .int (y3 + 1)), (2, .int (if y2 < (if 0 ≤ r2 then r2 else 0 - r2) then (if 0 ≤ r2 then r2 else 0 - r2) else y2)), (0, .ref h0), (1, .int x1)]) hx hb dX7_amplitudeOf_46 hl (k := 3) rfl rfl (by decide) rfl (fun ls hl => ?_)
      refine lv_goto (tgt := 4) hx hb dX7_amplitudeOf_49 (by decide) ?_
      exact ih (if y2 < (if 0 ≤ r2 then r2 else 0 - r2) then (if 0 ≤ r2 then r2 else 0 - r2) else y2) (y3 + 1) p0_0 _ _ _ hP hD hS (lv_sub hl [2, 3, 1, 0] rfl) hok K
  unfold fX7_amplitudeOf at hok
  refine lv_iconst (v := 0) hx hb dX7_amplitudeOf_0 (by decide) ?_
  refine lv_istore_n (lv' := [(2, .int (0:Int32)), (0, .ref h0), (1, .int x1)]) hx hb dX7_amplitudeOf_1 rfl hl (by decide) rfl (fun ls hl => ?_)
  refine lv_iconst (v := 0) hx hb dX7_amplitudeOf_2 (by decide) ?_
  refine lv_istore_n (lv' := [(3, .int (0:Int32)), (2, .int (0:Int32)), (0, .ref h0), (1, .int x1)]) hx hb dX7_amplitudeOf_3 rfl hl (by decide) rfl (fun ls hl => ?_)
  obtain ⟨o3, hq, hok⟩ := g_bnd1 hok
  refine L_4 FUEL (0:Int32) (0:Int32) o3 _ _ _ hP hD hS (lv_sub hl [2, 3, 1, 0] rfl) hq (fun H locs ls hP hD hS hl => ?_)
  refine lv_iload_n hx hb dX7_amplitudeOf_52 rfl (lv_at hl 0 rfl) ?_
  cases hok
  exact cr_i hx hb hr hlocks hQ dX7_amplitudeOf_53 hP hS
set_option maxHeartbeats 40000000 in
set_option maxRecDepth 100000 in
theorem c_X7_basinOf (l : Launch) (G : va_G) (cA : Nat → ClassId) (ts : Nat → Nat) (h0 : Nat) (h0_comesTo : Nat) (h0_by : Nat) (h0_onward : Nat) (h0_tails : Nat) (x1 : Int32) (s0__size : Int32) (s0__told : Int32) (s0__whole : Int32) (s0__anyStuck : Int32) (s0__loudest : Int32) (s0_comesTo : Nat → Int32) (r : Int32) (hok : fX7_basinOf x1 s0__size s0_comesTo = some r) : Ct l G cA ts yX7_basinOf wsX7_basinOf 2 61 [.ref h0, .int x1] (wm_X7_cycleFrom cA h0 h0_comesTo h0_by h0_onward h0_tails s0__size s0__told s0__whole s0__anyStuck s0__loudest s0_comesTo) (wm_X7_cycleFrom cA h0 h0_comesTo h0_by h0_onward h0_tails s0__size s0__told s0__whole s0__anyStuck s0__loudest s0_comesTo) (some (.int r)) := by
  refine Ct.intro (cc := cX7_basinOf) (maxL := 4) (ret := some .int) (by decide +kernel) rfl (Nat.le_of_ble_eq_true rfl) ?_
  intro p e s m ar below meth c A Q hx hb hr hml hown hlocks hts hK hZ hA hQ hP hD hS ls hl
  have hown : s.vm.findClass RX7 = some m.cls := hown
  have hinX7 : ∀ w ∈ wsX70, w ∈ wsX7_basinOf := fun _ h => List.mem_cons_of_mem _ (List.mem_append_right _ (h))
  have hl : lv_has ls 4 [(0, .ref h0), (1, .int x1)] := hl
  have hP : va_P G vwCl (wm_X7_cycleFrom cA h0 h0_comesTo h0_by h0_onward h0_tails s0__size s0__told s0__whole s0__anyStuck s0__loudest s0_comesTo) s.heap := hP
  have hD : va_D A (wm_X7_cycleFrom cA h0 h0_comesTo h0_by h0_onward h0_tails s0__size s0__told s0__whole s0__anyStuck s0__loudest s0_comesTo) := hD
  have L_4 : ∀ (n : Nat) (y2 : Int32) (y3 : Int32) (p0_0 : Int32) (H : Heap) (locs : List Loc) (ls : Array Slot), va_P G vwCl (wm_X7_cycleFrom cA h0 h0_comesTo h0_by h0_onward h0_tails s0__size s0__told s0__whole s0__anyStuck s0__loudest s0_comesTo) H → va_D A (wm_X7_cycleFrom cA h0 h0_comesTo h0_by h0_onward h0_tails s0__size s0__told s0__whole s0__anyStuck s0__loudest s0_comesTo) → va_S A s.heap H locs → lv_has ls 4 [(0, .ref h0), (1, .int x1), (2, .int y2), (3, .int y3)] → fX7_basinOf_L4 x1 s0__size s0_comesTo n y2 y3 = some p0_0 → (∀ (H : Heap) (locs : List Loc) (ls : Array Slot), va_P G vwCl (wm_X7_cycleFrom cA h0 h0_comesTo h0_by h0_onward h0_tails s0__size s0__told s0__whole s0__anyStuck s0__loudest s0_comesTo) H → va_D A (wm_X7_cycleFrom cA h0 h0_comesTo h0_by h0_onward h0_tails s0__size s0__told s0__whole s0__anyStuck s0__loudest s0_comesTo) → va_S A s.heap H locs → lv_has ls 4 [(2, .int p0_0)] → W p l e (rmX 2 61) s m ar below meth c H locs 0 0 Q (F0 m 39 ls [])) → W p l e (rmX 2 61) s m ar below meth c H locs 0 0 Q (F0 m 4 ls []) := by
    intro n
    induction n with
    | zero =>
      intro y2 y3 p0_0 H locs ls hP hD hS hl hok
      rw [fX7_basinOf_L4] at hok
      cases hok
    | succ n ih =>
      intro y2 y3 p0_0 H locs ls hP hD hS hl hok K
      rw [fX7_basinOf_L4] at hok
      refine lv_iload_n hx hb dX7_basinOf_4 rfl (lv_at hl 3 rfl) ?_
      refine lv_aload_n hx hb dX7_basinOf_5 rfl (lv_at hl 0 rfl) ?_
      refine va_get (ci := 7) (v := .int s0__size) (C := RX7) (T := TX7) (N := 9) hx hb hts hinX7 hown hK hP 0 rfl rfl 4 (by decide) (hts _ (List.mem_of_getElem? (i := 1) rfl)) (fun _ h9 => h9) rfl dX7_basinOf_6 ?_
      refine lv_icmp_ge (tgt := 39) hx hb dX7_basinOf_9 (by decide) (fun c => ?_) (fun c => ?_)
      · replace hok := g_pos hok c
        cases hok
        exact K _ _ _ hP hD hS (lv_sub hl [2] rfl)
      replace hok := g_neg hok c
      refine lv_aload_n hx hb dX7_basinOf_12 rfl (lv_at hl 0 rfl) ?_
      refine lv_iload_n hx hb dX7_basinOf_13 rfl (lv_at hl 3 rfl) ?_
      obtain ⟨r1, hq, hok⟩ := g_bnd1 hok
      refine cG (is := [0]) (wc := (wm_X7_is cA h0 h0_by h0_onward h0_tails h0_comesTo s0__size s0__told s0__whole s0__anyStuck s0__loudest)) (w1 := (wm_X7_is cA h0 h0_by h0_onward h0_tails h0_comesTo s0__size s0__told s0__whole s0__anyStuck s0__loudest)) (rv := (some (.int r1))) (st1 := [.int r1]) (va_runV (Ts := wsX7_basinOf) (As := [.int y3]) (rest := []) ⟨hx, hb, hml, hown, hts⟩ (c_X7_is l G cA ts h0 h0_by h0_onward h0_tails h0_comesTo y3 s0__size s0__told s0__whole s0__anyStuck s0__loudest r1 hq H.size) (cwV 1 hts gX7_basinOf_X7_is rfl rfl rfl (by decide +kernel) ⟨Nat.le_of_ble_eq_true rfl, Nat.le_of_ble_eq_true rfl⟩) (pre_V (ci := 7) (q0 := 0) (is := [0]) rfl rfl hP hD hS hA hK hZ (by decide +kernel) (by rfl)) rfl rfl hl.1 rfl (by exact lv_room (Nat.le_of_ble_eq_true rfl)) dX7_basinOf_14 ⟨Nat.le_refl _, Nat.le_refl _⟩) hP hD hS hA (by decide +kernel) (by rfl) (by rfl) rfl (fun H locs hP hD hS => ?_)
      have hP : va_P G vwCl (wm_X7_cycleFrom cA h0 h0_comesTo h0_by h0_onward h0_tails s0__size s0__told s0__whole s0__anyStuck s0__loudest s0_comesTo) H := hP
      have hD : va_D A (wm_X7_cycleFrom cA h0 h0_comesTo h0_by h0_onward h0_tails s0__size s0__told s0__whole s0__anyStuck s0__loudest s0_comesTo) := hD
      refine lv_if_eq (tgt := 39) hx hb dX7_basinOf_17 (by decide) (fun c => ?_) (fun c => ?_)
      · replace hok := g_pos hok c
        cases hok
        exact K _ _ _ hP hD hS (lv_sub hl [2] rfl)
      replace hok := g_neg hok c
      refine lv_aload_n hx hb dX7_basinOf_20 rfl (lv_at hl 0 rfl) ?_
      refine va_get (ci := 7) (v := .ref h0_comesTo) (C := RX7) (T := TX7) (N := 9) hx hb hts hinX7 hown hK hP 0 rfl rfl 3 (by decide) (hts _ (List.mem_of_getElem? (i := 2) rfl)) (fun _ h9 => h9) rfl dX7_basinOf_21 ?_
      refine lv_iload_n hx hb dX7_basinOf_24 rfl (lv_at hl 3 rfl) ?_
      obtain ⟨hin, hok⟩ := g_no hok
      refine x_iald (k := y3.toNatClampNeg) hx hb hK hP 1 0 rfl rfl hin rfl dX7_basinOf_25 ?_
      refine lv_iload_n hx hb dX7_basinOf_26 rfl (lv_at hl 1 rfl) ?_
      refine lv_icmp_ne (tgt := 33) hx hb dX7_basinOf_27 (by decide) (fun c => ?_) (fun c => ?_)
      · replace hok := g_neg hok c
        refine lv_iinc (v := (y3 + 1)) (lv' := [(3, .int (y3 + 1)), (0, .ref h0), (1, .int x1), (2, .int y2)]) hx hb dX7_basinOf_33 hl (k := 3) rfl rfl (by decide) rfl (fun ls hl => ?_)
        refine lv_goto (tgt := 4) hx hb dX7_basinOf_36 (by decide) ?_
        exact ih y2 (y3 + 1) p0_0 _ _ _ hP hD hS (lv_sub hl [1, 2, 3, 0] rfl) hok K
      replace hok := g_pos hok c
      refine lv_iinc (v := (y2 + 1)) (lv' := [(2, .int (y2 + 1)), (0, .ref h0), (1, .int x1), (3, .int y3)]) hx hb dX7_basinOf_30 hl (k := 2) rfl rfl (by decide) rfl (fun ls hl => ?_)
      refine lv_iinc (v := (y3 + 1)) (lv' := [(3, .int (y3 + 1)), (2, .int (y2 + 1)), (0, .ref h0), (1, .int x1)]) hx hb dX7_basinOf_33 hl (k := 3) rfl rfl (by decide) rfl (fun ls hl => ?_)
      refine lv_goto (tgt := 4) hx hb dX7_basinOf_36 (by decide) ?_
      exact ih (y2 + 1) (y3 + 1) p0_0 _ _ _ hP hD hS (lv_sub hl [2, 3, 1, 0] rfl) hok K
  unfold fX7_basinOf at hok
  refine lv_iconst (v := 0) hx hb dX7_basinOf_0 (by decide) ?_
  refine lv_istore_n (lv' := [(2, .int (0:Int32)), (0, .ref h0), (1, .int x1)]) hx hb dX7_basinOf_1 rfl hl (by decide) rfl (fun ls hl => ?_)
  refine lv_iconst (v := 0) hx hb dX7_basinOf_2 (by decide) ?_
  refine lv_istore_n (lv' := [(3, .int (0:Int32)), (2, .int (0:Int32)), (0, .ref h0), (1, .int x1)]) hx hb dX7_basinOf_3 rfl hl (by decide) rfl (fun ls hl => ?_)
  obtain ⟨o2, hq, hok⟩ := g_bnd1 hok
  refine L_4 FUEL (0:Int32) (0:Int32) o2 _ _ _ hP hD hS (lv_sub hl [2, 3, 1, 0] rfl) hq (fun H locs ls hP hD hS hl => ?_)
  refine lv_iload_n hx hb dX7_basinOf_39 rfl (lv_at hl 0 rfl) ?_
  cases hok
  exact cr_i hx hb hr hlocks hQ dX7_basinOf_40 hP hS
set_option maxHeartbeats 40000000 in
set_option maxRecDepth 100000 in
theorem c_X7_behindOnCycle (l : Launch) (G : va_G) (cA : Nat → ClassId) (ts : Nat → Nat) (h0 : Nat) (h0_onward : Nat) (h0_tails : Nat) (h0_comesTo : Nat) (h0_by : Nat) (x1 : Int32) (x2 : Int32) (s0__size : Int32) (s0__told : Int32) (s0__whole : Int32) (s0__anyStuck : Int32) (s0__loudest : Int32) (s0_onward : Nat → Int32) (s0_tails : Nat → Int32) (s0_comesTo : Nat → Int32) (r : Int32) (hok : fX7_behindOnCycle x1 x2 s0__size s0_onward s0_tails s0_comesTo = some r) : Ct l G cA ts yX7_behindOnCycle wsX7_behindOnCycle 4 105 [.ref h0, .int x1, .int x2] (wm_X7_joinWay cA h0 h0_onward h0_tails h0_comesTo h0_by s0__size s0__told s0__whole s0__anyStuck s0__loudest s0_onward s0_tails s0_comesTo) (wm_X7_joinWay cA h0 h0_onward h0_tails h0_comesTo h0_by s0__size s0__told s0__whole s0__anyStuck s0__loudest s0_onward s0_tails s0_comesTo) (some (.int r)) := by
  refine Ct.intro (cc := cX7_behindOnCycle) (maxL := 7) (ret := some .int) (by decide +kernel) rfl (Nat.le_of_ble_eq_true rfl) ?_
  intro p e s m ar below meth c A Q hx hb hr hml hown hlocks hts hK hZ hA hQ hP hD hS ls hl
  have hown : s.vm.findClass RX7 = some m.cls := hown
  have hinX7 : ∀ w ∈ wsX70, w ∈ wsX7_behindOnCycle := fun _ h => List.mem_cons_of_mem _ (List.mem_append_right _ (h))
  have hl : lv_has ls 7 [(0, .ref h0), (1, .int x1), (2, .int x2)] := hl
  have hP : va_P G vwCl (wm_X7_joinWay cA h0 h0_onward h0_tails h0_comesTo h0_by s0__size s0__told s0__whole s0__anyStuck s0__loudest s0_onward s0_tails s0_comesTo) s.heap := hP
  have hD : va_D A (wm_X7_joinWay cA h0 h0_onward h0_tails h0_comesTo h0_by s0__size s0__told s0__whole s0__anyStuck s0__loudest s0_onward s0_tails s0_comesTo) := hD
  have L_25 : ∀ (n : Nat) (y4 : Int32) (y5 : Int32) (y6 : Int32) (p0_0 : Int32) (H : Heap) (locs : List Loc) (ls : Array Slot), va_P G vwCl (wm_X7_joinWay cA h0 h0_onward h0_tails h0_comesTo h0_by s0__size s0__told s0__whole s0__anyStuck s0__loudest s0_onward s0_tails s0_comesTo) H → va_D A (wm_X7_joinWay cA h0 h0_onward h0_tails h0_comesTo h0_by s0__size s0__told s0__whole s0__anyStuck s0__loudest s0_onward s0_tails s0_comesTo) → va_S A s.heap H locs → lv_has ls 7 [(0, .ref h0), (4, .int y4), (5, .int y5), (6, .int y6)] → fX7_behindOnCycle_L25 x1 x2 s0__size s0_onward s0_tails s0_comesTo n y4 y5 y6 = some p0_0 → (∀ (H : Heap) (locs : List Loc) (ls : Array Slot), va_P G vwCl (wm_X7_joinWay cA h0 h0_onward h0_tails h0_comesTo h0_by s0__size s0__told s0__whole s0__anyStuck s0__loudest s0_onward s0_tails s0_comesTo) H → va_D A (wm_X7_joinWay cA h0 h0_onward h0_tails h0_comesTo h0_by s0__size s0__told s0__whole s0__anyStuck s0__loudest s0_onward s0_tails s0_comesTo) → va_S A s.heap H locs → lv_has ls 7 [(5, .int p0_0)] → W p l e (rmX 4 105) s m ar below meth c H locs 0 0 Q (F0 m 56 ls [])) → W p l e (rmX 4 105) s m ar below meth c H locs 0 0 Q (F0 m 25 ls []) := by
    intro n
    induction n with
    | zero =>
      intro y4 y5 y6 p0_0 H locs ls hP hD hS hl hok
      rw [fX7_behindOnCycle_L25] at hok
      cases hok
    | succ n ih =>
      intro y4 y5 y6 p0_0 H locs ls hP hD hS hl hok K
      rw [fX7_behindOnCycle_L25] at hok
      refine lv_iload hx hb dX7_behindOnCycle_25 (lv_at hl 3 rfl) ?_
      refine lv_iload hx hb dX7_behindOnCycle_27 (lv_at hl 1 rfl) ?_
      refine lv_icmp_ge (tgt := 56) hx hb dX7_behindOnCycle_29 (by decide) (fun c => ?_) (fun c => ?_)
      · replace hok := g_pos hok c
        cases hok
        exact K _ _ _ hP hD hS (lv_sub hl [2] rfl)
      replace hok := g_neg hok c
      refine lv_aload_n hx hb dX7_behindOnCycle_32 rfl (lv_at hl 0 rfl) ?_
      refine lv_iload hx hb dX7_behindOnCycle_33 (lv_at hl 2 rfl) ?_
      obtain ⟨r2, hq, hok⟩ := g_bnd1 hok
      refine cG (is := [0]) (wc := (wm_X7_is cA h0 h0_by h0_onward h0_tails h0_comesTo s0__size s0__told s0__whole s0__anyStuck s0__loudest)) (w1 := (wm_X7_is cA h0 h0_by h0_onward h0_tails h0_comesTo s0__size s0__told s0__whole s0__anyStuck s0__loudest)) (rv := (some (.int r2))) (st1 := [.int r2]) (va_runV (Ts := wsX7_behindOnCycle) (As := [.int y5]) (rest := []) ⟨hx, hb, hml, hown, hts⟩ (c_X7_is l G cA ts h0 h0_by h0_onward h0_tails h0_comesTo y5 s0__size s0__told s0__whole s0__anyStuck s0__loudest r2 hq H.size) (cwV 1 hts gX7_behindOnCycle_X7_is rfl rfl rfl (by decide +kernel) ⟨Nat.le_of_ble_eq_true rfl, Nat.le_of_ble_eq_true rfl⟩) (pre_V (ci := 7) (q0 := 0) (is := [0]) rfl rfl hP hD hS hA hK hZ (by decide +kernel) (by rfl)) rfl rfl hl.1 rfl (by exact lv_room (Nat.le_of_ble_eq_true rfl)) dX7_behindOnCycle_35 ⟨Nat.le_refl _, Nat.le_refl _⟩) hP hD hS hA (by decide +kernel) (by rfl) (by rfl) rfl (fun H locs hP hD hS => ?_)
      have hP : va_P G vwCl (wm_X7_joinWay cA h0 h0_onward h0_tails h0_comesTo h0_by s0__size s0__told s0__whole s0__anyStuck s0__loudest s0_onward s0_tails s0_comesTo) H := hP
      have hD : va_D A (wm_X7_joinWay cA h0 h0_onward h0_tails h0_comesTo h0_by s0__size s0__told s0__whole s0__anyStuck s0__loudest s0_onward s0_tails s0_comesTo) := hD
      refine lv_if_eq (tgt := 56) hx hb dX7_behindOnCycle_38 (by decide) (fun c => ?_) (fun c => ?_)
      · replace hok := g_pos hok c
        cases hok
        exact K _ _ _ hP hD hS (lv_sub hl [2] rfl)
      replace hok := g_neg hok c
      refine lv_aload_n hx hb dX7_behindOnCycle_41 rfl (lv_at hl 0 rfl) ?_
      refine va_get (ci := 7) (v := .ref h0_onward) (C := RX7) (T := TX7) (N := 9) hx hb hts hinX7 hown hK hP 0 rfl rfl 1 (by decide) (hts _ (List.mem_of_getElem? (i := 1) rfl)) (fun _ h9 => h9) rfl dX7_behindOnCycle_42 ?_
      refine lv_iload hx hb dX7_behindOnCycle_45 (lv_at hl 2 rfl) ?_
      obtain ⟨hin, hok⟩ := g_no hok
      refine x_iald (k := y5.toNatClampNeg) hx hb hK hP 1 0 rfl rfl hin rfl dX7_behindOnCycle_47 ?_
      refine lv_istore (lv' := [(5, .int (s0_onward y5.toNatClampNeg)), (0, .ref h0), (4, .int y4), (6, .int y6)]) hx hb dX7_behindOnCycle_48 hl (by decide) rfl (fun ls hl => ?_)
      refine lv_iinc (v := (y6 + 1)) (lv' := [(6, .int (y6 + 1)), (5, .int (s0_onward y5.toNatClampNeg)), (0, .ref h0), (4, .int y4)]) hx hb dX7_behindOnCycle_50 hl (k := 3) rfl rfl (by decide) rfl (fun ls hl => ?_)
      refine lv_goto (tgt := 25) hx hb dX7_behindOnCycle_53 (by decide) ?_
      exact ih y4 (s0_onward y5.toNatClampNeg) (y6 + 1) p0_0 _ _ _ hP hD hS (lv_sub hl [2, 3, 1, 0] rfl) hok K
  have J_17 : ∀ (z0 : Int32) (H : Heap) (locs : List Loc) (ls : Array Slot), va_P G vwCl (wm_X7_joinWay cA h0 h0_onward h0_tails h0_comesTo h0_by s0__size s0__told s0__whole s0__anyStuck s0__loudest s0_onward s0_tails s0_comesTo) H → va_D A (wm_X7_joinWay cA h0 h0_onward h0_tails h0_comesTo h0_by s0__size s0__told s0__whole s0__anyStuck s0__loudest s0_onward s0_tails s0_comesTo) → va_S A s.heap H locs → lv_has ls 7 [(0, .ref h0), (1, .int x1)] → fX7_behindOnCycle_j17 x1 x2 s0__size s0_onward s0_tails s0_comesTo z0 = some r → W p l e (rmX 4 105) s m ar below meth c H locs 0 0 Q (F0 m 17 ls [.int z0]) := by
    intro z0 H locs ls hP hD hS hl hok
    unfold fX7_behindOnCycle_j17 at hok
    refine lv_istore (lv' := [(4, .int z0), (0, .ref h0), (1, .int x1)]) hx hb dX7_behindOnCycle_17 hl (by decide) rfl (fun ls hl => ?_)
    refine lv_iload_n hx hb dX7_behindOnCycle_19 rfl (lv_at hl 2 rfl) ?_
    refine lv_istore (lv' := [(5, .int x1), (4, .int z0), (0, .ref h0), (1, .int x1)]) hx hb dX7_behindOnCycle_20 hl (by decide) rfl (fun ls hl => ?_)
    refine lv_iconst (v := 0) hx hb dX7_behindOnCycle_22 (by decide) ?_
    refine lv_istore (lv' := [(6, .int (0:Int32)), (5, .int x1), (4, .int z0), (0, .ref h0), (1, .int x1)]) hx hb dX7_behindOnCycle_23 hl (by decide) rfl (fun ls hl => ?_)
    obtain ⟨o3, hq, hok⟩ := g_bnd1 hok
    refine L_25 FUEL z0 x1 (0:Int32) o3 _ _ _ hP hD hS (lv_sub hl [3, 2, 1, 0] rfl) hq (fun H locs ls hP hD hS hl => ?_)
    refine lv_iload hx hb dX7_behindOnCycle_56 (lv_at hl 0 rfl) ?_
    cases hok
    exact cr_i hx hb hr hlocks hQ dX7_behindOnCycle_58 hP hS
  unfold fX7_behindOnCycle at hok
  refine lv_aload_n hx hb dX7_behindOnCycle_0 rfl (lv_at hl 0 rfl) ?_
  refine lv_iload_n hx hb dX7_behindOnCycle_1 rfl (lv_at hl 1 rfl) ?_
  obtain ⟨r1, hq, hok⟩ := g_bnd1 hok
  refine cG (is := [0, 2, 3]) (wc := (wm_X7_isOnCycle cA h0 h0_tails h0_comesTo h0_by h0_onward s0__size s0__told s0__whole s0__anyStuck s0__loudest s0_tails s0_comesTo)) (w1 := (wm_X7_isOnCycle cA h0 h0_tails h0_comesTo h0_by h0_onward s0__size s0__told s0__whole s0__anyStuck s0__loudest s0_tails s0_comesTo)) (rv := (some (.int r1))) (st1 := [.int r1]) (va_runV (Ts := wsX7_behindOnCycle) (As := [.int x1]) (rest := []) ⟨hx, hb, hml, hown, hts⟩ (c_X7_periodOf l G cA ts h0 h0_tails h0_comesTo h0_by h0_onward x1 s0__size s0__told s0__whole s0__anyStuck s0__loudest s0_tails s0_comesTo r1 hq s.heap.size) (cwV 1 hts gX7_behindOnCycle_X7_periodOf rfl rfl rfl (by decide +kernel) ⟨Nat.le_of_ble_eq_true rfl, Nat.le_of_ble_eq_true rfl⟩) (pre_V (ci := 7) (q0 := 0) (is := [0, 2, 3]) rfl rfl hP hD hS hA hK hZ (by decide +kernel) (by rfl)) rfl rfl hl.1 rfl (by exact lv_room (Nat.le_of_ble_eq_true rfl)) dX7_behindOnCycle_2 ⟨Nat.le_refl _, Nat.le_refl _⟩) hP hD hS hA (by decide +kernel) (by rfl) (by rfl) rfl (fun H locs hP hD hS => ?_)
  have hP : va_P G vwCl (wm_X7_joinWay cA h0 h0_onward h0_tails h0_comesTo h0_by s0__size s0__told s0__whole s0__anyStuck s0__loudest s0_onward s0_tails s0_comesTo) H := hP
  have hD : va_D A (wm_X7_joinWay cA h0 h0_onward h0_tails h0_comesTo h0_by s0__size s0__told s0__whole s0__anyStuck s0__loudest s0_onward s0_tails s0_comesTo) := hD
  refine lv_istore_n (lv' := [(3, .int r1), (0, .ref h0), (1, .int x1), (2, .int x2)]) hx hb dX7_behindOnCycle_5 rfl hl (by decide) rfl (fun ls hl => ?_)
  refine lv_iload_n hx hb dX7_behindOnCycle_6 rfl (lv_at hl 0 rfl) ?_
  refine lv_if_le (tgt := 16) hx hb dX7_behindOnCycle_7 (by decide) (fun c => ?_) (fun c => ?_)
  · replace hok := g_pos hok c
    refine lv_iconst (v := 0) hx hb dX7_behindOnCycle_16 (by decide) ?_
    exact J_17 (0:Int32) _ _ _ hP hD hS (lv_sub hl [1, 2] rfl) hok
  replace hok := g_neg hok c
  refine lv_iload_n hx hb dX7_behindOnCycle_10 rfl (lv_at hl 3 rfl) ?_
  refine lv_iload_n hx hb dX7_behindOnCycle_11 rfl (lv_at hl 0 rfl) ?_
  obtain ⟨hin, hok⟩ := g_no hok
  refine lv_irem hx hb dX7_behindOnCycle_12 hin ?_
  refine lv_goto (tgt := 17) hx hb dX7_behindOnCycle_13 (by decide) ?_
  exact J_17 (x2 - x2 / r1 * r1) _ _ _ hP hD hS (lv_sub hl [1, 2] rfl) hok
set_option maxHeartbeats 40000000 in
set_option maxRecDepth 100000 in
theorem c_X7_longestTail (l : Launch) (G : va_G) (cA : Nat → ClassId) (ts : Nat → Nat) (h0 : Nat) (h0_tails : Nat) (h0_comesTo : Nat) (h0_by : Nat) (h0_onward : Nat) (s0__size : Int32) (s0__told : Int32) (s0__whole : Int32) (s0__anyStuck : Int32) (s0__loudest : Int32) (s0_tails : Nat → Int32) (s0_comesTo : Nat → Int32) (r : Int32) (hok : fX7_longestTail s0__size s0_tails s0_comesTo = some r) : Ct l G cA ts yX7_longestTail wsX7_longestTail 2 80 [.ref h0] (wm_X7_isOnCycle cA h0 h0_tails h0_comesTo h0_by h0_onward s0__size s0__told s0__whole s0__anyStuck s0__loudest s0_tails s0_comesTo) (wm_X7_isOnCycle cA h0 h0_tails h0_comesTo h0_by h0_onward s0__size s0__told s0__whole s0__anyStuck s0__loudest s0_tails s0_comesTo) (some (.int r)) := by
  refine Ct.intro (cc := cX7_longestTail) (maxL := 3) (ret := some .int) (by decide +kernel) rfl (Nat.le_of_ble_eq_true rfl) ?_
  intro p e s m ar below meth c A Q hx hb hr hml hown hlocks hts hK hZ hA hQ hP hD hS ls hl
  have hown : s.vm.findClass RX7 = some m.cls := hown
  have hinX7 : ∀ w ∈ wsX70, w ∈ wsX7_longestTail := fun _ h => List.mem_cons_of_mem _ (List.mem_append_right _ (h))
  have hl : lv_has ls 3 [(0, .ref h0)] := hl
  have hP : va_P G vwCl (wm_X7_isOnCycle cA h0 h0_tails h0_comesTo h0_by h0_onward s0__size s0__told s0__whole s0__anyStuck s0__loudest s0_tails s0_comesTo) s.heap := hP
  have hD : va_D A (wm_X7_isOnCycle cA h0 h0_tails h0_comesTo h0_by h0_onward s0__size s0__told s0__whole s0__anyStuck s0__loudest s0_tails s0_comesTo) := hD
  have L_4 : ∀ (n : Nat) (y1 : Int32) (y2 : Int32) (p0_0 : Int32) (H : Heap) (locs : List Loc) (ls : Array Slot), va_P G vwCl (wm_X7_isOnCycle cA h0 h0_tails h0_comesTo h0_by h0_onward s0__size s0__told s0__whole s0__anyStuck s0__loudest s0_tails s0_comesTo) H → va_D A (wm_X7_isOnCycle cA h0 h0_tails h0_comesTo h0_by h0_onward s0__size s0__told s0__whole s0__anyStuck s0__loudest s0_tails s0_comesTo) → va_S A s.heap H locs → lv_has ls 3 [(0, .ref h0), (1, .int y1), (2, .int y2)] → fX7_longestTail_L4 s0__size s0_tails s0_comesTo n y1 y2 = some p0_0 → (∀ (H : Heap) (locs : List Loc) (ls : Array Slot), va_P G vwCl (wm_X7_isOnCycle cA h0 h0_tails h0_comesTo h0_by h0_onward s0__size s0__told s0__whole s0__anyStuck s0__loudest s0_tails s0_comesTo) H → va_D A (wm_X7_isOnCycle cA h0 h0_tails h0_comesTo h0_by h0_onward s0__size s0__told s0__whole s0__anyStuck s0__loudest s0_tails s0_comesTo) → va_S A s.heap H locs → lv_has ls 3 [(1, .int p0_0)] → W p l e (rmX 2 80) s m ar below meth c H locs 0 0 Q (F0 m 47 ls [])) → W p l e (rmX 2 80) s m ar below meth c H locs 0 0 Q (F0 m 4 ls []) := by
    intro n
    induction n with
    | zero =>
      intro y1 y2 p0_0 H locs ls hP hD hS hl hok
      rw [fX7_longestTail_L4] at hok
      cases hok
    | succ n ih =>
      intro y1 y2 p0_0 H locs ls hP hD hS hl hok K
      rw [fX7_longestTail_L4] at hok
      refine lv_iload_n hx hb dX7_longestTail_4 rfl (lv_at hl 2 rfl) ?_
      refine lv_aload_n hx hb dX7_longestTail_5 rfl (lv_at hl 0 rfl) ?_
      refine va_get (ci := 7) (v := .int s0__size) (C := RX7) (T := TX7) (N := 9) hx hb hts hinX7 hown hK hP 0 rfl rfl 4 (by decide) (hts _ (List.mem_of_getElem? (i := 1) rfl)) (fun _ h9 => h9) rfl dX7_longestTail_6 ?_
      refine lv_icmp_ge (tgt := 47) hx hb dX7_longestTail_9 (by decide) (fun c => ?_) (fun c => ?_)
      · replace hok := g_pos hok c
        cases hok
        exact K _ _ _ hP hD hS (lv_sub hl [1] rfl)
      replace hok := g_neg hok c
      refine lv_aload_n hx hb dX7_longestTail_12 rfl (lv_at hl 0 rfl) ?_
      refine lv_iload_n hx hb dX7_longestTail_13 rfl (lv_at hl 2 rfl) ?_
      obtain ⟨r1, hq, hok⟩ := g_bnd1 hok
      refine cG (is := [0]) (wc := (wm_X7_is cA h0 h0_by h0_onward h0_tails h0_comesTo s0__size s0__told s0__whole s0__anyStuck s0__loudest)) (w1 := (wm_X7_is cA h0 h0_by h0_onward h0_tails h0_comesTo s0__size s0__told s0__whole s0__anyStuck s0__loudest)) (rv := (some (.int r1))) (st1 := [.int r1]) (va_runV (Ts := wsX7_longestTail) (As := [.int y2]) (rest := []) ⟨hx, hb, hml, hown, hts⟩ (c_X7_is l G cA ts h0 h0_by h0_onward h0_tails h0_comesTo y2 s0__size s0__told s0__whole s0__anyStuck s0__loudest r1 hq H.size) (cwV 1 hts gX7_longestTail_X7_is rfl rfl rfl (by decide +kernel) ⟨Nat.le_of_ble_eq_true rfl, Nat.le_of_ble_eq_true rfl⟩) (pre_V (ci := 7) (q0 := 0) (is := [0]) rfl rfl hP hD hS hA hK hZ (by decide +kernel) (by rfl)) rfl rfl hl.1 rfl (by exact lv_room (Nat.le_of_ble_eq_true rfl)) dX7_longestTail_14 ⟨Nat.le_refl _, Nat.le_refl _⟩) hP hD hS hA (by decide +kernel) (by rfl) (by rfl) rfl (fun H locs hP hD hS => ?_)
      have hP : va_P G vwCl (wm_X7_isOnCycle cA h0 h0_tails h0_comesTo h0_by h0_onward s0__size s0__told s0__whole s0__anyStuck s0__loudest s0_tails s0_comesTo) H := hP
      have hD : va_D A (wm_X7_isOnCycle cA h0 h0_tails h0_comesTo h0_by h0_onward s0__size s0__told s0__whole s0__anyStuck s0__loudest s0_tails s0_comesTo) := hD
      refine lv_if_eq (tgt := 47) hx hb dX7_longestTail_17 (by decide) (fun c => ?_) (fun c => ?_)
      · replace hok := g_pos hok c
        cases hok
        exact K _ _ _ hP hD hS (lv_sub hl [1] rfl)
      replace hok := g_neg hok c
      refine lv_aload_n hx hb dX7_longestTail_20 rfl (lv_at hl 0 rfl) ?_
      refine va_get (ci := 7) (v := .ref h0_comesTo) (C := RX7) (T := TX7) (N := 9) hx hb hts hinX7 hown hK hP 0 rfl rfl 3 (by decide) (hts _ (List.mem_of_getElem? (i := 2) rfl)) (fun _ h9 => h9) rfl dX7_longestTail_21 ?_
      refine lv_iload_n hx hb dX7_longestTail_24 rfl (lv_at hl 2 rfl) ?_
      obtain ⟨hin, hok⟩ := g_no hok
      refine x_iald (k := y2.toNatClampNeg) hx hb hK hP 2 0 rfl rfl hin rfl dX7_longestTail_25 ?_
      refine lv_iconst (v := -1) hx hb dX7_longestTail_26 (by decide) ?_
      refine lv_icmp_eq (tgt := 41) hx hb dX7_longestTail_27 (by decide) (fun c => ?_) (fun c => ?_)
      · replace hok := g_pos hok c
        refine lv_iinc (v := (y2 + 1)) (lv' := [(2, .int (y2 + 1)), (0, .ref h0), (1, .int y1)]) hx hb dX7_longestTail_41 hl (k := 2) rfl rfl (by decide) rfl (fun ls hl => ?_)
        refine lv_goto (tgt := 4) hx hb dX7_longestTail_44 (by decide) ?_
        exact ih y1 (y2 + 1) p0_0 _ _ _ hP hD hS (lv_sub hl [1, 2, 0] rfl) hok K
      replace hok := g_neg hok c
      refine lv_iload_n hx hb dX7_longestTail_30 rfl (lv_at hl 1 rfl) ?_
      refine lv_aload_n hx hb dX7_longestTail_31 rfl (lv_at hl 0 rfl) ?_
      refine va_get (ci := 7) (v := .ref h0_tails) (C := RX7) (T := TX7) (N := 9) hx hb hts hinX7 hown hK hP 0 rfl rfl 2 (by decide) (hts _ (List.mem_of_getElem? (i := 3) rfl)) (fun _ h9 => h9) rfl dX7_longestTail_32 ?_
      refine lv_iload_n hx hb dX7_longestTail_35 rfl (lv_at hl 2 rfl) ?_
      obtain ⟨hin, hok⟩ := g_no hok
      refine x_iald (k := y2.toNatClampNeg) hx hb hK hP 1 0 rfl rfl hin rfl dX7_longestTail_36 ?_
      refine va_mmax hx hb (hml.trans hl.1.symm) hown (hts _ (List.mem_of_getElem? (i := 4) rfl)) (hts _ (List.mem_of_getElem? (i := 5) rfl)) (hts _ (List.mem_of_getElem? (i := 6) rfl)) (hts _ (List.mem_of_getElem? (i := 7) rfl)) (Nat.le_of_ble_eq_true rfl) (Nat.le_of_ble_eq_true rfl) (Nat.zero_le _) (Nat.zero_le _) dX7_longestTail_37 ?_
      refine lv_istore_n (lv' := [(1, .int (if y1 < (s0_tails y2.toNatClampNeg) then (s0_tails y2.toNatClampNeg) else y1)), (0, .ref h0), (2, .int y2)]) hx hb dX7_longestTail_40 rfl hl (by decide) rfl (fun ls hl => ?_)
      refine lv_iinc (v := (y2 + 1)) (lv' := [(2, .int (y2 + 1)), (1, .int (if y1 < (s0_tails y2.toNatClampNeg) then (s0_tails y2.toNatClampNeg) else y1)), (0, .ref h0)]) hx hb dX7_longestTail_41 hl (k := 2) rfl rfl (by decide) rfl (fun ls hl => ?_)
      refine lv_goto (tgt := 4) hx hb dX7_longestTail_44 (by decide) ?_
      exact ih (if y1 < (s0_tails y2.toNatClampNeg) then (s0_tails y2.toNatClampNeg) else y1) (y2 + 1) p0_0 _ _ _ hP hD hS (lv_sub hl [2, 1, 0] rfl) hok K
  unfold fX7_longestTail at hok
  refine lv_iconst (v := 0) hx hb dX7_longestTail_0 (by decide) ?_
  refine lv_istore_n (lv' := [(1, .int (0:Int32)), (0, .ref h0)]) hx hb dX7_longestTail_1 rfl hl (by decide) rfl (fun ls hl => ?_)
  refine lv_iconst (v := 0) hx hb dX7_longestTail_2 (by decide) ?_
  refine lv_istore_n (lv' := [(2, .int (0:Int32)), (1, .int (0:Int32)), (0, .ref h0)]) hx hb dX7_longestTail_3 rfl hl (by decide) rfl (fun ls hl => ?_)
  obtain ⟨o2, hq, hok⟩ := g_bnd1 hok
  refine L_4 FUEL (0:Int32) (0:Int32) o2 _ _ _ hP hD hS (lv_sub hl [2, 1, 0] rfl) hq (fun H locs ls hP hD hS hl => ?_)
  refine lv_iload_n hx hb dX7_longestTail_47 rfl (lv_at hl 0 rfl) ?_
  cases hok
  exact cr_i hx hb hr hlocks hQ dX7_longestTail_48 hP hS
set_option maxHeartbeats 40000000 in
set_option maxRecDepth 100000 in
theorem c_X7_loudestOfAll (l : Launch) (G : va_G) (cA : Nat → ClassId) (ts : Nat → Nat) (h0 : Nat) (h0_by : Nat) (h0_onward : Nat) (h0_tails : Nat) (h0_comesTo : Nat) (s0__size : Int32) (s0__told : Int32) (s0__whole : Int32) (s0__anyStuck : Int32) (s0__loudest : Int32) (r : Int32) (hok : fX7_loudestOfAll s0__loudest = some r) : Ct l G cA ts yX7_loudestOfAll wsX7_loudestOfAll 1 40 [.ref h0] (wm_X7_is cA h0 h0_by h0_onward h0_tails h0_comesTo s0__size s0__told s0__whole s0__anyStuck s0__loudest) (wm_X7_is cA h0 h0_by h0_onward h0_tails h0_comesTo s0__size s0__told s0__whole s0__anyStuck s0__loudest) (some (.int r)) := by
  refine Ct.intro (cc := cX7_loudestOfAll) (maxL := 1) (ret := some .int) (by decide +kernel) rfl (Nat.le_of_ble_eq_true rfl) ?_
  intro p e s m ar below meth c A Q hx hb hr hml hown hlocks hts hK hZ hA hQ hP hD hS ls hl
  have hown : s.vm.findClass RX7 = some m.cls := hown
  have hinX7 : ∀ w ∈ wsX70, w ∈ wsX7_loudestOfAll := fun _ h => List.mem_cons_of_mem _ (List.mem_append_right _ (h))
  have hl : lv_has ls 1 [(0, .ref h0)] := hl
  have hP : va_P G vwCl (wm_X7_is cA h0 h0_by h0_onward h0_tails h0_comesTo s0__size s0__told s0__whole s0__anyStuck s0__loudest) s.heap := hP
  have hD : va_D A (wm_X7_is cA h0 h0_by h0_onward h0_tails h0_comesTo s0__size s0__told s0__whole s0__anyStuck s0__loudest) := hD
  unfold fX7_loudestOfAll at hok
  refine lv_aload_n hx hb dX7_loudestOfAll_0 rfl (lv_at hl 0 rfl) ?_
  refine va_get (ci := 7) (v := .int s0__loudest) (C := RX7) (T := TX7) (N := 9) hx hb hts hinX7 hown hK hP 0 rfl rfl 8 (by decide) (hts _ (List.mem_of_getElem? (i := 1) rfl)) (fun _ h9 => h9) rfl dX7_loudestOfAll_1 ?_
  refine lv_if_ge (tgt := 12) hx hb dX7_loudestOfAll_4 (by decide) (fun c => ?_) (fun c => ?_)
  · replace hok := g_pos hok c
    refine lv_aload_n hx hb dX7_loudestOfAll_12 rfl (lv_at hl 0 rfl) ?_
    refine va_get (ci := 7) (v := .int s0__loudest) (C := RX7) (T := TX7) (N := 9) hx hb hts hinX7 hown hK hP 0 rfl rfl 8 (by decide) (hts _ (List.mem_of_getElem? (i := 1) rfl)) (fun _ h9 => h9) rfl dX7_loudestOfAll_13 ?_
    cases hok
    exact cr_i hx hb hr hlocks hQ dX7_loudestOfAll_16 hP hS
  replace hok := g_neg hok c
  refine lv_bipush (v := 99) hx hb dX7_loudestOfAll_7 (by decide) ?_
  refine lv_goto (tgt := 16) hx hb dX7_loudestOfAll_9 (by decide) ?_
  cases hok
  exact cr_i hx hb hr hlocks hQ dX7_loudestOfAll_16 hP hS
set_option maxHeartbeats 40000000 in
set_option maxRecDepth 100000 in
theorem c_X7_howManyOnCycles (l : Launch) (G : va_G) (cA : Nat → ClassId) (ts : Nat → Nat) (h0 : Nat) (h0_tails : Nat) (h0_comesTo : Nat) (h0_by : Nat) (h0_onward : Nat) (s0__size : Int32) (s0__told : Int32) (s0__whole : Int32) (s0__anyStuck : Int32) (s0__loudest : Int32) (s0_tails : Nat → Int32) (s0_comesTo : Nat → Int32) (r : Int32) (hok : fX7_howManyOnCycles s0__size s0_tails s0_comesTo = some r) : Ct l G cA ts yX7_howManyOnCycles wsX7_howManyOnCycles 3 82 [.ref h0] (wm_X7_isOnCycle cA h0 h0_tails h0_comesTo h0_by h0_onward s0__size s0__told s0__whole s0__anyStuck s0__loudest s0_tails s0_comesTo) (wm_X7_isOnCycle cA h0 h0_tails h0_comesTo h0_by h0_onward s0__size s0__told s0__whole s0__anyStuck s0__loudest s0_tails s0_comesTo) (some (.int r)) := by
  refine Ct.intro (cc := cX7_howManyOnCycles) (maxL := 3) (ret := some .int) (by decide +kernel) rfl (Nat.le_of_ble_eq_true rfl) ?_
  intro p e s m ar below meth c A Q hx hb hr hml hown hlocks hts hK hZ hA hQ hP hD hS ls hl
  have hown : s.vm.findClass RX7 = some m.cls := hown
  have hinX7 : ∀ w ∈ wsX70, w ∈ wsX7_howManyOnCycles := fun _ h => List.mem_cons_of_mem _ (List.mem_append_right _ (h))
  have hl : lv_has ls 3 [(0, .ref h0)] := hl
  have hP : va_P G vwCl (wm_X7_isOnCycle cA h0 h0_tails h0_comesTo h0_by h0_onward s0__size s0__told s0__whole s0__anyStuck s0__loudest s0_tails s0_comesTo) s.heap := hP
  have hD : va_D A (wm_X7_isOnCycle cA h0 h0_tails h0_comesTo h0_by h0_onward s0__size s0__told s0__whole s0__anyStuck s0__loudest s0_tails s0_comesTo) := hD
  have L_4 : ∀ (n : Nat) (y1 : Int32) (y2 : Int32) (p0_0 : Int32) (H : Heap) (locs : List Loc) (ls : Array Slot), va_P G vwCl (wm_X7_isOnCycle cA h0 h0_tails h0_comesTo h0_by h0_onward s0__size s0__told s0__whole s0__anyStuck s0__loudest s0_tails s0_comesTo) H → va_D A (wm_X7_isOnCycle cA h0 h0_tails h0_comesTo h0_by h0_onward s0__size s0__told s0__whole s0__anyStuck s0__loudest s0_tails s0_comesTo) → va_S A s.heap H locs → lv_has ls 3 [(0, .ref h0), (1, .int y1), (2, .int y2)] → fX7_howManyOnCycles_L4 s0__size s0_tails s0_comesTo n y1 y2 = some p0_0 → (∀ (H : Heap) (locs : List Loc) (ls : Array Slot), va_P G vwCl (wm_X7_isOnCycle cA h0 h0_tails h0_comesTo h0_by h0_onward s0__size s0__told s0__whole s0__anyStuck s0__loudest s0_tails s0_comesTo) H → va_D A (wm_X7_isOnCycle cA h0 h0_tails h0_comesTo h0_by h0_onward s0__size s0__told s0__whole s0__anyStuck s0__loudest s0_tails s0_comesTo) → va_S A s.heap H locs → lv_has ls 3 [(1, .int p0_0)] → W p l e (rmX 3 82) s m ar below meth c H locs 0 0 Q (F0 m 29 ls [])) → W p l e (rmX 3 82) s m ar below meth c H locs 0 0 Q (F0 m 4 ls []) := by
    intro n
    induction n with
    | zero =>
      intro y1 y2 p0_0 H locs ls hP hD hS hl hok
      rw [fX7_howManyOnCycles_L4] at hok
      cases hok
    | succ n ih =>
      intro y1 y2 p0_0 H locs ls hP hD hS hl hok K
      rw [fX7_howManyOnCycles_L4] at hok
      refine lv_iload_n hx hb dX7_howManyOnCycles_4 rfl (lv_at hl 2 rfl) ?_
      refine lv_aload_n hx hb dX7_howManyOnCycles_5 rfl (lv_at hl 0 rfl) ?_
      refine va_get (ci := 7) (v := .int s0__size) (C := RX7) (T := TX7) (N := 9) hx hb hts hinX7 hown hK hP 0 rfl rfl 4 (by decide) (hts _ (List.mem_of_getElem? (i := 1) rfl)) (fun _ h9 => h9) rfl dX7_howManyOnCycles_6 ?_
      refine lv_icmp_ge (tgt := 29) hx hb dX7_howManyOnCycles_9 (by decide) (fun c => ?_) (fun c => ?_)
      · replace hok := g_pos hok c
        cases hok
        exact K _ _ _ hP hD hS (lv_sub hl [1] rfl)
      replace hok := g_neg hok c
      refine lv_aload_n hx hb dX7_howManyOnCycles_12 rfl (lv_at hl 0 rfl) ?_
      refine lv_iload_n hx hb dX7_howManyOnCycles_13 rfl (lv_at hl 2 rfl) ?_
      obtain ⟨r1, hq, hok⟩ := g_bnd1 hok
      refine cG (is := [0, 1, 2]) (wc := (wm_X7_isOnCycle cA h0 h0_tails h0_comesTo h0_by h0_onward s0__size s0__told s0__whole s0__anyStuck s0__loudest s0_tails s0_comesTo)) (w1 := (wm_X7_isOnCycle cA h0 h0_tails h0_comesTo h0_by h0_onward s0__size s0__told s0__whole s0__anyStuck s0__loudest s0_tails s0_comesTo)) (rv := (some (.int r1))) (st1 := [.int r1]) (va_runV (Ts := wsX7_howManyOnCycles) (As := [.int y2]) (rest := []) ⟨hx, hb, hml, hown, hts⟩ (c_X7_isOnCycle l G cA ts h0 h0_tails h0_comesTo h0_by h0_onward y2 s0__size s0__told s0__whole s0__anyStuck s0__loudest s0_tails s0_comesTo r1 hq H.size) (cwV 1 hts gX7_howManyOnCycles_X7_isOnCycle rfl rfl rfl (by decide +kernel) ⟨Nat.le_of_ble_eq_true rfl, Nat.le_of_ble_eq_true rfl⟩) (pre_V (ci := 7) (q0 := 0) (is := [0, 1, 2]) rfl rfl hP hD hS hA hK hZ (by decide +kernel) (by rfl)) rfl rfl hl.1 rfl (by exact lv_room (Nat.le_of_ble_eq_true rfl)) dX7_howManyOnCycles_14 ⟨Nat.le_refl _, Nat.le_refl _⟩) hP hD hS hA (by decide +kernel) (by rfl) (by rfl) rfl (fun H locs hP hD hS => ?_)
      have hP : va_P G vwCl (wm_X7_isOnCycle cA h0 h0_tails h0_comesTo h0_by h0_onward s0__size s0__told s0__whole s0__anyStuck s0__loudest s0_tails s0_comesTo) H := hP
      have hD : va_D A (wm_X7_isOnCycle cA h0 h0_tails h0_comesTo h0_by h0_onward s0__size s0__told s0__whole s0__anyStuck s0__loudest s0_tails s0_comesTo) := hD
      refine lv_if_eq (tgt := 23) hx hb dX7_howManyOnCycles_17 (by decide) (fun c => ?_) (fun c => ?_)
      · replace hok := g_pos hok c
        refine lv_iinc (v := (y2 + 1)) (lv' := [(2, .int (y2 + 1)), (0, .ref h0), (1, .int y1)]) hx hb dX7_howManyOnCycles_23 hl (k := 2) rfl rfl (by decide) rfl (fun ls hl => ?_)
        refine lv_goto (tgt := 4) hx hb dX7_howManyOnCycles_26 (by decide) ?_
        exact ih y1 (y2 + 1) p0_0 _ _ _ hP hD hS (lv_sub hl [1, 2, 0] rfl) hok K
      replace hok := g_neg hok c
      refine lv_iinc (v := (y1 + 1)) (lv' := [(1, .int (y1 + 1)), (0, .ref h0), (2, .int y2)]) hx hb dX7_howManyOnCycles_20 hl (k := 1) rfl rfl (by decide) rfl (fun ls hl => ?_)
      refine lv_iinc (v := (y2 + 1)) (lv' := [(2, .int (y2 + 1)), (1, .int (y1 + 1)), (0, .ref h0)]) hx hb dX7_howManyOnCycles_23 hl (k := 2) rfl rfl (by decide) rfl (fun ls hl => ?_)
      refine lv_goto (tgt := 4) hx hb dX7_howManyOnCycles_26 (by decide) ?_
      exact ih (y1 + 1) (y2 + 1) p0_0 _ _ _ hP hD hS (lv_sub hl [2, 1, 0] rfl) hok K
  unfold fX7_howManyOnCycles at hok
  refine lv_iconst (v := 0) hx hb dX7_howManyOnCycles_0 (by decide) ?_
  refine lv_istore_n (lv' := [(1, .int (0:Int32)), (0, .ref h0)]) hx hb dX7_howManyOnCycles_1 rfl hl (by decide) rfl (fun ls hl => ?_)
  refine lv_iconst (v := 0) hx hb dX7_howManyOnCycles_2 (by decide) ?_
  refine lv_istore_n (lv' := [(2, .int (0:Int32)), (1, .int (0:Int32)), (0, .ref h0)]) hx hb dX7_howManyOnCycles_3 rfl hl (by decide) rfl (fun ls hl => ?_)
  obtain ⟨o2, hq, hok⟩ := g_bnd1 hok
  refine L_4 FUEL (0:Int32) (0:Int32) o2 _ _ _ hP hD hS (lv_sub hl [2, 1, 0] rfl) hq (fun H locs ls hP hD hS hl => ?_)
  refine lv_iload_n hx hb dX7_howManyOnCycles_29 rfl (lv_at hl 0 rfl) ?_
  cases hok
  exact cr_i hx hb hr hlocks hQ dX7_howManyOnCycles_30 hP hS
