set_option maxHeartbeats 40000000 in
set_option maxRecDepth 100000 in
theorem c_X4_has (l : Launch) (G : va_G) (cA : Nat → ClassId) (ts : Nat → Nat) (h0 : Nat) (h0_places : Nat) (x1 : Int32) (s0__sort : Int32) (s0__size : Int32) (r : Int32) (hok : fX4_has x1 s0__size = some r) : Ct l G cA ts yX4_has wsX4_has 1 40 [.ref h0, .int x1] (wm_X4_has cA h0 h0_places s0__sort s0__size) (wm_X4_has cA h0 h0_places s0__sort s0__size) (some (.int r)) := by
  refine Ct.intro (cc := cX4_has) (maxL := 2) (ret := some .boolean) (by decide +kernel) rfl (Nat.le_of_ble_eq_true rfl) ?_
  intro p e s m ar below meth c A Q hx hb hr hml hown hlocks hts hK hZ hA hQ hP hD hS ls hl
  have hown : s.vm.findClass RX4 = some m.cls := hown
  have hinX4 : ∀ w ∈ wsX40, w ∈ wsX4_has := fun _ h => List.mem_cons_of_mem _ (List.mem_append_right _ (h))
  have hl : lv_has ls 2 [(0, .ref h0), (1, .int x1)] := hl
  have hP : va_P G vwCl (wm_X4_has cA h0 h0_places s0__sort s0__size) s.heap := hP
  have hD : va_D A (wm_X4_has cA h0 h0_places s0__sort s0__size) := hD
  unfold fX4_has at hok
  refine lv_iload_n hx hb dX4_has_0 rfl (lv_at hl 1 rfl) ?_
  refine lv_if_lt (tgt := 22) hx hb dX4_has_1 (by decide) (fun c => ?_) (fun c => ?_)
  · replace hok := g_pos hok c
    refine lv_iconst (v := 0) hx hb dX4_has_22 (by decide) ?_
    cases hok
    exact cr_z (ty := .boolean) (by decide +kernel) hx hb hr hlocks hQ dX4_has_23 hP hS
  replace hok := g_neg hok c
  refine lv_iload_n hx hb dX4_has_4 rfl (lv_at hl 1 rfl) ?_
  refine lv_aload_n hx hb dX4_has_5 rfl (lv_at hl 0 rfl) ?_
  refine va_get (ci := 4) (v := .int s0__size) (C := RX4) (T := TX4) (N := 3) hx hb hts hinX4 hown hK hP 0 rfl rfl 2 (by decide) (hts _ (List.mem_of_getElem? (i := 1) rfl)) (fun _ h9 => h9) rfl dX4_has_6 ?_
  refine lv_icmp_ge (tgt := 22) hx hb dX4_has_9 (by decide) (fun c => ?_) (fun c => ?_)
  · replace hok := g_pos hok c
    refine lv_iconst (v := 0) hx hb dX4_has_22 (by decide) ?_
    cases hok
    exact cr_z (ty := .boolean) (by decide +kernel) hx hb hr hlocks hQ dX4_has_23 hP hS
  replace hok := g_neg hok c
  refine lv_iload_n hx hb dX4_has_12 rfl (lv_at hl 1 rfl) ?_
  refine lv_bipush (v := 40) hx hb dX4_has_13 (by decide) ?_
  refine lv_icmp_ge (tgt := 22) hx hb dX4_has_15 (by decide) (fun c => ?_) (fun c => ?_)
  · replace hok := g_pos hok c
    refine lv_iconst (v := 0) hx hb dX4_has_22 (by decide) ?_
    cases hok
    exact cr_z (ty := .boolean) (by decide +kernel) hx hb hr hlocks hQ dX4_has_23 hP hS
  replace hok := g_neg hok c
  refine lv_iconst (v := 1) hx hb dX4_has_18 (by decide) ?_
  refine lv_goto (tgt := 23) hx hb dX4_has_19 (by decide) ?_
  cases hok
  exact cr_z (ty := .boolean) (by decide +kernel) hx hb hr hlocks hQ dX4_has_23 hP hS
set_option maxHeartbeats 40000000 in
set_option maxRecDepth 100000 in
theorem c_X4_inputAt (l : Launch) (G : va_G) (cA : Nat → ClassId) (ts : Nat → Nat) (h0 : Nat) (h0_places : Nat) (x1 : Int32) (s0__sort : Int32) (s0__size : Int32) (s0_places : Nat → Int64) (r : Int32) (hok : fX4_inputAt x1 s0__size s0_places = some r) : Ct l G cA ts yX4_inputAt wsX4_inputAt 2 80 [.ref h0, .int x1] (wm_X4_inputAt cA h0 h0_places s0__sort s0__size s0_places) (wm_X4_inputAt cA h0 h0_places s0__sort s0__size s0_places) (some (.int r)) := by
  refine Ct.intro (cc := cX4_inputAt) (maxL := 2) (ret := some .int) (by decide +kernel) rfl (Nat.le_of_ble_eq_true rfl) ?_
  intro p e s m ar below meth c A Q hx hb hr hml hown hlocks hts hK hZ hA hQ hP hD hS ls hl
  have hown : s.vm.findClass RX4 = some m.cls := hown
  have hinX4 : ∀ w ∈ wsX40, w ∈ wsX4_inputAt := fun _ h => List.mem_cons_of_mem _ (List.mem_append_right _ (h))
  have hl : lv_has ls 2 [(0, .ref h0), (1, .int x1)] := hl
  have hP : va_P G vwCl (wm_X4_inputAt cA h0 h0_places s0__sort s0__size s0_places) s.heap := hP
  have hD : va_D A (wm_X4_inputAt cA h0 h0_places s0__sort s0__size s0_places) := hD
  unfold fX4_inputAt at hok
  refine lv_aload_n hx hb dX4_inputAt_0 rfl (lv_at hl 0 rfl) ?_
  refine lv_iload_n hx hb dX4_inputAt_1 rfl (lv_at hl 1 rfl) ?_
  obtain ⟨r1, hq, hok⟩ := g_bnd1 hok
  refine cG (is := [0]) (wc := (wm_X4_has cA h0 h0_places s0__sort s0__size)) (w1 := (wm_X4_has cA h0 h0_places s0__sort s0__size)) (rv := (some (.int r1))) (st1 := [.int r1]) (va_runV (Ts := wsX4_inputAt) (As := [.int x1]) (rest := []) ⟨hx, hb, hml, hown, hts⟩ (c_X4_has l G cA ts h0 h0_places x1 s0__sort s0__size r1 hq s.heap.size) (cwV 1 hts gX4_inputAt_X4_has rfl rfl rfl (by decide +kernel) ⟨Nat.le_of_ble_eq_true rfl, Nat.le_of_ble_eq_true rfl⟩) (pre_V (ci := 4) (q0 := 0) (is := [0]) rfl rfl hP hD hS hA hK hZ (by decide +kernel) (by rfl)) rfl rfl hl.1 rfl (by exact lv_room (Nat.le_of_ble_eq_true rfl)) dX4_inputAt_2 ⟨Nat.le_refl _, Nat.le_refl _⟩) hP hD hS hA (by decide +kernel) (by rfl) (by rfl) rfl (fun H locs hP hD hS => ?_)
  have hP : va_P G vwCl (wm_X4_inputAt cA h0 h0_places s0__sort s0__size s0_places) H := hP
  have hD : va_D A (wm_X4_inputAt cA h0 h0_places s0__sort s0__size s0_places) := hD
  refine lv_if_eq (tgt := 30) hx hb dX4_inputAt_5 (by decide) (fun c => ?_) (fun c => ?_)
  · replace hok := g_pos hok c
    refine lv_iconst (v := 0) hx hb dX4_inputAt_30 (by decide) ?_
    cases hok
    exact cr_i hx hb hr hlocks hQ dX4_inputAt_31 hP hS
  replace hok := g_neg hok c
  refine lv_ldc2 (v := -99) hx hb hown (hts _ (List.mem_of_getElem? (i := 1) rfl)) dX4_inputAt_8 ?_
  refine lv_ldc2 (v := 99) hx hb hown (hts _ (List.mem_of_getElem? (i := 2) rfl)) dX4_inputAt_11 ?_
  refine lv_aload_n hx hb dX4_inputAt_14 rfl (lv_at hl 0 rfl) ?_
  refine va_get (ci := 4) (v := .ref h0_places) (C := RX4) (T := TX4) (N := 3) hx hb hts hinX4 hown hK hP 0 rfl rfl 0 (by decide) (hts _ (List.mem_of_getElem? (i := 3) rfl)) (fun _ h9 => h9) rfl dX4_inputAt_15 ?_
  refine lv_iload_n hx hb dX4_inputAt_18 rfl (lv_at hl 1 rfl) ?_
  obtain ⟨hin, hok⟩ := g_no hok
  refine x_lald (k := x1.toNatClampNeg) hx hb hK hP 1 1 rfl rfl hin rfl dX4_inputAt_19 ?_
  refine va_mmin_long hx hb (hml.trans hl.1.symm) hown (hts _ (List.mem_of_getElem? (i := 4) rfl)) (hts _ (List.mem_of_getElem? (i := 5) rfl)) (hts _ (List.mem_of_getElem? (i := 6) rfl)) (hts _ (List.mem_of_getElem? (i := 7) rfl)) (Nat.le_of_ble_eq_true rfl) (Nat.le_of_ble_eq_true rfl) (Nat.zero_le _) (Nat.zero_le _) dX4_inputAt_20 ?_
  refine va_mmax_long hx hb (hml.trans hl.1.symm) hown (hts _ (List.mem_of_getElem? (i := 8) rfl)) (hts _ (List.mem_of_getElem? (i := 9) rfl)) (hts _ (List.mem_of_getElem? (i := 6) rfl)) (hts _ (List.mem_of_getElem? (i := 10) rfl)) (Nat.le_of_ble_eq_true rfl) (Nat.le_of_ble_eq_true rfl) (Nat.zero_le _) (Nat.zero_le _) dX4_inputAt_23 ?_
  refine lv_l2i (v := ((if (if (s0_places x1.toNatClampNeg) < (99:Int64) then (s0_places x1.toNatClampNeg) else (99:Int64)) < (-99:Int64) then (-99:Int64) else (if (s0_places x1.toNatClampNeg) < (99:Int64) then (s0_places x1.toNatClampNeg) else (99:Int64))).toInt32)) hx hb dX4_inputAt_26 rfl ?_
  refine lv_goto (tgt := 31) hx hb dX4_inputAt_27 (by decide) ?_
  cases hok
  exact cr_i hx hb hr hlocks hQ dX4_inputAt_31 hP hS
set_option maxHeartbeats 40000000 in
set_option maxRecDepth 100000 in
theorem c_X4_begin (l : Launch) (G : va_G) (cA : Nat → ClassId) (ts : Nat → Nat) (h0 : Nat) (h0_places : Nat) (x1 : Int32) (x2 : Int32) (s0__sort : Int32) (s0__size : Int32) (s0_places : Nat → Int64) (o0__sort : Int32) (o0__size : Int32) (o0_places : Nat → Int64) (hok : fX4_begin x1 x2 s0__sort s0__size s0_places = some (o0__sort, o0__size, o0_places)) : Ct l G cA ts yX4_begin wsX4_begin 1 80 [.ref h0, .int x1, .int x2] (wm_X4_inputAt cA h0 h0_places s0__sort s0__size s0_places) (wm_X4_inputAt cA h0 h0_places o0__sort o0__size o0_places) none := by
  refine Ct.intro (cc := cX4_begin) (maxL := 4) (ret := none) (by decide +kernel) rfl (Nat.le_of_ble_eq_true rfl) ?_
  intro p e s m ar below meth c A Q hx hb hr hml hown hlocks hts hK hZ hA hQ hP hD hS ls hl
  have hown : s.vm.findClass RX4 = some m.cls := hown
  have hinX4 : ∀ w ∈ wsX40, w ∈ wsX4_begin := fun _ h => List.mem_cons_of_mem _ (List.mem_append_right _ (h))
  have hl : lv_has ls 4 [(0, .ref h0), (1, .int x1), (2, .int x2)] := hl
  have hP : va_P G vwCl (wm_X4_inputAt cA h0 h0_places s0__sort s0__size s0_places) s.heap := hP
  have hD : va_D A (wm_X4_inputAt cA h0 h0_places s0__sort s0__size s0_places) := hD
  have L_21 : ∀ (n : Nat) (y3 : Int32) (c0__sort : Int32) (c0__size : Int32) (c0_places : Nat → Int64) (p0_0 : Nat → Int64) (H : Heap) (locs : List Loc) (ls : Array Slot), va_P G vwCl (wm_X4_inputAt cA h0 h0_places c0__sort c0__size c0_places) H → va_D A (wm_X4_inputAt cA h0 h0_places c0__sort c0__size c0_places) → va_S A s.heap H locs → lv_has ls 4 [(0, .ref h0), (3, .int y3)] → fX4_begin_L21 x1 x2 n y3 c0__sort c0__size c0_places = some p0_0 → (∀ (H : Heap) (locs : List Loc) (ls : Array Slot), va_P G vwCl (wm_X4_inputAt cA h0 h0_places c0__sort c0__size p0_0) H → va_D A (wm_X4_inputAt cA h0 h0_places c0__sort c0__size p0_0) → va_S A s.heap H locs → lv_has ls 4 [] → W p l e (rmX 1 80) s m ar below meth c H locs 0 0 Q (F0 m 40 ls [])) → W p l e (rmX 1 80) s m ar below meth c H locs 0 0 Q (F0 m 21 ls []) := by
    intro n
    induction n with
    | zero =>
      intro y3 c0__sort c0__size c0_places p0_0 H locs ls hP hD hS hl hok
      rw [fX4_begin_L21] at hok
      cases hok
    | succ n ih =>
      intro y3 c0__sort c0__size c0_places p0_0 H locs ls hP hD hS hl hok K
      rw [fX4_begin_L21] at hok
      refine lv_iload_n hx hb dX4_begin_21 rfl (lv_at hl 1 rfl) ?_
      refine lv_bipush (v := 40) hx hb dX4_begin_22 (by decide) ?_
      refine lv_icmp_ge (tgt := 40) hx hb dX4_begin_24 (by decide) (fun c => ?_) (fun c => ?_)
      · replace hok := g_pos hok c
        cases hok
        exact K _ _ _ hP hD hS (lv_sub hl [] rfl)
      replace hok := g_neg hok c
      refine lv_aload_n hx hb dX4_begin_27 rfl (lv_at hl 0 rfl) ?_
      refine va_get (ci := 4) (v := .ref h0_places) (C := RX4) (T := TX4) (N := 3) hx hb hts hinX4 hown hK hP 0 rfl rfl 0 (by decide) (hts _ (List.mem_of_getElem? (i := 10) rfl)) (fun _ h9 => h9) rfl dX4_begin_28 ?_
      refine lv_iload_n hx hb dX4_begin_31 rfl (lv_at hl 1 rfl) ?_
      refine lv_lconst (v := 0) hx hb dX4_begin_32 (by decide) ?_
      obtain ⟨hin, hok⟩ := g_no hok
      refine x_last (k := y3.toNatClampNeg) hx hb hK hP hD hS 1 1 rfl rfl hin rfl dX4_begin_33 (fun H locs hP hD hS => ?_)
      have hP : va_P G vwCl (wm_X4_inputAt cA h0 h0_places c0__sort c0__size (vp_updL c0_places y3.toNatClampNeg (0:Int64))) H := hP
      have hD : va_D A (wm_X4_inputAt cA h0 h0_places c0__sort c0__size (vp_updL c0_places y3.toNatClampNeg (0:Int64))) := hD
      refine lv_iinc (v := (y3 + 1)) (lv' := [(3, .int (y3 + 1)), (0, .ref h0)]) hx hb dX4_begin_34 hl (k := 1) rfl rfl (by decide) rfl (fun ls hl => ?_)
      refine lv_goto (tgt := 21) hx hb dX4_begin_37 (by decide) ?_
      exact ih (y3 + 1) c0__sort c0__size (vp_updL c0_places y3.toNatClampNeg (0:Int64)) p0_0 _ _ _ hP hD hS (lv_sub hl [1, 0] rfl) hok K
  unfold fX4_begin at hok
  refine lv_aload_n hx hb dX4_begin_0 rfl (lv_at hl 0 rfl) ?_
  refine lv_iload_n hx hb dX4_begin_1 rfl (lv_at hl 1 rfl) ?_
  refine va_put (D := G) (ci := 4) (v := .int x1) (ty := .int) (C := RX4) (T := TX4) (N := 3) hx hb hts hinX4 tyX4 tyX4_ok nmX4 hown hK hP hD hS 0 rfl rfl 1 (by decide) (hts _ (List.mem_of_getElem? (i := 1) rfl)) (fun _ h9 => h9) rfl (by decide +kernel) rfl rfl (Nat.le_of_ble_eq_true rfl) dX4_begin_2 (fun H locs hP hD hS => ?_)
  have hP : va_P G vwCl (wm_X4_inputAt cA h0 h0_places x1 s0__size s0_places) H := hP
  have hD : va_D A (wm_X4_inputAt cA h0 h0_places x1 s0__size s0_places) := hD
  refine lv_aload_n hx hb dX4_begin_5 rfl (lv_at hl 0 rfl) ?_
  refine lv_iconst (v := 0) hx hb dX4_begin_6 (by decide) ?_
  refine lv_iload_n hx hb dX4_begin_7 rfl (lv_at hl 2 rfl) ?_
  refine lv_bipush (v := 40) hx hb dX4_begin_8 (by decide) ?_
  refine va_mmin hx hb (hml.trans hl.1.symm) hown (hts _ (List.mem_of_getElem? (i := 2) rfl)) (hts _ (List.mem_of_getElem? (i := 3) rfl)) (hts _ (List.mem_of_getElem? (i := 4) rfl)) (hts _ (List.mem_of_getElem? (i := 5) rfl)) (Nat.le_of_ble_eq_true rfl) (Nat.le_of_ble_eq_true rfl) (Nat.zero_le _) (Nat.zero_le _) dX4_begin_10 ?_
  refine va_mmax hx hb (hml.trans hl.1.symm) hown (hts _ (List.mem_of_getElem? (i := 6) rfl)) (hts _ (List.mem_of_getElem? (i := 7) rfl)) (hts _ (List.mem_of_getElem? (i := 4) rfl)) (hts _ (List.mem_of_getElem? (i := 8) rfl)) (Nat.le_of_ble_eq_true rfl) (Nat.le_of_ble_eq_true rfl) (Nat.zero_le _) (Nat.zero_le _) dX4_begin_13 ?_
  refine va_put (D := G) (ci := 4) (v := .int (if (0:Int32) < (if (40:Int32) < x2 then (40:Int32) else x2) then (if (40:Int32) < x2 then (40:Int32) else x2) else (0:Int32))) (ty := .int) (C := RX4) (T := TX4) (N := 3) hx hb hts hinX4 tyX4 tyX4_ok nmX4 hown hK hP hD hS 0 rfl rfl 2 (by decide) (hts _ (List.mem_of_getElem? (i := 9) rfl)) (fun _ h9 => h9) rfl (by decide +kernel) rfl rfl (Nat.le_of_ble_eq_true rfl) dX4_begin_16 (fun H locs hP hD hS => ?_)
  have hP : va_P G vwCl (wm_X4_inputAt cA h0 h0_places x1 (if (0:Int32) < (if (40:Int32) < x2 then (40:Int32) else x2) then (if (40:Int32) < x2 then (40:Int32) else x2) else (0:Int32)) s0_places) H := hP
  have hD : va_D A (wm_X4_inputAt cA h0 h0_places x1 (if (0:Int32) < (if (40:Int32) < x2 then (40:Int32) else x2) then (if (40:Int32) < x2 then (40:Int32) else x2) else (0:Int32)) s0_places) := hD
  refine lv_iconst (v := 0) hx hb dX4_begin_19 (by decide) ?_
  refine lv_istore_n (lv' := [(3, .int (0:Int32)), (0, .ref h0), (1, .int x1), (2, .int x2)]) hx hb dX4_begin_20 rfl hl (by decide) rfl (fun ls hl => ?_)
  obtain ⟨o1, hq, hok⟩ := g_bnd1 hok
  refine L_21 FUEL (0:Int32) x1 (if (0:Int32) < (if (40:Int32) < x2 then (40:Int32) else x2) then (if (40:Int32) < x2 then (40:Int32) else x2) else (0:Int32)) s0_places o1 _ _ _ hP hD hS (lv_sub hl [1, 0] rfl) hq (fun H locs ls hP hD hS hl => ?_)
  cases hok
  exact cr_v hx hb hr hlocks hQ dX4_begin_40 hP hS
set_option maxHeartbeats 40000000 in
set_option maxRecDepth 100000 in
theorem c_X4_store (l : Launch) (G : va_G) (cA : Nat → ClassId) (ts : Nat → Nat) (h0 : Nat) (h0_places : Nat) (x1 : Int32) (x2 : Int64) (s0__sort : Int32) (s0__size : Int32) (s0_places : Nat → Int64) (o0_places : Nat → Int64) (hok : fX4_store x1 x2 s0__sort s0__size s0_places = some o0_places) : Ct l G cA ts yX4_store wsX4_store 2 61 [.ref h0, .int x1, .long x2] (wm_X4_inputAt cA h0 h0_places s0__sort s0__size s0_places) (wm_X4_inputAt cA h0 h0_places s0__sort s0__size o0_places) none := by
  refine Ct.intro (cc := cX4_store) (maxL := 4) (ret := none) (by decide +kernel) rfl (Nat.le_of_ble_eq_true rfl) ?_
  intro p e s m ar below meth c A Q hx hb hr hml hown hlocks hts hK hZ hA hQ hP hD hS ls hl
  have hown : s.vm.findClass RX4 = some m.cls := hown
  have hinX4 : ∀ w ∈ wsX40, w ∈ wsX4_store := fun _ h => List.mem_cons_of_mem _ (List.mem_append_right _ (h))
  have hl : lv_has ls 4 [(0, .ref h0), (1, .int x1), (2, .long x2)] := hl
  have hP : va_P G vwCl (wm_X4_inputAt cA h0 h0_places s0__sort s0__size s0_places) s.heap := hP
  have hD : va_D A (wm_X4_inputAt cA h0 h0_places s0__sort s0__size s0_places) := hD
  unfold fX4_store at hok
  refine lv_aload_n hx hb dX4_store_0 rfl (lv_at hl 0 rfl) ?_
  refine lv_iload_n hx hb dX4_store_1 rfl (lv_at hl 1 rfl) ?_
  obtain ⟨r1, hq, hok⟩ := g_bnd1 hok
  refine cG (is := [0]) (wc := (wm_X4_has cA h0 h0_places s0__sort s0__size)) (w1 := (wm_X4_has cA h0 h0_places s0__sort s0__size)) (rv := (some (.int r1))) (st1 := [.int r1]) (va_runV (Ts := wsX4_store) (As := [.int x1]) (rest := []) ⟨hx, hb, hml, hown, hts⟩ (c_X4_has l G cA ts h0 h0_places x1 s0__sort s0__size r1 hq s.heap.size) (cwV 1 hts gX4_store_X4_has rfl rfl rfl (by decide +kernel) ⟨Nat.le_of_ble_eq_true rfl, Nat.le_of_ble_eq_true rfl⟩) (pre_V (ci := 4) (q0 := 0) (is := [0]) rfl rfl hP hD hS hA hK hZ (by decide +kernel) (by rfl)) rfl rfl hl.1 rfl (by exact lv_room (Nat.le_of_ble_eq_true rfl)) dX4_store_2 ⟨Nat.le_refl _, Nat.le_refl _⟩) hP hD hS hA (by decide +kernel) (by rfl) (by rfl) rfl (fun H locs hP hD hS => ?_)
  have hP : va_P G vwCl (wm_X4_inputAt cA h0 h0_places s0__sort s0__size s0_places) H := hP
  have hD : va_D A (wm_X4_inputAt cA h0 h0_places s0__sort s0__size s0_places) := hD
  refine lv_if_eq (tgt := 43) hx hb dX4_store_5 (by decide) (fun c => ?_) (fun c => ?_)
  · replace hok := g_pos hok c
    cases hok
    exact cr_v hx hb hr hlocks hQ dX4_store_43 hP hS
  replace hok := g_neg hok c
  refine lv_aload_n hx hb dX4_store_8 rfl (lv_at hl 0 rfl) ?_
  refine va_get (ci := 4) (v := .ref h0_places) (C := RX4) (T := TX4) (N := 3) hx hb hts hinX4 hown hK hP 0 rfl rfl 0 (by decide) (hts _ (List.mem_of_getElem? (i := 1) rfl)) (fun _ h9 => h9) rfl dX4_store_9 ?_
  refine lv_iload_n hx hb dX4_store_12 rfl (lv_at hl 1 rfl) ?_
  refine lv_aload_n hx hb dX4_store_13 rfl (lv_at hl 0 rfl) ?_
  refine va_get (ci := 4) (v := .int s0__sort) (C := RX4) (T := TX4) (N := 3) hx hb hts hinX4 hown hK hP 0 rfl rfl 1 (by decide) (hts _ (List.mem_of_getElem? (i := 2) rfl)) (fun _ h9 => h9) rfl dX4_store_14 ?_
  refine lv_if_ne (tgt := 27) hx hb dX4_store_17 (by decide) (fun c => ?_) (fun c => ?_)
  · replace hok := g_neg hok c
    refine lv_aload_n hx hb dX4_store_27 rfl (lv_at hl 0 rfl) ?_
    refine va_get (ci := 4) (v := .int s0__sort) (C := RX4) (T := TX4) (N := 3) hx hb hts hinX4 hown hK hP 0 rfl rfl 1 (by decide) (hts _ (List.mem_of_getElem? (i := 2) rfl)) (fun _ h9 => h9) rfl dX4_store_28 ?_
    refine lv_iconst (v := 1) hx hb dX4_store_31 (by decide) ?_
    refine lv_icmp_ne (tgt := 41) hx hb dX4_store_32 (by decide) (fun c => ?_) (fun c => ?_)
    · replace hok := g_neg hok c
      refine lv_lload_n hx hb dX4_store_41 rfl (lv_at hl 2 rfl) ?_
      obtain ⟨hin, hok⟩ := g_no hok
      refine x_last (k := x1.toNatClampNeg) hx hb hK hP hD hS 1 1 rfl rfl hin rfl dX4_store_42 (fun H locs hP hD hS => ?_)
      have hP : va_P G vwCl (wm_X4_inputAt cA h0 h0_places s0__sort s0__size (vp_updL s0_places x1.toNatClampNeg x2)) H := hP
      have hD : va_D A (wm_X4_inputAt cA h0 h0_places s0__sort s0__size (vp_updL s0_places x1.toNatClampNeg x2)) := hD
      cases hok
      exact cr_v hx hb hr hlocks hQ dX4_store_43 hP hS
    replace hok := g_pos hok c
    refine lv_lload_n hx hb dX4_store_35 rfl (lv_at hl 2 rfl) ?_
    refine lv_l2i (v := (x2.toInt32)) hx hb dX4_store_36 rfl ?_
    refine lv_i2l (v := ((x2.toInt32).toInt64)) hx hb dX4_store_37 rfl ?_
    refine lv_goto (tgt := 42) hx hb dX4_store_38 (by decide) ?_
    obtain ⟨hin, hok⟩ := g_no hok
    refine x_last (k := x1.toNatClampNeg) hx hb hK hP hD hS 1 1 rfl rfl hin rfl dX4_store_42 (fun H locs hP hD hS => ?_)
    have hP : va_P G vwCl (wm_X4_inputAt cA h0 h0_places s0__sort s0__size (vp_updL s0_places x1.toNatClampNeg ((x2.toInt32).toInt64))) H := hP
    have hD : va_D A (wm_X4_inputAt cA h0 h0_places s0__sort s0__size (vp_updL s0_places x1.toNatClampNeg ((x2.toInt32).toInt64))) := hD
    cases hok
    exact cr_v hx hb hr hlocks hQ dX4_store_43 hP hS
  replace hok := g_pos hok c
  refine lv_lload_n hx hb dX4_store_20 rfl (lv_at hl 2 rfl) ?_
  refine lv_l2i (v := (x2.toInt32)) hx hb dX4_store_21 rfl ?_
  refine lv_i2b (v := ((x2.toInt32).toInt8.toInt32)) hx hb dX4_store_22 rfl ?_
  refine lv_i2l (v := (((x2.toInt32).toInt8.toInt32).toInt64)) hx hb dX4_store_23 rfl ?_
  refine lv_goto (tgt := 42) hx hb dX4_store_24 (by decide) ?_
  obtain ⟨hin, hok⟩ := g_no hok
  refine x_last (k := x1.toNatClampNeg) hx hb hK hP hD hS 1 1 rfl rfl hin rfl dX4_store_42 (fun H locs hP hD hS => ?_)
  have hP : va_P G vwCl (wm_X4_inputAt cA h0 h0_places s0__sort s0__size (vp_updL s0_places x1.toNatClampNeg (((x2.toInt32).toInt8.toInt32).toInt64))) H := hP
  have hD : va_D A (wm_X4_inputAt cA h0 h0_places s0__sort s0__size (vp_updL s0_places x1.toNatClampNeg (((x2.toInt32).toInt8.toInt32).toInt64))) := hD
  cases hok
  exact cr_v hx hb hr hlocks hQ dX4_store_43 hP hS
