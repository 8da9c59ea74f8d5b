set_option maxHeartbeats 40000000 in
set_option maxRecDepth 100000 in
theorem c_X5_zeroIn (l : Launch) (G : va_G) (cA : Nat → ClassId) (ts : Nat → Nat) (h0 : Nat) (h0_numbers : Nat) (h0_words : Nat) (s0__all : Int32) (s0__v : Int32) (s0__loss : Int32) (s0__result : Int32) (s0__over : Int32) (s0__heldAll : Int32) (s0__heldRounded : Int32) (s0_numbers : Nat → Int32) (s0_words : Nat → Int32) (r : Int32) (o0_words : Nat → Int32) (hok : fX5_zeroIn s0_numbers s0_words = some (r, o0_words)) : Ct l G cA ts yX5_zeroIn wsX5_zeroIn 3 82 [.ref h0] (wm_X3_gather cA h0 h0_numbers h0_words s0__all s0__v s0__loss s0__result s0__over s0__heldAll s0__heldRounded s0_numbers s0_words) (wm_X3_gather cA h0 h0_numbers h0_words s0__all s0__v s0__loss s0__result s0__over s0__heldAll s0__heldRounded s0_numbers o0_words) (some (.int r)) := by
  refine Ct.intro (cc := cX5_zeroIn) (maxL := 2) (ret := some .int) (by decide +kernel) rfl (Nat.le_of_ble_eq_true rfl) ?_
  intro p e s m ar below meth c A Q hx hb hr hml hown hlocks hts hK hZ hA hQ hP hD hS ls hl
  have hown : s.vm.findClass RX5 = some m.cls := hown
  have hinX3 : ∀ w ∈ wsX30, w ∈ wsX5_zeroIn := fun _ h => List.mem_cons_of_mem _ (List.mem_append_right _ (h))
  have hl : lv_has ls 2 [(0, .ref h0)] := hl
  have hP : va_P G vwCl (wm_X3_gather cA h0 h0_numbers h0_words s0__all s0__v s0__loss s0__result s0__over s0__heldAll s0__heldRounded s0_numbers s0_words) s.heap := hP
  have hD : va_D A (wm_X3_gather cA h0 h0_numbers h0_words s0__all s0__v s0__loss s0__result s0__over s0__heldAll s0__heldRounded s0_numbers s0_words) := hD
  have L_2 : ∀ (n : Nat) (y1 : Int32) (c0_words : Nat → Int32) (p0_0 : Nat → Int32) (H : Heap) (locs : List Loc) (ls : Array Slot), va_P G vwCl (wm_X3_gather cA h0 h0_numbers h0_words s0__all s0__v s0__loss s0__result s0__over s0__heldAll s0__heldRounded s0_numbers c0_words) H → va_D A (wm_X3_gather cA h0 h0_numbers h0_words s0__all s0__v s0__loss s0__result s0__over s0__heldAll s0__heldRounded s0_numbers c0_words) → va_S A s.heap H locs → lv_has ls 2 [(0, .ref h0), (1, .int y1)] → fX5_zeroIn_L2 s0_numbers n y1 c0_words = some p0_0 → (∀ (H : Heap) (locs : List Loc) (ls : Array Slot), va_P G vwCl (wm_X3_gather cA h0 h0_numbers h0_words s0__all s0__v s0__loss s0__result s0__over s0__heldAll s0__heldRounded s0_numbers p0_0) H → va_D A (wm_X3_gather cA h0 h0_numbers h0_words s0__all s0__v s0__loss s0__result s0__over s0__heldAll s0__heldRounded s0_numbers p0_0) → va_S A s.heap H locs → lv_has ls 2 [(0, .ref h0)] → W p l e (rmX 3 82) s m ar below meth c H locs 0 0 Q (F0 m 20 ls [])) → W p l e (rmX 3 82) s m ar below meth c H locs 0 0 Q (F0 m 2 ls []) := by
    intro n
    induction n with
    | zero =>
      intro y1 c0_words p0_0 H locs ls hP hD hS hl hok
      rw [fX5_zeroIn_L2] at hok
      cases hok
    | succ n ih =>
      intro y1 c0_words p0_0 H locs ls hP hD hS hl hok K
      rw [fX5_zeroIn_L2] at hok
      refine lv_iload_n hx hb dX5_zeroIn_2 rfl (lv_at hl 1 rfl) ?_
      refine lv_iconst (v := 3) hx hb dX5_zeroIn_3 (by decide) ?_
      refine lv_icmp_ge (tgt := 20) hx hb dX5_zeroIn_4 (by decide) (fun c => ?_) (fun c => ?_)
      · replace hok := g_pos hok c
        cases hok
        exact K _ _ _ hP hD hS (lv_sub hl [0] rfl)
      replace hok := g_neg hok c
      refine lv_aload_n hx hb dX5_zeroIn_7 rfl (lv_at hl 0 rfl) ?_
      refine va_get (ci := 3) (v := .ref h0_words) (C := RX3) (T := TX3) (N := 9) hx hb hts hinX3 hown hK hP 0 rfl rfl 1 (by decide) (hts _ (List.mem_of_getElem? (i := 1) rfl)) (fun _ h9 => h9) rfl dX5_zeroIn_8 ?_
      refine lv_iload_n hx hb dX5_zeroIn_11 rfl (lv_at hl 1 rfl) ?_
      refine lv_iconst (v := 0) hx hb dX5_zeroIn_12 (by decide) ?_
      obtain ⟨hin, hok⟩ := g_no hok
      refine x_iast (k := y1.toNatClampNeg) hx hb hK hP hD hS 2 0 rfl rfl hin rfl dX5_zeroIn_13 (fun H locs hP hD hS => ?_)
      have hP : va_P G vwCl (wm_X3_gather cA h0 h0_numbers h0_words s0__all s0__v s0__loss s0__result s0__over s0__heldAll s0__heldRounded s0_numbers (upd c0_words y1.toNatClampNeg (0:Int32))) H := hP
      have hD : va_D A (wm_X3_gather cA h0 h0_numbers h0_words s0__all s0__v s0__loss s0__result s0__over s0__heldAll s0__heldRounded s0_numbers (upd c0_words y1.toNatClampNeg (0:Int32))) := hD
      refine lv_iinc (v := (y1 + 1)) (lv' := [(1, .int (y1 + 1)), (0, .ref h0)]) hx hb dX5_zeroIn_14 hl (k := 1) rfl rfl (by decide) rfl (fun ls hl => ?_)
      refine lv_goto (tgt := 2) hx hb dX5_zeroIn_17 (by decide) ?_
      exact ih (y1 + 1) (upd c0_words y1.toNatClampNeg (0:Int32)) p0_0 _ _ _ hP hD hS (lv_sub hl [1, 0] rfl) hok K
  unfold fX5_zeroIn at hok
  refine lv_iconst (v := 0) hx hb dX5_zeroIn_0 (by decide) ?_
  refine lv_istore_n (lv' := [(1, .int (0:Int32)), (0, .ref h0)]) hx hb dX5_zeroIn_1 rfl hl (by decide) rfl (fun ls hl => ?_)
  obtain ⟨o1, hq, hok⟩ := g_bnd1 hok
  refine L_2 FUEL (0:Int32) s0_words o1 _ _ _ hP hD hS (lv_sub hl [1, 0] rfl) hq (fun H locs ls hP hD hS hl => ?_)
  refine lv_aload_n hx hb dX5_zeroIn_20 rfl (lv_at hl 0 rfl) ?_
  obtain ⟨r2, hq, hok⟩ := g_bnd1 hok
  refine cG (is := [0, 1, 2]) (wc := (wm_X3_gather cA h0 h0_numbers h0_words s0__all s0__v s0__loss s0__result s0__over s0__heldAll s0__heldRounded s0_numbers o1)) (w1 := (wm_X3_gather cA h0 h0_numbers h0_words s0__all s0__v s0__loss s0__result s0__over s0__heldAll s0__heldRounded s0_numbers o1)) (rv := (some (.int r2))) (st1 := [.int r2]) (va_runV (Ts := wsX5_zeroIn) (As := []) (rest := []) ⟨hx, hb, hml, hown, hts⟩ (c_X3_packed l G cA ts h0 h0_numbers h0_words s0__all s0__v s0__loss s0__result s0__over s0__heldAll s0__heldRounded s0_numbers o1 r2 hq H.size) (cwV 0 hts gX5_zeroIn_X3_packed rfl rfl rfl (by decide +kernel) ⟨Nat.le_of_ble_eq_true rfl, Nat.le_of_ble_eq_true rfl⟩) (pre_V (ci := 3) (q0 := 0) (is := [0, 1, 2]) rfl rfl hP hD hS hA hK hZ (by decide +kernel) (by rfl)) rfl rfl hl.1 rfl (by exact lv_room (Nat.le_of_ble_eq_true rfl)) dX5_zeroIn_21 ⟨Nat.le_refl _, Nat.le_refl _⟩) hP hD hS hA (by decide +kernel) (by rfl) (by rfl) rfl (fun H locs hP hD hS => ?_)
  have hP : va_P G vwCl (wm_X3_gather cA h0 h0_numbers h0_words s0__all s0__v s0__loss s0__result s0__over s0__heldAll s0__heldRounded s0_numbers o1) H := hP
  have hD : va_D A (wm_X3_gather cA h0 h0_numbers h0_words s0__all s0__v s0__loss s0__result s0__over s0__heldAll s0__heldRounded s0_numbers o1) := hD
  cases hok
  exact cr_i hx hb hr hlocks hQ dX5_zeroIn_24 hP hS
set_option maxHeartbeats 40000000 in
set_option maxRecDepth 100000 in
theorem c_X5_find (l : Launch) (G : va_G) (cA : Nat → ClassId) (ts : Nat → Nat) (h0 : Nat) (h0_queue : Nat) (h0_seen : Nat) (x1 : Int32) (s0__found : Int32) (s0__over : Int32) (s0_queue : Nat → Int32) (s0_seen : Nat → Int32) (o0__found : Int32) (o0_queue : Nat → Int32) (o0_seen : Nat → Int32) (hok : fX5_find x1 s0__found s0_queue s0_seen = some (o0__found, o0_queue, o0_seen)) : Ct l G cA ts yX5_find wsX5_find 1 40 [.ref h0, .int x1] (wm_X5_find cA h0 h0_queue h0_seen s0__found s0__over s0_queue s0_seen) (wm_X5_find cA h0 h0_queue h0_seen o0__found s0__over o0_queue o0_seen) none := by
  refine Ct.intro (cc := cX5_find) (maxL := 2) (ret := none) (by decide +kernel) rfl (Nat.le_of_ble_eq_true rfl) ?_
  intro p e s m ar below meth c A Q hx hb hr hml hown hlocks hts hK hZ hA hQ hP hD hS ls hl
  have hown : s.vm.findClass RX5 = some m.cls := hown
  have hinX5 : ∀ w ∈ wsX50, w ∈ wsX5_find := fun _ h => List.mem_cons_of_mem _ (List.mem_append_right _ (h))
  have hl : lv_has ls 2 [(0, .ref h0), (1, .int x1)] := hl
  have hP : va_P G vwCl (wm_X5_find cA h0 h0_queue h0_seen s0__found s0__over s0_queue s0_seen) s.heap := hP
  have hD : va_D A (wm_X5_find cA h0 h0_queue h0_seen s0__found s0__over s0_queue s0_seen) := hD
  unfold fX5_find at hok
  refine lv_iload_n hx hb dX5_find_0 rfl (lv_at hl 1 rfl) ?_
  refine lv_if_lt (tgt := 57) hx hb dX5_find_1 (by decide) (fun c => ?_) (fun c => ?_)
  · replace hok := g_pos hok c
    cases hok
    exact cr_v hx hb hr hlocks hQ dX5_find_57 hP hS
  replace hok := g_neg hok c
  refine lv_iload_n hx hb dX5_find_4 rfl (lv_at hl 1 rfl) ?_
  refine lv_sipush (v := 1024) hx hb dX5_find_5 (by decide) ?_
  refine lv_icmp_ge (tgt := 57) hx hb dX5_find_8 (by decide) (fun c => ?_) (fun c => ?_)
  · replace hok := g_pos hok c
    cases hok
    exact cr_v hx hb hr hlocks hQ dX5_find_57 hP hS
  replace hok := g_neg hok c
  refine lv_aload_n hx hb dX5_find_11 rfl (lv_at hl 0 rfl) ?_
  refine va_get (ci := 5) (v := .ref h0_seen) (C := RX5) (T := TX5) (N := 4) hx hb hts hinX5 hown hK hP 0 rfl rfl 1 (by decide) (hts _ (List.mem_of_getElem? (i := 1) rfl)) (fun _ h9 => h9) rfl dX5_find_12 ?_
  refine lv_iload_n hx hb dX5_find_15 rfl (lv_at hl 1 rfl) ?_
  obtain ⟨hin, hok⟩ := g_no hok
  refine x_zald (k := x1.toNatClampNeg) hx hb hK hP 2 3 rfl rfl hin rfl dX5_find_16 ?_
  refine lv_if_ne (tgt := 57) hx hb dX5_find_17 (by decide) (fun c => ?_) (fun c => ?_)
  · replace hok := g_neg hok c
    cases hok
    exact cr_v hx hb hr hlocks hQ dX5_find_57 hP hS
  replace hok := g_pos hok c
  refine lv_aload_n hx hb dX5_find_20 rfl (lv_at hl 0 rfl) ?_
  refine va_get (ci := 5) (v := .int s0__found) (C := RX5) (T := TX5) (N := 4) hx hb hts hinX5 hown hK hP 0 rfl rfl 2 (by decide) (hts _ (List.mem_of_getElem? (i := 2) rfl)) (fun _ h9 => h9) rfl dX5_find_21 ?_
  refine lv_sipush (v := 1024) hx hb dX5_find_24 (by decide) ?_
  refine lv_icmp_ge (tgt := 57) hx hb dX5_find_27 (by decide) (fun c => ?_) (fun c => ?_)
  · replace hok := g_pos hok c
    cases hok
    exact cr_v hx hb hr hlocks hQ dX5_find_57 hP hS
  replace hok := g_neg hok c
  refine lv_aload_n hx hb dX5_find_30 rfl (lv_at hl 0 rfl) ?_
  refine va_get (ci := 5) (v := .ref h0_seen) (C := RX5) (T := TX5) (N := 4) hx hb hts hinX5 hown hK hP 0 rfl rfl 1 (by decide) (hts _ (List.mem_of_getElem? (i := 1) rfl)) (fun _ h9 => h9) rfl dX5_find_31 ?_
  refine lv_iload_n hx hb dX5_find_34 rfl (lv_at hl 1 rfl) ?_
  refine lv_iconst (v := 1) hx hb dX5_find_35 (by decide) ?_
  obtain ⟨hin, hok⟩ := g_no hok
  refine x_zast (k := x1.toNatClampNeg) hx hb hK hP hD hS 2 3 rfl rfl hin rfl dX5_find_36 (fun H locs hP hD hS => ?_)
  have hP : va_P G vwCl (wm_X5_find cA h0 h0_queue h0_seen s0__found s0__over s0_queue (upd s0_seen x1.toNatClampNeg (vp_nar .boolean (1:Int32)))) H := hP
  have hD : va_D A (wm_X5_find cA h0 h0_queue h0_seen s0__found s0__over s0_queue (upd s0_seen x1.toNatClampNeg (vp_nar .boolean (1:Int32)))) := hD
  refine lv_aload_n hx hb dX5_find_37 rfl (lv_at hl 0 rfl) ?_
  refine va_get (ci := 5) (v := .ref h0_queue) (C := RX5) (T := TX5) (N := 4) hx hb hts hinX5 hown hK hP 0 rfl rfl 0 (by decide) (hts _ (List.mem_of_getElem? (i := 3) rfl)) (fun _ h9 => h9) rfl dX5_find_38 ?_
  refine lv_aload_n hx hb dX5_find_41 rfl (lv_at hl 0 rfl) ?_
  refine va_get (ci := 5) (v := .int s0__found) (C := RX5) (T := TX5) (N := 4) hx hb hts hinX5 hown hK hP 0 rfl rfl 2 (by decide) (hts _ (List.mem_of_getElem? (i := 2) rfl)) (fun _ h9 => h9) rfl dX5_find_42 ?_
  refine lv_iload_n hx hb dX5_find_45 rfl (lv_at hl 1 rfl) ?_
  obtain ⟨hin, hok⟩ := g_no hok
  refine x_iast (k := s0__found.toNatClampNeg) hx hb hK hP hD hS 1 0 rfl rfl hin rfl dX5_find_46 (fun H locs hP hD hS => ?_)
  have hP : va_P G vwCl (wm_X5_find cA h0 h0_queue h0_seen s0__found s0__over (upd s0_queue s0__found.toNatClampNeg x1) (upd s0_seen x1.toNatClampNeg (vp_nar .boolean (1:Int32)))) H := hP
  have hD : va_D A (wm_X5_find cA h0 h0_queue h0_seen s0__found s0__over (upd s0_queue s0__found.toNatClampNeg x1) (upd s0_seen x1.toNatClampNeg (vp_nar .boolean (1:Int32)))) := hD
  refine lv_aload_n hx hb dX5_find_47 rfl (lv_at hl 0 rfl) ?_
  refine lv_dup hx hb dX5_find_48 rfl ?_
  refine va_get (ci := 5) (v := .int s0__found) (C := RX5) (T := TX5) (N := 4) hx hb hts hinX5 hown hK hP 0 rfl rfl 2 (by decide) (hts _ (List.mem_of_getElem? (i := 2) rfl)) (fun _ h9 => h9) rfl dX5_find_49 ?_
  refine lv_iconst (v := 1) hx hb dX5_find_52 (by decide) ?_
  refine lv_iadd hx hb dX5_find_53 ?_
  refine va_put (D := G) (ci := 5) (v := .int (s0__found + (1:Int32))) (ty := .int) (C := RX5) (T := TX5) (N := 4) hx hb hts hinX5 tyX5 tyX5_ok nmX5 hown hK hP hD hS 0 rfl rfl 2 (by decide) (hts _ (List.mem_of_getElem? (i := 2) rfl)) (fun _ h9 => h9) rfl (by decide +kernel) rfl rfl (Nat.le_of_ble_eq_true rfl) dX5_find_54 (fun H locs hP hD hS => ?_)
  have hP : va_P G vwCl (wm_X5_find cA h0 h0_queue h0_seen (s0__found + (1:Int32)) s0__over (upd s0_queue s0__found.toNatClampNeg x1) (upd s0_seen x1.toNatClampNeg (vp_nar .boolean (1:Int32)))) H := hP
  have hD : va_D A (wm_X5_find cA h0 h0_queue h0_seen (s0__found + (1:Int32)) s0__over (upd s0_queue s0__found.toNatClampNeg x1) (upd s0_seen x1.toNatClampNeg (vp_nar .boolean (1:Int32)))) := hD
  cases hok
  exact cr_v hx hb hr hlocks hQ dX5_find_57 hP hS
set_option maxHeartbeats 40000000 in
set_option maxRecDepth 100000 in
theorem c_X5_leadOn (l : Launch) (G : va_G) (cA : Nat → ClassId) (ts : Nat → Nat) (h0 : Nat) (h0_queue : Nat) (h0_seen : Nat) (h1 : Nat) (h1_numbers : Nat) (h1_words : Nat) (x2 : Int32) (x3 : Int32) (s0__found : Int32) (s0__over : Int32) (s0_queue : Nat → Int32) (s0_seen : Nat → Int32) (s1__all : Int32) (s1__v : Int32) (s1__loss : Int32) (s1__result : Int32) (s1__over : Int32) (s1__heldAll : Int32) (s1__heldRounded : Int32) (s1_numbers : Nat → Int32) (s1_words : Nat → Int32) (o0__found : Int32) (o0__over : Int32) (o0_queue : Nat → Int32) (o0_seen : Nat → Int32) (o1__all : Int32) (o1__v : Int32) (o1__loss : Int32) (o1__result : Int32) (o1__over : Int32) (o1__heldAll : Int32) (o1__heldRounded : Int32) (o1_words : Nat → Int32) (hok : fX5_leadOn x2 x3 s0__found s0__over s0_queue s0_seen s1__all s1__v s1__loss s1__result s1__over s1__heldAll s1__heldRounded s1_numbers s1_words = some (o0__found, o0__over, o0_queue, o0_seen, o1__all, o1__v, o1__loss, o1__result, o1__over, o1__heldAll, o1__heldRounded, o1_words)) : Ct l G cA ts yX5_leadOn wsX5_leadOn 4 105 [.ref h0, .ref h1, .int x2, .int x3] (wm_X5_leadOn cA h0 h0_queue h0_seen h1 h1_numbers h1_words s0__found s0__over s0_queue s0_seen s1__all s1__v s1__loss s1__result s1__over s1__heldAll s1__heldRounded s1_numbers s1_words) (wm_X5_leadOn cA h0 h0_queue h0_seen h1 h1_numbers h1_words o0__found o0__over o0_queue o0_seen o1__all o1__v o1__loss o1__result o1__over o1__heldAll o1__heldRounded s1_numbers o1_words) none := by
  refine Ct.intro (cc := cX5_leadOn) (maxL := 5) (ret := none) (by decide +kernel) rfl (Nat.le_of_ble_eq_true rfl) ?_
  intro p e s m ar below meth c A Q hx hb hr hml hown hlocks hts hK hZ hA hQ hP hD hS ls hl
  have hown : s.vm.findClass RX5 = some m.cls := hown
  have hinX3 : ∀ w ∈ wsX30, w ∈ wsX5_leadOn := fun _ h => List.mem_cons_of_mem _ (List.mem_append_right _ (h))
  have hinX5 : ∀ w ∈ wsX50, w ∈ wsX5_leadOn := fun _ h => List.mem_cons_of_mem _ (List.mem_append_left _ (List.mem_append_right _ (h)))
  have hl : lv_has ls 5 [(0, .ref h0), (1, .ref h1), (2, .int x2), (3, .int x3)] := hl
  have hP : va_P G vwCl (wm_X5_leadOn cA h0 h0_queue h0_seen h1 h1_numbers h1_words s0__found s0__over s0_queue s0_seen s1__all s1__v s1__loss s1__result s1__over s1__heldAll s1__heldRounded s1_numbers s1_words) s.heap := hP
  have hD : va_D A (wm_X5_leadOn cA h0 h0_queue h0_seen h1 h1_numbers h1_words s0__found s0__over s0_queue s0_seen s1__all s1__v s1__loss s1__result s1__over s1__heldAll s1__heldRounded s1_numbers s1_words) := hD
  have L_13 : ∀ (n : Nat) (y4 : Int32) (c0__found : Int32) (c0__over : Int32) (c0_queue : Nat → Int32) (c0_seen : Nat → Int32) (c1__all : Int32) (c1__v : Int32) (c1__loss : Int32) (c1__result : Int32) (c1__over : Int32) (c1__heldAll : Int32) (c1__heldRounded : Int32) (c1_words : Nat → Int32) (p0_0 : Int32) (p0_1 : Int32) (p0_2 : Nat → Int32) (p0_3 : Nat → Int32) (p0_4 : Int32) (p0_5 : Int32) (p0_6 : Int32) (p0_7 : Int32) (p0_8 : Int32) (H : Heap) (locs : List Loc) (ls : Array Slot), va_P G vwCl (wm_X5_leadOn cA h0 h0_queue h0_seen h1 h1_numbers h1_words c0__found c0__over c0_queue c0_seen c1__all c1__v c1__loss c1__result c1__over c1__heldAll c1__heldRounded s1_numbers c1_words) H → va_D A (wm_X5_leadOn cA h0 h0_queue h0_seen h1 h1_numbers h1_words c0__found c0__over c0_queue c0_seen c1__all c1__v c1__loss c1__result c1__over c1__heldAll c1__heldRounded s1_numbers c1_words) → va_S A s.heap H locs → lv_has ls 5 [(0, .ref h0), (1, .ref h1), (2, .int x2), (3, .int x3), (4, .int y4)] → fX5_leadOn_L13 x2 x3 s1_numbers n y4 c0__found c0__over c0_queue c0_seen c1__all c1__v c1__loss c1__result c1__over c1__heldAll c1__heldRounded c1_words = some (p0_0, p0_1, p0_2, p0_3, p0_4, p0_5, p0_6, p0_7, p0_8) → (∀ (H : Heap) (locs : List Loc) (ls : Array Slot), va_P G vwCl (wm_X5_leadOn cA h0 h0_queue h0_seen h1 h1_numbers h1_words p0_0 p0_1 p0_2 p0_3 p0_4 p0_5 p0_6 p0_7 p0_8 c1__heldAll c1__heldRounded s1_numbers c1_words) H → va_D A (wm_X5_leadOn cA h0 h0_queue h0_seen h1 h1_numbers h1_words p0_0 p0_1 p0_2 p0_3 p0_4 p0_5 p0_6 p0_7 p0_8 c1__heldAll c1__heldRounded s1_numbers c1_words) → va_S A s.heap H locs → lv_has ls 5 [] → W p l e (rmX 4 105) s m ar below meth c H locs 0 0 Q (F0 m 73 ls [])) → W p l e (rmX 4 105) s m ar below meth c H locs 0 0 Q (F0 m 13 ls []) := by
    intro n
    induction n with
    | zero =>
      intro y4 c0__found c0__over c0_queue c0_seen c1__all c1__v c1__loss c1__result c1__over c1__heldAll c1__heldRounded c1_words p0_0 p0_1 p0_2 p0_3 p0_4 p0_5 p0_6 p0_7 p0_8 H locs ls hP hD hS hl hok
      rw [fX5_leadOn_L13] at hok
      cases hok
    | succ n ih =>
      intro y4 c0__found c0__over c0_queue c0_seen c1__all c1__v c1__loss c1__result c1__over c1__heldAll c1__heldRounded c1_words p0_0 p0_1 p0_2 p0_3 p0_4 p0_5 p0_6 p0_7 p0_8 H locs ls hP hD hS hl hok K
      rw [fX5_leadOn_L13] at hok
      have J_45 : ∀ (y4 : Int32) (z1 : Int32) (c0__found : Int32) (c0__over : Int32) (c0_queue : Nat → Int32) (c0_seen : Nat → Int32) (c1__all : Int32) (c1__v : Int32) (c1__loss : Int32) (c1__result : Int32) (c1__over : Int32) (H : Heap) (locs : List Loc) (ls : Array Slot), va_P G vwCl (wm_X5_leadOn cA h0 h0_queue h0_seen h1 h1_numbers h1_words c0__found c0__over c0_queue c0_seen c1__all c1__v c1__loss c1__result c1__over c1__heldAll c1__heldRounded s1_numbers c1_words) H → va_D A (wm_X5_leadOn cA h0 h0_queue h0_seen h1 h1_numbers h1_words c0__found c0__over c0_queue c0_seen c1__all c1__v c1__loss c1__result c1__over c1__heldAll c1__heldRounded s1_numbers c1_words) → va_S A s.heap H locs → lv_has ls 5 [(0, .ref h0), (1, .ref h1), (2, .int x2), (3, .int x3), (4, .int y4)] → fX5_leadOn_j45 x2 x3 s1_numbers (fX5_leadOn_L13 x2 x3 s1_numbers n) y4 z1 c0__found c0__over c0_queue c0_seen c1__all c1__v c1__loss c1__result c1__over c1__heldAll c1__heldRounded c1_words = some (p0_0, p0_1, p0_2, p0_3, p0_4, p0_5, p0_6, p0_7, p0_8) → W p l e (rmX 4 105) s m ar below meth c H locs 0 0 Q (F0 m 45 ls [.int z1, .ref h0]) := by
        intro y4 z1 c0__found c0__over c0_queue c0_seen c1__all c1__v c1__loss c1__result c1__over H locs ls hP hD hS hl hok
        unfold fX5_leadOn_j45 at hok
        obtain ⟨hin, hok⟩ := g_no hok
        refine va_put (D := G) (ci := 5) (v := .int z1) (ty := .boolean) (C := RX5) (T := TX5) (N := 4) hx hb hts hinX5 tyX5 tyX5_ok nmX5 hown hK hP hD hS 0 rfl rfl 3 (by decide) (hts _ (List.mem_of_getElem? (i := 1) rfl)) (fun _ h9 => h9) rfl (by decide +kernel) (nar_z hin) (fit_z hin) (Nat.le_of_ble_eq_true rfl) dX5_leadOn_45 (fun H locs hP hD hS => ?_)
        have hP : va_P G vwCl (wm_X5_leadOn cA h0 h0_queue h0_seen h1 h1_numbers h1_words c0__found z1 c0_queue c0_seen c1__all c1__v c1__loss c1__result c1__over c1__heldAll c1__heldRounded s1_numbers c1_words) H := hP
        have hD : va_D A (wm_X5_leadOn cA h0 h0_queue h0_seen h1 h1_numbers h1_words c0__found z1 c0_queue c0_seen c1__all c1__v c1__loss c1__result c1__over c1__heldAll c1__heldRounded s1_numbers c1_words) := hD
        refine lv_aload_n hx hb dX5_leadOn_48 rfl (lv_at hl 1 rfl) ?_
        refine va_get (ci := 3) (v := .int c1__result) (C := RX3) (T := TX3) (N := 9) hx hb hts hinX3 hown hK hP 3 rfl rfl 5 (by decide) (hts _ (List.mem_of_getElem? (i := 3) rfl)) (fun _ h9 => h9) rfl dX5_leadOn_49 ?_
        refine lv_sipush (v := -1005) hx hb dX5_leadOn_52 (by decide) ?_
        refine lv_icmp_eq (tgt := 67) hx hb dX5_leadOn_55 (by decide) (fun c => ?_) (fun c => ?_)
        · replace hok := g_pos hok c
          refine lv_iinc (v := (y4 + 1)) (lv' := [(4, .int (y4 + 1)), (0, .ref h0), (1, .ref h1), (2, .int x2), (3, .int x3)]) hx hb dX5_leadOn_67 hl (k := 4) rfl rfl (by decide) rfl (fun ls hl => ?_)
          refine lv_goto (tgt := 13) hx hb dX5_leadOn_70 (by decide) ?_
          exact ih (y4 + 1) c0__found z1 c0_queue c0_seen c1__all c1__v c1__loss c1__result c1__over c1__heldAll c1__heldRounded c1_words p0_0 p0_1 p0_2 p0_3 p0_4 p0_5 p0_6 p0_7 p0_8 _ _ _ hP hD hS (lv_sub hl [1, 2, 3, 4, 0] rfl) hok K
        replace hok := g_neg hok c
        refine lv_aload_n hx hb dX5_leadOn_58 rfl (lv_at hl 0 rfl) ?_
        refine lv_aload_n hx hb dX5_leadOn_59 rfl (lv_at hl 1 rfl) ?_
        refine lv_iload_n hx hb dX5_leadOn_60 rfl (lv_at hl 2 rfl) ?_
        obtain ⟨r9, hq, hok⟩ := g_bnd1 hok
        refine cG (is := [3, 4]) (wc := (wm_X3_unit cA h1 h1_numbers h1_words c1__all c1__v c1__loss c1__result c1__over c1__heldAll c1__heldRounded s1_numbers)) (w1 := (wm_X3_unit cA h1 h1_numbers h1_words c1__all c1__v c1__loss c1__result c1__over c1__heldAll c1__heldRounded s1_numbers)) (rv := (some (.int r9))) (st1 := [.int r9, .ref h0]) (va_runV (Ts := wsX5_leadOn) (As := [.int x2]) (rest := [.ref h0]) ⟨hx, hb, hml, hown, hts⟩ (c_X3_codeBehind l G cA ts h1 h1_numbers h1_words x2 c1__all c1__v c1__loss c1__result c1__over c1__heldAll c1__heldRounded s1_numbers r9 hq H.size) (cwV 1 hts gX5_leadOn_X3_codeBehind rfl rfl rfl (by decide +kernel) ⟨Nat.le_of_ble_eq_true rfl, Nat.le_of_ble_eq_true rfl⟩) (pre_V (ci := 3) (q0 := 3) (is := [3, 4]) rfl rfl hP hD hS hA hK hZ (by decide +kernel) (by rfl)) rfl rfl hl.1 rfl (by exact lv_room (Nat.le_of_ble_eq_true rfl)) dX5_leadOn_61 ⟨Nat.le_refl _, Nat.le_refl _⟩) hP hD hS hA (by decide +kernel) (by rfl) (by rfl) rfl (fun H locs hP hD hS => ?_)
        have hP : va_P G vwCl (wm_X5_leadOn cA h0 h0_queue h0_seen h1 h1_numbers h1_words c0__found z1 c0_queue c0_seen c1__all c1__v c1__loss c1__result c1__over c1__heldAll c1__heldRounded s1_numbers c1_words) H := hP
        have hD : va_D A (wm_X5_leadOn cA h0 h0_queue h0_seen h1 h1_numbers h1_words c0__found z1 c0_queue c0_seen c1__all c1__v c1__loss c1__result c1__over c1__heldAll c1__heldRounded s1_numbers c1_words) := hD
        obtain ⟨o10, o11, o12, hq, hok⟩ := g_bnd3 hok
        refine cG (is := [0, 1, 2]) (wc := (wm_X5_find cA h0 h0_queue h0_seen c0__found z1 c0_queue c0_seen)) (w1 := (wm_X5_find cA h0 h0_queue h0_seen o10 z1 o11 o12)) (rv := none) (st1 := []) (va_runV (Ts := wsX5_leadOn) (As := [.int r9]) (rest := []) ⟨hx, hb, hml, hown, hts⟩ (c_X5_find l G cA ts h0 h0_queue h0_seen r9 c0__found z1 c0_queue c0_seen o10 o11 o12 hq H.size) (cwV 1 hts gX5_leadOn_X5_find rfl rfl rfl (by decide +kernel) ⟨Nat.le_of_ble_eq_true rfl, Nat.le_of_ble_eq_true rfl⟩) (pre_V (ci := 5) (q0 := 0) (is := [0, 1, 2]) rfl rfl hP hD hS hA hK hZ (by decide +kernel) (by rfl)) rfl rfl hl.1 rfl (by exact lv_room (Nat.le_of_ble_eq_true rfl)) dX5_leadOn_64 ⟨Nat.le_refl _, Nat.le_refl _⟩) hP hD hS hA (by decide +kernel) (by rfl) (by rfl) rfl (fun H locs hP hD hS => ?_)
        have hP : va_P G vwCl (wm_X5_leadOn cA h0 h0_queue h0_seen h1 h1_numbers h1_words o10 z1 o11 o12 c1__all c1__v c1__loss c1__result c1__over c1__heldAll c1__heldRounded s1_numbers c1_words) H := hP
        have hD : va_D A (wm_X5_leadOn cA h0 h0_queue h0_seen h1 h1_numbers h1_words o10 z1 o11 o12 c1__all c1__v c1__loss c1__result c1__over c1__heldAll c1__heldRounded s1_numbers c1_words) := hD
        refine lv_iinc (v := (y4 + 1)) (lv' := [(4, .int (y4 + 1)), (0, .ref h0), (1, .ref h1), (2, .int x2), (3, .int x3)]) hx hb dX5_leadOn_67 hl (k := 4) rfl rfl (by decide) rfl (fun ls hl => ?_)
        refine lv_goto (tgt := 13) hx hb dX5_leadOn_70 (by decide) ?_
        exact ih (y4 + 1) o10 z1 o11 o12 c1__all c1__v c1__loss c1__result c1__over c1__heldAll c1__heldRounded c1_words p0_0 p0_1 p0_2 p0_3 p0_4 p0_5 p0_6 p0_7 p0_8 _ _ _ hP hD hS (lv_sub hl [1, 2, 3, 4, 0] rfl) hok K
      have J_40 : ∀ (y4 : Int32) (c0__found : Int32) (c0__over : Int32) (c0_queue : Nat → Int32) (c0_seen : Nat → Int32) (c1__all : Int32) (c1__v : Int32) (c1__loss : Int32) (c1__result : Int32) (c1__over : Int32) (H : Heap) (locs : List Loc) (ls : Array Slot), va_P G vwCl (wm_X5_leadOn cA h0 h0_queue h0_seen h1 h1_numbers h1_words c0__found c0__over c0_queue c0_seen c1__all c1__v c1__loss c1__result c1__over c1__heldAll c1__heldRounded s1_numbers c1_words) H → va_D A (wm_X5_leadOn cA h0 h0_queue h0_seen h1 h1_numbers h1_words c0__found c0__over c0_queue c0_seen c1__all c1__v c1__loss c1__result c1__over c1__heldAll c1__heldRounded s1_numbers c1_words) → va_S A s.heap H locs → lv_has ls 5 [(0, .ref h0), (1, .ref h1), (2, .int x2), (3, .int x3), (4, .int y4)] → fX5_leadOn_j40 x2 x3 s1_numbers (fX5_leadOn_L13 x2 x3 s1_numbers n) y4 c0__found c0__over c0_queue c0_seen c1__all c1__v c1__loss c1__result c1__over c1__heldAll c1__heldRounded c1_words = some (p0_0, p0_1, p0_2, p0_3, p0_4, p0_5, p0_6, p0_7, p0_8) → W p l e (rmX 4 105) s m ar below meth c H locs 0 0 Q (F0 m 40 ls [.ref h0]) := by
        intro y4 c0__found c0__over c0_queue c0_seen c1__all c1__v c1__loss c1__result c1__over H locs ls hP hD hS hl hok
        unfold fX5_leadOn_j40 at hok
        refine lv_iconst (v := 1) hx hb dX5_leadOn_40 (by decide) ?_
        refine lv_goto (tgt := 45) hx hb dX5_leadOn_41 (by decide) ?_
        exact J_45 y4 (1:Int32) c0__found c0__over c0_queue c0_seen c1__all c1__v c1__loss c1__result c1__over _ _ _ hP hD hS (lv_sub hl [0, 1, 2, 3, 4] rfl) hok
      refine lv_iload hx hb dX5_leadOn_13 (lv_at hl 4 rfl) ?_
      refine lv_iload_n hx hb dX5_leadOn_15 rfl (lv_at hl 3 rfl) ?_
      refine lv_icmp_gt (tgt := 73) hx hb dX5_leadOn_16 (by decide) (fun c => ?_) (fun c => ?_)
      · replace hok := g_pos hok c
        cases hok
        exact K _ _ _ hP hD hS (lv_sub hl [] rfl)
      replace hok := g_neg hok c
      refine lv_aload_n hx hb dX5_leadOn_19 rfl (lv_at hl 1 rfl) ?_
      refine lv_iload hx hb dX5_leadOn_20 (lv_at hl 4 rfl) ?_
      obtain ⟨o4, o5, o6, o7, o8, hq, hok⟩ := g_bnd5 hok
      refine cG (is := [3, 4, 5]) (wc := (wm_X3_gather cA h1 h1_numbers h1_words c1__all c1__v c1__loss c1__result c1__over c1__heldAll c1__heldRounded s1_numbers c1_words)) (w1 := (wm_X3_gather cA h1 h1_numbers h1_words o4 o5 o6 o7 o8 c1__heldAll c1__heldRounded s1_numbers c1_words)) (rv := none) (st1 := []) (va_runV (Ts := wsX5_leadOn) (As := [.int y4]) (rest := []) ⟨hx, hb, hml, hown, hts⟩ (c_X3_weighGathered l G cA ts h1 h1_numbers h1_words y4 c1__all c1__v c1__loss c1__result c1__over c1__heldAll c1__heldRounded s1_numbers c1_words o4 o5 o6 o7 o8 hq H.size) (cwV 1 hts gX5_leadOn_X3_weighGathered rfl rfl rfl (by decide +kernel) ⟨Nat.le_of_ble_eq_true rfl, Nat.le_of_ble_eq_true rfl⟩) (pre_V (ci := 3) (q0 := 3) (is := [3, 4, 5]) rfl rfl hP hD hS hA hK hZ (by decide +kernel) (by rfl)) rfl rfl hl.1 rfl (by exact lv_room (Nat.le_of_ble_eq_true rfl)) dX5_leadOn_22 ⟨Nat.le_refl _, Nat.le_refl _⟩) hP hD hS hA (by decide +kernel) (by rfl) (by rfl) rfl (fun H locs hP hD hS => ?_)
      have hP : va_P G vwCl (wm_X5_leadOn cA h0 h0_queue h0_seen h1 h1_numbers h1_words c0__found c0__over c0_queue c0_seen o4 o5 o6 o7 o8 c1__heldAll c1__heldRounded s1_numbers c1_words) H := hP
      have hD : va_D A (wm_X5_leadOn cA h0 h0_queue h0_seen h1 h1_numbers h1_words c0__found c0__over c0_queue c0_seen o4 o5 o6 o7 o8 c1__heldAll c1__heldRounded s1_numbers c1_words) := hD
      refine lv_aload_n hx hb dX5_leadOn_25 rfl (lv_at hl 0 rfl) ?_
      refine lv_aload_n hx hb dX5_leadOn_26 rfl (lv_at hl 0 rfl) ?_
      refine va_get (ci := 5) (v := .int c0__over) (C := RX5) (T := TX5) (N := 4) hx hb hts hinX5 hown hK hP 0 rfl rfl 3 (by decide) (hts _ (List.mem_of_getElem? (i := 1) rfl)) (fun _ h9 => h9) rfl dX5_leadOn_27 ?_
      refine lv_if_ne (tgt := 40) hx hb dX5_leadOn_30 (by decide) (fun c => ?_) (fun c => ?_)
      · replace hok := g_neg hok c
        exact J_40 y4 c0__found c0__over c0_queue c0_seen o4 o5 o6 o7 o8 _ _ _ hP hD hS (lv_sub hl [0, 1, 2, 3, 4] rfl) hok
      replace hok := g_pos hok c
      refine lv_aload_n hx hb dX5_leadOn_33 rfl (lv_at hl 1 rfl) ?_
      refine va_get (ci := 3) (v := .int o8) (C := RX3) (T := TX3) (N := 9) hx hb hts hinX3 hown hK hP 3 rfl rfl 6 (by decide) (hts _ (List.mem_of_getElem? (i := 2) rfl)) (fun _ h9 => h9) rfl dX5_leadOn_34 ?_
      refine lv_if_eq (tgt := 44) hx hb dX5_leadOn_37 (by decide) (fun c => ?_) (fun c => ?_)
      · replace hok := g_pos hok c
        refine lv_iconst (v := 0) hx hb dX5_leadOn_44 (by decide) ?_
        exact J_45 y4 (0:Int32) c0__found c0__over c0_queue c0_seen o4 o5 o6 o7 o8 _ _ _ hP hD hS (lv_sub hl [0, 1, 2, 3, 4] rfl) hok
      replace hok := g_neg hok c
      exact J_40 y4 c0__found c0__over c0_queue c0_seen o4 o5 o6 o7 o8 _ _ _ hP hD hS (lv_sub hl [0, 1, 2, 3, 4] rfl) hok
  unfold fX5_leadOn at hok
  refine lv_aload_n hx hb dX5_leadOn_0 rfl (lv_at hl 1 rfl) ?_
  refine lv_iload_n hx hb dX5_leadOn_1 rfl (lv_at hl 2 rfl) ?_
  obtain ⟨o1, hq, hok⟩ := g_bnd1 hok
  refine cG (is := [3, 4, 5]) (wc := (wm_X3_gather cA h1 h1_numbers h1_words s1__all s1__v s1__loss s1__result s1__over s1__heldAll s1__heldRounded s1_numbers s1_words)) (w1 := (wm_X3_gather cA h1 h1_numbers h1_words s1__all s1__v s1__loss s1__result s1__over s1__heldAll s1__heldRounded s1_numbers o1)) (rv := none) (st1 := []) (va_runV (Ts := wsX5_leadOn) (As := [.int x2]) (rest := []) ⟨hx, hb, hml, hown, hts⟩ (c_X3_unpack l G cA ts h1 h1_numbers h1_words x2 s1__all s1__v s1__loss s1__result s1__over s1__heldAll s1__heldRounded s1_numbers s1_words o1 hq s.heap.size) (cwV 1 hts gX5_leadOn_X3_unpack rfl rfl rfl (by decide +kernel) ⟨Nat.le_of_ble_eq_true rfl, Nat.le_of_ble_eq_true rfl⟩) (pre_V (ci := 3) (q0 := 3) (is := [3, 4, 5]) rfl rfl hP hD hS hA hK hZ (by decide +kernel) (by rfl)) rfl rfl hl.1 rfl (by exact lv_room (Nat.le_of_ble_eq_true rfl)) dX5_leadOn_2 ⟨Nat.le_refl _, Nat.le_refl _⟩) hP hD hS hA (by decide +kernel) (by rfl) (by rfl) rfl (fun H locs hP hD hS => ?_)
  have hP : va_P G vwCl (wm_X5_leadOn cA h0 h0_queue h0_seen h1 h1_numbers h1_words s0__found s0__over s0_queue s0_seen s1__all s1__v s1__loss s1__result s1__over s1__heldAll s1__heldRounded s1_numbers o1) H := hP
  have hD : va_D A (wm_X5_leadOn cA h0 h0_queue h0_seen h1 h1_numbers h1_words s0__found s0__over s0_queue s0_seen s1__all s1__v s1__loss s1__result s1__over s1__heldAll s1__heldRounded s1_numbers o1) := hD
  refine lv_aload_n hx hb dX5_leadOn_5 rfl (lv_at hl 1 rfl) ?_
  obtain ⟨o2, o3, hq, hok⟩ := g_bnd2 hok
  refine cG (is := [3, 4, 5]) (wc := (wm_X3_gather cA h1 h1_numbers h1_words s1__all s1__v s1__loss s1__result s1__over s1__heldAll s1__heldRounded s1_numbers o1)) (w1 := (wm_X3_gather cA h1 h1_numbers h1_words s1__all s1__v s1__loss s1__result s1__over o2 o3 s1_numbers o1)) (rv := none) (st1 := []) (va_runV (Ts := wsX5_leadOn) (As := []) (rest := []) ⟨hx, hb, hml, hown, hts⟩ (c_X3_gather l G cA ts h1 h1_numbers h1_words s1__all s1__v s1__loss s1__result s1__over s1__heldAll s1__heldRounded s1_numbers o1 o2 o3 hq H.size) (cwV 0 hts gX5_leadOn_X3_gather rfl rfl rfl (by decide +kernel) ⟨Nat.le_of_ble_eq_true rfl, Nat.le_of_ble_eq_true rfl⟩) (pre_V (ci := 3) (q0 := 3) (is := [3, 4, 5]) rfl rfl hP hD hS hA hK hZ (by decide +kernel) (by rfl)) rfl rfl hl.1 rfl (by exact lv_room (Nat.le_of_ble_eq_true rfl)) dX5_leadOn_6 ⟨Nat.le_refl _, Nat.le_refl _⟩) hP hD hS hA (by decide +kernel) (by rfl) (by rfl) rfl (fun H locs hP hD hS => ?_)
  have hP : va_P G vwCl (wm_X5_leadOn cA h0 h0_queue h0_seen h1 h1_numbers h1_words s0__found s0__over s0_queue s0_seen s1__all s1__v s1__loss s1__result s1__over o2 o3 s1_numbers o1) H := hP
  have hD : va_D A (wm_X5_leadOn cA h0 h0_queue h0_seen h1 h1_numbers h1_words s0__found s0__over s0_queue s0_seen s1__all s1__v s1__loss s1__result s1__over o2 o3 s1_numbers o1) := hD
  refine lv_iload_n hx hb dX5_leadOn_9 rfl (lv_at hl 3 rfl) ?_
  refine lv_ineg hx hb dX5_leadOn_10 ?_
  refine lv_istore (lv' := [(4, .int (-x3)), (0, .ref h0), (1, .ref h1), (2, .int x2), (3, .int x3)]) hx hb dX5_leadOn_11 hl (by decide) rfl (fun ls hl => ?_)
  obtain ⟨o13, o14, o15, o16, o17, o18, o19, o20, o21, hq, hok⟩ := g_bnd9 hok
  refine L_13 FUEL (-x3) s0__found s0__over s0_queue s0_seen s1__all s1__v s1__loss s1__result s1__over o2 o3 o1 o13 o14 o15 o16 o17 o18 o19 o20 o21 _ _ _ hP hD hS (lv_sub hl [1, 2, 3, 4, 0] rfl) hq (fun H locs ls hP hD hS hl => ?_)
  obtain ⟨e, hok⟩ := g_pr hok
  try subst e
  obtain ⟨e, hok⟩ := g_pr hok
  try subst e
  obtain ⟨e, hok⟩ := g_pr hok
  try subst e
  obtain ⟨e, hok⟩ := g_pr hok
  try subst e
  obtain ⟨e, hok⟩ := g_pr hok
  try subst e
  obtain ⟨e, hok⟩ := g_pr hok
  try subst e
  obtain ⟨e, hok⟩ := g_pr hok
  try subst e
  obtain ⟨e, hok⟩ := g_pr hok
  try subst e
  obtain ⟨e, hok⟩ := g_pr hok
  try subst e
  obtain ⟨e, hok⟩ := g_pr hok
  try subst e
  obtain ⟨e, hok⟩ := g_pr hok
  try subst e
  cases hok
  exact cr_v hx hb hr hlocks hQ dX5_leadOn_73 hP hS
set_option maxHeartbeats 40000000 in
set_option maxRecDepth 100000 in
theorem c_X5_search (l : Launch) (G : va_G) (cA : Nat → ClassId) (ts : Nat → Nat) (h0 : Nat) (h0_queue : Nat) (h0_seen : Nat) (h1 : Nat) (h1_numbers : Nat) (h1_words : Nat) (x2 : Int32) (x3 : Int32) (s0__found : Int32) (s0__over : Int32) (s0_queue : Nat → Int32) (s0_seen : Nat → Int32) (s1__all : Int32) (s1__v : Int32) (s1__loss : Int32) (s1__result : Int32) (s1__over : Int32) (s1__heldAll : Int32) (s1__heldRounded : Int32) (s1_numbers : Nat → Int32) (s1_words : Nat → Int32) (o0__found : Int32) (o0__over : Int32) (o0_queue : Nat → Int32) (o0_seen : Nat → Int32) (o1__all : Int32) (o1__v : Int32) (o1__loss : Int32) (o1__result : Int32) (o1__over : Int32) (o1__heldAll : Int32) (o1__heldRounded : Int32) (o1_words : Nat → Int32) (hok : fX5_search x2 x3 s0__found s0__over s0_queue s0_seen s1__all s1__v s1__loss s1__result s1__over s1__heldAll s1__heldRounded s1_numbers s1_words = some (o0__found, o0__over, o0_queue, o0_seen, o1__all, o1__v, o1__loss, o1__result, o1__over, o1__heldAll, o1__heldRounded, o1_words)) : Ct l G cA ts yX5_search wsX5_search 5 129 [.ref h0, .ref h1, .int x2, .int x3] (wm_X5_leadOn cA h0 h0_queue h0_seen h1 h1_numbers h1_words s0__found s0__over s0_queue s0_seen s1__all s1__v s1__loss s1__result s1__over s1__heldAll s1__heldRounded s1_numbers s1_words) (wm_X5_leadOn cA h0 h0_queue h0_seen h1 h1_numbers h1_words o0__found o0__over o0_queue o0_seen o1__all o1__v o1__loss o1__result o1__over o1__heldAll o1__heldRounded s1_numbers o1_words) none := by
  refine Ct.intro (cc := cX5_search) (maxL := 5) (ret := none) (by decide +kernel) rfl (Nat.le_of_ble_eq_true rfl) ?_
  intro p e s m ar below meth c A Q hx hb hr hml hown hlocks hts hK hZ hA hQ hP hD hS ls hl
  have hown : s.vm.findClass RX5 = some m.cls := hown
  have hinX5 : ∀ w ∈ wsX50, w ∈ wsX5_search := fun _ h => List.mem_cons_of_mem _ (List.mem_append_left _ (List.mem_append_right _ (h)))
  have hl : lv_has ls 5 [(0, .ref h0), (1, .ref h1), (2, .int x2), (3, .int x3)] := hl
  have hP : va_P G vwCl (wm_X5_leadOn cA h0 h0_queue h0_seen h1 h1_numbers h1_words s0__found s0__over s0_queue s0_seen s1__all s1__v s1__loss s1__result s1__over s1__heldAll s1__heldRounded s1_numbers s1_words) s.heap := hP
  have hD : va_D A (wm_X5_leadOn cA h0 h0_queue h0_seen h1 h1_numbers h1_words s0__found s0__over s0_queue s0_seen s1__all s1__v s1__loss s1__result s1__over s1__heldAll s1__heldRounded s1_numbers s1_words) := hD
  have L_3 : ∀ (n : Nat) (y4 : Int32) (c0__found : Int32) (c0__over : Int32) (c0_queue : Nat → Int32) (c0_seen : Nat → Int32) (c1__all : Int32) (c1__v : Int32) (c1__loss : Int32) (c1__result : Int32) (c1__over : Int32) (c1__heldAll : Int32) (c1__heldRounded : Int32) (c1_words : Nat → Int32) (p0_0 : Nat → Int32) (H : Heap) (locs : List Loc) (ls : Array Slot), va_P G vwCl (wm_X5_leadOn cA h0 h0_queue h0_seen h1 h1_numbers h1_words c0__found c0__over c0_queue c0_seen c1__all c1__v c1__loss c1__result c1__over c1__heldAll c1__heldRounded s1_numbers c1_words) H → va_D A (wm_X5_leadOn cA h0 h0_queue h0_seen h1 h1_numbers h1_words c0__found c0__over c0_queue c0_seen c1__all c1__v c1__loss c1__result c1__over c1__heldAll c1__heldRounded s1_numbers c1_words) → va_S A s.heap H locs → lv_has ls 5 [(0, .ref h0), (1, .ref h1), (2, .int x2), (3, .int x3), (4, .int y4)] → fX5_search_L3 x2 x3 s1_numbers n y4 c0__found c0__over c0_queue c0_seen c1__all c1__v c1__loss c1__result c1__over c1__heldAll c1__heldRounded c1_words = some p0_0 → (∀ (H : Heap) (locs : List Loc) (ls : Array Slot), va_P G vwCl (wm_X5_leadOn cA h0 h0_queue h0_seen h1 h1_numbers h1_words c0__found c0__over c0_queue p0_0 c1__all c1__v c1__loss c1__result c1__over c1__heldAll c1__heldRounded s1_numbers c1_words) H → va_D A (wm_X5_leadOn cA h0 h0_queue h0_seen h1 h1_numbers h1_words c0__found c0__over c0_queue p0_0 c1__all c1__v c1__loss c1__result c1__over c1__heldAll c1__heldRounded s1_numbers c1_words) → va_S A s.heap H locs → lv_has ls 5 [(0, .ref h0), (1, .ref h1), (2, .int x2), (3, .int x3)] → W p l e (rmX 5 129) s m ar below meth c H locs 0 0 Q (F0 m 25 ls [])) → W p l e (rmX 5 129) s m ar below meth c H locs 0 0 Q (F0 m 3 ls []) := by
    intro n
    induction n with
    | zero =>
      intro y4 c0__found c0__over c0_queue c0_seen c1__all c1__v c1__loss c1__result c1__over c1__heldAll c1__heldRounded c1_words p0_0 H locs ls hP hD hS hl hok
      rw [fX5_search_L3] at hok
      cases hok
    | succ n ih =>
      intro y4 c0__found c0__over c0_queue c0_seen c1__all c1__v c1__loss c1__result c1__over c1__heldAll c1__heldRounded c1_words p0_0 H locs ls hP hD hS hl hok K
      rw [fX5_search_L3] at hok
      refine lv_iload hx hb dX5_search_3 (lv_at hl 4 rfl) ?_
      refine lv_sipush (v := 1024) hx hb dX5_search_5 (by decide) ?_
      refine lv_icmp_ge (tgt := 25) hx hb dX5_search_8 (by decide) (fun c => ?_) (fun c => ?_)
      · replace hok := g_pos hok c
        cases hok
        exact K _ _ _ hP hD hS (lv_sub hl [0, 1, 2, 3] rfl)
      replace hok := g_neg hok c
      refine lv_aload_n hx hb dX5_search_11 rfl (lv_at hl 0 rfl) ?_
      refine va_get (ci := 5) (v := .ref h0_seen) (C := RX5) (T := TX5) (N := 4) hx hb hts hinX5 hown hK hP 0 rfl rfl 1 (by decide) (hts _ (List.mem_of_getElem? (i := 1) rfl)) (fun _ h9 => h9) rfl dX5_search_12 ?_
      refine lv_iload hx hb dX5_search_15 (lv_at hl 4 rfl) ?_
      refine lv_iconst (v := 0) hx hb dX5_search_17 (by decide) ?_
      obtain ⟨hin, hok⟩ := g_no hok
      refine x_zast (k := y4.toNatClampNeg) hx hb hK hP hD hS 2 3 rfl rfl hin rfl dX5_search_18 (fun H locs hP hD hS => ?_)
      have hP : va_P G vwCl (wm_X5_leadOn cA h0 h0_queue h0_seen h1 h1_numbers h1_words c0__found c0__over c0_queue (upd c0_seen y4.toNatClampNeg (vp_nar .boolean (0:Int32))) c1__all c1__v c1__loss c1__result c1__over c1__heldAll c1__heldRounded s1_numbers c1_words) H := hP
      have hD : va_D A (wm_X5_leadOn cA h0 h0_queue h0_seen h1 h1_numbers h1_words c0__found c0__over c0_queue (upd c0_seen y4.toNatClampNeg (vp_nar .boolean (0:Int32))) c1__all c1__v c1__loss c1__result c1__over c1__heldAll c1__heldRounded s1_numbers c1_words) := hD
      refine lv_iinc (v := (y4 + 1)) (lv' := [(4, .int (y4 + 1)), (0, .ref h0), (1, .ref h1), (2, .int x2), (3, .int x3)]) hx hb dX5_search_19 hl (k := 4) rfl rfl (by decide) rfl (fun ls hl => ?_)
      refine lv_goto (tgt := 3) hx hb dX5_search_22 (by decide) ?_
      exact ih (y4 + 1) c0__found c0__over c0_queue (upd c0_seen y4.toNatClampNeg (vp_nar .boolean (0:Int32))) c1__all c1__v c1__loss c1__result c1__over c1__heldAll c1__heldRounded c1_words p0_0 _ _ _ hP hD hS (lv_sub hl [1, 2, 3, 4, 0] rfl) hok K
  have L_46 : ∀ (n : Nat) (y4 : Int32) (c0__found : Int32) (c0__over : Int32) (c0_queue : Nat → Int32) (c0_seen : Nat → Int32) (c1__all : Int32) (c1__v : Int32) (c1__loss : Int32) (c1__result : Int32) (c1__over : Int32) (c1__heldAll : Int32) (c1__heldRounded : Int32) (c1_words : Nat → Int32) (p0_0 : Int32) (p0_1 : Int32) (p0_2 : Nat → Int32) (p0_3 : Nat → Int32) (p0_4 : Int32) (p0_5 : Int32) (p0_6 : Int32) (p0_7 : Int32) (p0_8 : Int32) (p0_9 : Int32) (p0_10 : Int32) (p0_11 : Nat → Int32) (H : Heap) (locs : List Loc) (ls : Array Slot), va_P G vwCl (wm_X5_leadOn cA h0 h0_queue h0_seen h1 h1_numbers h1_words c0__found c0__over c0_queue c0_seen c1__all c1__v c1__loss c1__result c1__over c1__heldAll c1__heldRounded s1_numbers c1_words) H → va_D A (wm_X5_leadOn cA h0 h0_queue h0_seen h1 h1_numbers h1_words c0__found c0__over c0_queue c0_seen c1__all c1__v c1__loss c1__result c1__over c1__heldAll c1__heldRounded s1_numbers c1_words) → va_S A s.heap H locs → lv_has ls 5 [(0, .ref h0), (1, .ref h1), (2, .int x2), (3, .int x3), (4, .int y4)] → fX5_search_L46 x2 x3 s1_numbers n y4 c0__found c0__over c0_queue c0_seen c1__all c1__v c1__loss c1__result c1__over c1__heldAll c1__heldRounded c1_words = some (p0_0, p0_1, p0_2, p0_3, p0_4, p0_5, p0_6, p0_7, p0_8, p0_9, p0_10, p0_11) → (∀ (H : Heap) (locs : List Loc) (ls : Array Slot), va_P G vwCl (wm_X5_leadOn cA h0 h0_queue h0_seen h1 h1_numbers h1_words p0_0 p0_1 p0_2 p0_3 p0_4 p0_5 p0_6 p0_7 p0_8 p0_9 p0_10 s1_numbers p0_11) H → va_D A (wm_X5_leadOn cA h0 h0_queue h0_seen h1 h1_numbers h1_words p0_0 p0_1 p0_2 p0_3 p0_4 p0_5 p0_6 p0_7 p0_8 p0_9 p0_10 s1_numbers p0_11) → va_S A s.heap H locs → lv_has ls 5 [] → W p l e (rmX 5 129) s m ar below meth c H locs 0 0 Q (F0 m 93 ls [])) → W p l e (rmX 5 129) s m ar below meth c H locs 0 0 Q (F0 m 46 ls []) := by
    intro n
    induction n with
    | zero =>
      intro y4 c0__found c0__over c0_queue c0_seen c1__all c1__v c1__loss c1__result c1__over c1__heldAll c1__heldRounded c1_words p0_0 p0_1 p0_2 p0_3 p0_4 p0_5 p0_6 p0_7 p0_8 p0_9 p0_10 p0_11 H locs ls hP hD hS hl hok
      rw [fX5_search_L46] at hok
      cases hok
    | succ n ih =>
      intro y4 c0__found c0__over c0_queue c0_seen c1__all c1__v c1__loss c1__result c1__over c1__heldAll c1__heldRounded c1_words p0_0 p0_1 p0_2 p0_3 p0_4 p0_5 p0_6 p0_7 p0_8 p0_9 p0_10 p0_11 H locs ls hP hD hS hl hok K
      rw [fX5_search_L46] at hok
      have J_74 : ∀ (y4 : Int32) (c0__found : Int32) (c0__over : Int32) (c0_queue : Nat → Int32) (c0_seen : Nat → Int32) (c1__all : Int32) (c1__v : Int32) (c1__loss : Int32) (c1__result : Int32) (c1__over : Int32) (c1__heldAll : Int32) (c1__heldRounded : Int32) (c1_words : Nat → Int32) (H : Heap) (locs : List Loc) (ls : Array Slot), va_P G vwCl (wm_X5_leadOn cA h0 h0_queue h0_seen h1 h1_numbers h1_words c0__found c0__over c0_queue c0_seen c1__all c1__v c1__loss c1__result c1__over c1__heldAll c1__heldRounded s1_numbers c1_words) H → va_D A (wm_X5_leadOn cA h0 h0_queue h0_seen h1 h1_numbers h1_words c0__found c0__over c0_queue c0_seen c1__all c1__v c1__loss c1__result c1__over c1__heldAll c1__heldRounded s1_numbers c1_words) → va_S A s.heap H locs → lv_has ls 5 [(0, .ref h0), (1, .ref h1), (2, .int x2), (3, .int x3), (4, .int y4)] → fX5_search_j74 x2 x3 s1_numbers (fX5_search_L46 x2 x3 s1_numbers n) y4 c0__found c0__over c0_queue c0_seen c1__all c1__v c1__loss c1__result c1__over c1__heldAll c1__heldRounded c1_words = some (p0_0, p0_1, p0_2, p0_3, p0_4, p0_5, p0_6, p0_7, p0_8, p0_9, p0_10, p0_11) → W p l e (rmX 5 129) s m ar below meth c H locs 0 0 Q (F0 m 74 ls []) := by
        intro y4 c0__found c0__over c0_queue c0_seen c1__all c1__v c1__loss c1__result c1__over c1__heldAll c1__heldRounded c1_words H locs ls hP hD hS hl hok
        unfold fX5_search_j74 at hok
        refine lv_aload_n hx hb dX5_search_74 rfl (lv_at hl 0 rfl) ?_
        refine lv_aload_n hx hb dX5_search_75 rfl (lv_at hl 1 rfl) ?_
        refine lv_aload_n hx hb dX5_search_76 rfl (lv_at hl 0 rfl) ?_
        refine va_get (ci := 5) (v := .ref h0_queue) (C := RX5) (T := TX5) (N := 4) hx hb hts hinX5 hown hK hP 0 rfl rfl 0 (by decide) (hts _ (List.mem_of_getElem? (i := 4) rfl)) (fun _ h9 => h9) rfl dX5_search_77 ?_
        refine lv_iload hx hb dX5_search_80 (lv_at hl 4 rfl) ?_
        obtain ⟨hin, hok⟩ := g_no hok
        refine x_iald (k := y4.toNatClampNeg) hx hb hK hP 1 0 rfl rfl hin rfl dX5_search_82 ?_
        refine lv_iload_n hx hb dX5_search_83 rfl (lv_at hl 2 rfl) ?_
        obtain ⟨o7, o8, o9, o10, o11, o12, o13, o14, o15, o16, o17, o18, hq, hok⟩ := g_bnd12 hok
        refine cG (is := [0, 1, 2, 3, 4, 5]) (wc := (wm_X5_leadOn cA h0 h0_queue h0_seen h1 h1_numbers h1_words c0__found c0__over c0_queue c0_seen c1__all c1__v c1__loss c1__result c1__over c1__heldAll c1__heldRounded s1_numbers c1_words)) (w1 := (wm_X5_leadOn cA h0 h0_queue h0_seen h1 h1_numbers h1_words o7 o8 o9 o10 o11 o12 o13 o14 o15 o16 o17 s1_numbers o18)) (rv := none) (st1 := []) (va_runV (Ts := wsX5_search) (As := [.ref h1, .int (c0_queue y4.toNatClampNeg), .int x2]) (rest := []) ⟨hx, hb, hml, hown, hts⟩ (c_X5_leadOn l G cA ts h0 h0_queue h0_seen h1 h1_numbers h1_words (c0_queue y4.toNatClampNeg) x2 c0__found c0__over c0_queue c0_seen c1__all c1__v c1__loss c1__result c1__over c1__heldAll c1__heldRounded s1_numbers c1_words o7 o8 o9 o10 o11 o12 o13 o14 o15 o16 o17 o18 hq H.size) (cwV 3 hts gX5_search_X5_leadOn rfl rfl rfl (by decide +kernel) ⟨Nat.le_of_ble_eq_true rfl, Nat.le_of_ble_eq_true rfl⟩) (pre_V (ci := 5) (q0 := 0) (is := [0, 1, 2, 3, 4, 5]) rfl rfl hP hD hS hA hK hZ (by decide +kernel) (by rfl)) rfl rfl hl.1 rfl (by exact lv_room (Nat.le_of_ble_eq_true rfl)) dX5_search_84 ⟨Nat.le_refl _, Nat.le_refl _⟩) hP hD hS hA (by decide +kernel) (by rfl) (by rfl) rfl (fun H locs hP hD hS => ?_)
        have hP : va_P G vwCl (wm_X5_leadOn cA h0 h0_queue h0_seen h1 h1_numbers h1_words o7 o8 o9 o10 o11 o12 o13 o14 o15 o16 o17 s1_numbers o18) H := hP
        have hD : va_D A (wm_X5_leadOn cA h0 h0_queue h0_seen h1 h1_numbers h1_words o7 o8 o9 o10 o11 o12 o13 o14 o15 o16 o17 s1_numbers o18) := hD
        refine lv_iinc (v := (y4 + 1)) (lv' := [(4, .int (y4 + 1)), (0, .ref h0), (1, .ref h1), (2, .int x2), (3, .int x3)]) hx hb dX5_search_87 hl (k := 4) rfl rfl (by decide) rfl (fun ls hl => ?_)
        refine lv_goto (tgt := 46) hx hb dX5_search_90 (by decide) ?_
        exact ih (y4 + 1) o7 o8 o9 o10 o11 o12 o13 o14 o15 o16 o17 o18 p0_0 p0_1 p0_2 p0_3 p0_4 p0_5 p0_6 p0_7 p0_8 p0_9 p0_10 p0_11 _ _ _ hP hD hS (lv_sub hl [1, 2, 3, 4, 0] rfl) hok K
      refine lv_iload hx hb dX5_search_46 (lv_at hl 4 rfl) ?_
      refine lv_aload_n hx hb dX5_search_48 rfl (lv_at hl 0 rfl) ?_
      refine va_get (ci := 5) (v := .int c0__found) (C := RX5) (T := TX5) (N := 4) hx hb hts hinX5 hown hK hP 0 rfl rfl 2 (by decide) (hts _ (List.mem_of_getElem? (i := 2) rfl)) (fun _ h9 => h9) rfl dX5_search_49 ?_
      refine lv_icmp_ge (tgt := 93) hx hb dX5_search_52 (by decide) (fun c => ?_) (fun c => ?_)
      · replace hok := g_pos hok c
        cases hok
        exact K _ _ _ hP hD hS (lv_sub hl [] rfl)
      replace hok := g_neg hok c
      refine lv_iload hx hb dX5_search_55 (lv_at hl 4 rfl) ?_
      refine lv_sipush (v := 1024) hx hb dX5_search_57 (by decide) ?_
      refine lv_icmp_ge (tgt := 93) hx hb dX5_search_60 (by decide) (fun c => ?_) (fun c => ?_)
      · replace hok := g_pos hok c
        cases hok
        exact K _ _ _ hP hD hS (lv_sub hl [] rfl)
      replace hok := g_neg hok c
      refine lv_aload_n hx hb dX5_search_63 rfl (lv_at hl 0 rfl) ?_
      refine va_get (ci := 5) (v := .int c0__over) (C := RX5) (T := TX5) (N := 4) hx hb hts hinX5 hown hK hP 0 rfl rfl 3 (by decide) (hts _ (List.mem_of_getElem? (i := 3) rfl)) (fun _ h9 => h9) rfl dX5_search_64 ?_
      refine lv_if_eq (tgt := 74) hx hb dX5_search_67 (by decide) (fun c => ?_) (fun c => ?_)
      · replace hok := g_pos hok c
        exact J_74 y4 c0__found c0__over c0_queue c0_seen c1__all c1__v c1__loss c1__result c1__over c1__heldAll c1__heldRounded c1_words _ _ _ hP hD hS (lv_sub hl [0, 1, 2, 3, 4] rfl) hok
      replace hok := g_neg hok c
      refine lv_iload_n hx hb dX5_search_70 rfl (lv_at hl 3 rfl) ?_
      refine lv_if_ne (tgt := 93) hx hb dX5_search_71 (by decide) (fun c => ?_) (fun c => ?_)
      · replace hok := g_neg hok c
        cases hok
        exact K _ _ _ hP hD hS (lv_sub hl [] rfl)
      replace hok := g_pos hok c
      exact J_74 y4 c0__found c0__over c0_queue c0_seen c1__all c1__v c1__loss c1__result c1__over c1__heldAll c1__heldRounded c1_words _ _ _ hP hD hS (lv_sub hl [0, 1, 2, 3, 4] rfl) hok
  unfold fX5_search at hok
  refine lv_iconst (v := 0) hx hb dX5_search_0 (by decide) ?_
  refine lv_istore (lv' := [(4, .int (0:Int32)), (0, .ref h0), (1, .ref h1), (2, .int x2), (3, .int x3)]) hx hb dX5_search_1 hl (by decide) rfl (fun ls hl => ?_)
  obtain ⟨o1, hq, hok⟩ := g_bnd1 hok
  refine L_3 FUEL (0:Int32) s0__found s0__over s0_queue s0_seen s1__all s1__v s1__loss s1__result s1__over s1__heldAll s1__heldRounded s1_words o1 _ _ _ hP hD hS (lv_sub hl [1, 2, 3, 4, 0] rfl) hq (fun H locs ls hP hD hS hl => ?_)
  refine lv_aload_n hx hb dX5_search_25 rfl (lv_at hl 0 rfl) ?_
  refine lv_iconst (v := 0) hx hb dX5_search_26 (by decide) ?_
  refine va_put (D := G) (ci := 5) (v := .int (0:Int32)) (ty := .int) (C := RX5) (T := TX5) (N := 4) hx hb hts hinX5 tyX5 tyX5_ok nmX5 hown hK hP hD hS 0 rfl rfl 2 (by decide) (hts _ (List.mem_of_getElem? (i := 2) rfl)) (fun _ h9 => h9) rfl (by decide +kernel) rfl rfl (Nat.le_of_ble_eq_true rfl) dX5_search_27 (fun H locs hP hD hS => ?_)
  have hP : va_P G vwCl (wm_X5_leadOn cA h0 h0_queue h0_seen h1 h1_numbers h1_words (0:Int32) s0__over s0_queue o1 s1__all s1__v s1__loss s1__result s1__over s1__heldAll s1__heldRounded s1_numbers s1_words) H := hP
  have hD : va_D A (wm_X5_leadOn cA h0 h0_queue h0_seen h1 h1_numbers h1_words (0:Int32) s0__over s0_queue o1 s1__all s1__v s1__loss s1__result s1__over s1__heldAll s1__heldRounded s1_numbers s1_words) := hD
  refine lv_aload_n hx hb dX5_search_30 rfl (lv_at hl 0 rfl) ?_
  refine lv_iconst (v := 0) hx hb dX5_search_31 (by decide) ?_
  refine va_put (D := G) (ci := 5) (v := .int (0:Int32)) (ty := .boolean) (C := RX5) (T := TX5) (N := 4) hx hb hts hinX5 tyX5 tyX5_ok nmX5 hown hK hP hD hS 0 rfl rfl 3 (by decide) (hts _ (List.mem_of_getElem? (i := 3) rfl)) (fun _ h9 => h9) rfl (by decide +kernel) (by decide +kernel) (by decide +kernel) (Nat.le_of_ble_eq_true rfl) dX5_search_32 (fun H locs hP hD hS => ?_)
  have hP : va_P G vwCl (wm_X5_leadOn cA h0 h0_queue h0_seen h1 h1_numbers h1_words (0:Int32) (0:Int32) s0_queue o1 s1__all s1__v s1__loss s1__result s1__over s1__heldAll s1__heldRounded s1_numbers s1_words) H := hP
  have hD : va_D A (wm_X5_leadOn cA h0 h0_queue h0_seen h1 h1_numbers h1_words (0:Int32) (0:Int32) s0_queue o1 s1__all s1__v s1__loss s1__result s1__over s1__heldAll s1__heldRounded s1_numbers s1_words) := hD
  refine lv_aload_n hx hb dX5_search_35 rfl (lv_at hl 0 rfl) ?_
  refine lv_aload_n hx hb dX5_search_36 rfl (lv_at hl 1 rfl) ?_
  obtain ⟨r2, o3, hq, hok⟩ := g_bnd2 hok
  refine cG (is := [3, 4, 5]) (wc := (wm_X3_gather cA h1 h1_numbers h1_words s1__all s1__v s1__loss s1__result s1__over s1__heldAll s1__heldRounded s1_numbers s1_words)) (w1 := (wm_X3_gather cA h1 h1_numbers h1_words s1__all s1__v s1__loss s1__result s1__over s1__heldAll s1__heldRounded s1_numbers o3)) (rv := (some (.int r2))) (st1 := [.int r2, .ref h0]) (va_runS (Ts := wsX5_search) (As := [.ref h1]) (rest := [.ref h0]) ⟨hx, hb, hml, hown, hts⟩ (c_X5_zeroIn l G cA ts h1 h1_numbers h1_words s1__all s1__v s1__loss s1__result s1__over s1__heldAll s1__heldRounded s1_numbers s1_words r2 o3 hq H.size) (va_cwS 1 hts gX5_search_X5_zeroIn rfl rfl rfl (by decide +kernel) ⟨Nat.le_of_ble_eq_true rfl, Nat.le_of_ble_eq_true rfl⟩) (pre_S (is := [3, 4, 5]) hP hD hS hA hK hZ (by decide +kernel) (by rfl)) rfl rfl hl.1 rfl (by exact lv_room (Nat.le_of_ble_eq_true rfl)) dX5_search_37 ⟨Nat.le_refl _, Nat.le_refl _⟩) hP hD hS hA (by decide +kernel) (by rfl) (by rfl) rfl (fun H locs hP hD hS => ?_)
  have hP : va_P G vwCl (wm_X5_leadOn cA h0 h0_queue h0_seen h1 h1_numbers h1_words (0:Int32) (0:Int32) s0_queue o1 s1__all s1__v s1__loss s1__result s1__over s1__heldAll s1__heldRounded s1_numbers o3) H := hP
  have hD : va_D A (wm_X5_leadOn cA h0 h0_queue h0_seen h1 h1_numbers h1_words (0:Int32) (0:Int32) s0_queue o1 s1__all s1__v s1__loss s1__result s1__over s1__heldAll s1__heldRounded s1_numbers o3) := hD
  obtain ⟨o4, o5, o6, hq, hok⟩ := g_bnd3 hok
  refine cG (is := [0, 1, 2]) (wc := (wm_X5_find cA h0 h0_queue h0_seen (0:Int32) (0:Int32) s0_queue o1)) (w1 := (wm_X5_find cA h0 h0_queue h0_seen o4 (0:Int32) o5 o6)) (rv := none) (st1 := []) (va_runV (Ts := wsX5_search) (As := [.int r2]) (rest := []) ⟨hx, hb, hml, hown, hts⟩ (c_X5_find l G cA ts h0 h0_queue h0_seen r2 (0:Int32) (0:Int32) s0_queue o1 o4 o5 o6 hq H.size) (cwV 1 hts gX5_search_X5_find rfl rfl rfl (by decide +kernel) ⟨Nat.le_of_ble_eq_true rfl, Nat.le_of_ble_eq_true rfl⟩) (pre_V (ci := 5) (q0 := 0) (is := [0, 1, 2]) rfl rfl hP hD hS hA hK hZ (by decide +kernel) (by rfl)) rfl rfl hl.1 rfl (by exact lv_room (Nat.le_of_ble_eq_true rfl)) dX5_search_40 ⟨Nat.le_refl _, Nat.le_refl _⟩) hP hD hS hA (by decide +kernel) (by rfl) (by rfl) rfl (fun H locs hP hD hS => ?_)
  have hP : va_P G vwCl (wm_X5_leadOn cA h0 h0_queue h0_seen h1 h1_numbers h1_words o4 (0:Int32) o5 o6 s1__all s1__v s1__loss s1__result s1__over s1__heldAll s1__heldRounded s1_numbers o3) H := hP
  have hD : va_D A (wm_X5_leadOn cA h0 h0_queue h0_seen h1 h1_numbers h1_words o4 (0:Int32) o5 o6 s1__all s1__v s1__loss s1__result s1__over s1__heldAll s1__heldRounded s1_numbers o3) := hD
  refine lv_iconst (v := 0) hx hb dX5_search_43 (by decide) ?_
  refine lv_istore (lv' := [(4, .int (0:Int32)), (0, .ref h0), (1, .ref h1), (2, .int x2), (3, .int x3)]) hx hb dX5_search_44 hl (by decide) rfl (fun ls hl => ?_)
  obtain ⟨o19, o20, o21, o22, o23, o24, o25, o26, o27, o28, o29, o30, hq, hok⟩ := g_bnd12 hok
  refine L_46 FUEL (0:Int32) o4 (0:Int32) o5 o6 s1__all s1__v s1__loss s1__result s1__over s1__heldAll s1__heldRounded o3 o19 o20 o21 o22 o23 o24 o25 o26 o27 o28 o29 o30 _ _ _ hP hD hS (lv_sub hl [1, 2, 3, 4, 0] rfl) hq (fun H locs ls hP hD hS hl => ?_)
  obtain ⟨e, hok⟩ := g_pr hok
  try subst e
  obtain ⟨e, hok⟩ := g_pr hok
  try subst e
  obtain ⟨e, hok⟩ := g_pr hok
  try subst e
  obtain ⟨e, hok⟩ := g_pr hok
  try subst e
  obtain ⟨e, hok⟩ := g_pr hok
  try subst e
  obtain ⟨e, hok⟩ := g_pr hok
  try subst e
  obtain ⟨e, hok⟩ := g_pr hok
  try subst e
  obtain ⟨e, hok⟩ := g_pr hok
  try subst e
  obtain ⟨e, hok⟩ := g_pr hok
  try subst e
  obtain ⟨e, hok⟩ := g_pr hok
  try subst e
  obtain ⟨e, hok⟩ := g_pr hok
  try subst e
  cases hok
  exact cr_v hx hb hr hlocks hQ dX5_search_93 hP hS
