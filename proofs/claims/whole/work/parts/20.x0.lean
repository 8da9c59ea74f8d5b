set_option maxHeartbeats 40000000 in
set_option maxRecDepth 100000 in
theorem c_X0_find (l : Launch) (G : va_G) (cA : Nat → ClassId) (ts : Nat → Nat) (x0 : Int32) (x1 : Int32) (r : Int32) (hok : fX0_find x0 x1 = some r) : Ct l G cA ts yX0_find wsX0_find 1 40 [.int x0, .int x1] (wm_X0_find cA) (wm_X0_find cA) (some (.int r)) := by
  refine Ct.intro (cc := cX0_find) (maxL := 5) (ret := some .int) (by decide +kernel) rfl (Nat.le_of_ble_eq_true rfl) ?_
  intro p e s m ar below meth c A Q hx hb hr hml hown hlocks hts hK hZ hA hQ hP hD hS ls hl
  have hown : s.vm.findClass RX0 = some m.cls := hown
  have hl : lv_has ls 5 [(0, .int x0), (1, .int x1)] := hl
  have hP : va_P G vwCl (wm_X0_find cA) s.heap := hP
  have hD : va_D A (wm_X0_find cA) := hD
  have L_4 : ∀ (n : Nat) (y2 : Int32) (y3 : Int32) (oE : ((Int32)) ⊕ (Unit)) (H : Heap) (locs : List Loc) (ls : Array Slot), va_P G vwCl (wm_X0_find cA) H → va_D A (wm_X0_find cA) → va_S A s.heap H locs → lv_has ls 5 [(1, .int x1), (2, .int y2), (3, .int y3)] → fX0_find_L4 x0 x1 n y2 y3 = some oE → (∀ (p0_0 : Int32), oE = .inl p0_0 → ∀ (H : Heap) (locs : List Loc) (ls : Array Slot), va_P G vwCl (wm_X0_find cA) H → va_D A (wm_X0_find cA) → va_S A s.heap H locs → lv_has ls 5 [(4, .int p0_0)] → W p l e (rmX 1 40) s m ar below meth c H locs 0 0 Q (F0 m 48 ls [])) → (∀ (_ : Unit), oE = .inr (()) → ∀ (H : Heap) (locs : List Loc) (ls : Array Slot), va_P G vwCl (wm_X0_find cA) H → va_D A (wm_X0_find cA) → va_S A s.heap H locs → lv_has ls 5 [] → W p l e (rmX 1 40) s m ar below meth c H locs 0 0 Q (F0 m 67 ls [])) → W p l e (rmX 1 40) s m ar below meth c H locs 0 0 Q (F0 m 4 ls []) := by
    intro n
    induction n with
    | zero =>
      intro y2 y3 oE H locs ls hP hD hS hl hok
      rw [fX0_find_L4] at hok
      cases hok
    | succ n ih =>
      intro y2 y3 oE H locs ls hP hD hS hl hok  K0 K1
      rw [fX0_find_L4] at hok
      refine lv_iload_n hx hb dX0_find_4 rfl (lv_at hl 2 rfl) ?_
      refine lv_iconst (v := 5) hx hb dX0_find_5 (by decide) ?_
      refine lv_icmp_ge (tgt := 67) hx hb dX0_find_6 (by decide) (fun c => ?_) (fun c => ?_)
      · replace hok := g_pos hok c
        cases hok
        exact K1 () rfl _ _ _ hP hD hS (lv_sub hl [] rfl)
      replace hok := g_neg hok c
      refine lv_iload_n hx hb dX0_find_9 rfl (lv_at hl 1 rfl) ?_
      refine lv_if_lt (tgt := 67) hx hb dX0_find_10 (by decide) (fun c => ?_) (fun c => ?_)
      · replace hok := g_pos hok c
        cases hok
        exact K1 () rfl _ _ _ hP hD hS (lv_sub hl [] rfl)
      replace hok := g_neg hok c
      refine lv_iload_n hx hb dX0_find_13 rfl (lv_at hl 1 rfl) ?_
      refine lv_iconst (v := 5) hx hb dX0_find_14 (by decide) ?_
      refine lv_icmp_ge (tgt := 67) hx hb dX0_find_15 (by decide) (fun c => ?_) (fun c => ?_)
      · replace hok := g_pos hok c
        cases hok
        exact K1 () rfl _ _ _ hP hD hS (lv_sub hl [] rfl)
      replace hok := g_neg hok c
      refine lv_iconst (v := 3) hx hb dX0_find_18 (by decide) ?_
      refine lv_iload_n hx hb dX0_find_19 rfl (lv_at hl 1 rfl) ?_
      refine lv_imul hx hb dX0_find_20 ?_
      refine lv_iload_n hx hb dX0_find_21 rfl (lv_at hl 0 rfl) ?_
      refine lv_iadd hx hb dX0_find_22 ?_
      refine lv_istore (lv' := [(4, .int (((3:Int32) * y2) + x1)), (1, .int x1), (2, .int y2), (3, .int y3)]) hx hb dX0_find_23 hl (by decide) rfl (fun ls hl => ?_)
      refine lv_iload hx hb dX0_find_25 (lv_at hl 0 rfl) ?_
      refine lv_if_lt (tgt := 55) hx hb dX0_find_27 (by decide) (fun c => ?_) (fun c => ?_)
      · replace hok := g_pos hok c
        refine va_getsN hx hb hZ.1.1.2.2.2.2.1.1 hS hown (va_Nw.use rfl hZ.2.2.2.2) (fun _ h9 => h9) dX0_find_55 ?_
        refine lv_iload_n hx hb dX0_find_58 rfl (lv_at hl 2 rfl) ?_
        obtain ⟨hin, hok⟩ := g_no hok
        refine va_ti (v := .int (tb tRA y2.toNatClampNeg)) hx hb hZ.1.1.2.2.2.2.1.2 hS hin rfl dX0_find_59 ?_
        refine lv_istore_n (lv' := [(2, .int (tb tRA y2.toNatClampNeg)), (4, .int (((3:Int32) * y2) + x1)), (1, .int x1), (3, .int y3)]) hx hb dX0_find_60 rfl hl (by decide) rfl (fun ls hl => ?_)
        refine lv_iinc (v := (y3 + 1)) (lv' := [(3, .int (y3 + 1)), (2, .int (tb tRA y2.toNatClampNeg)), (4, .int (((3:Int32) * y2) + x1)), (1, .int x1)]) hx hb dX0_find_61 hl (k := 3) rfl rfl (by decide) rfl (fun ls hl => ?_)
        refine lv_goto (tgt := 4) hx hb dX0_find_64 (by decide) ?_
        exact ih (tb tRA y2.toNatClampNeg) (y3 + 1) oE _ _ _ hP hD hS (lv_sub hl [3, 1, 0] rfl) hok K0 K1
      replace hok := g_neg hok c
      refine lv_iload hx hb dX0_find_30 (lv_at hl 0 rfl) ?_
      refine va_getsN hx hb hZ.1.1.2.2.2.1.1 hS hown (va_Nw.use rfl hZ.2.2.2.1) (fun _ h9 => h9) dX0_find_32 ?_
      refine va_tlen (v := 15) hx hb hZ.1.1.2.2.2.1.2 hS rfl dX0_find_35 ?_
      refine lv_icmp_ge (tgt := 55) hx hb dX0_find_36 (by decide) (fun c => ?_) (fun c => ?_)
      · replace hok := g_pos hok c
        refine va_getsN hx hb hZ.1.1.2.2.2.2.1.1 hS hown (va_Nw.use rfl hZ.2.2.2.2) (fun _ h9 => h9) dX0_find_55 ?_
        refine lv_iload_n hx hb dX0_find_58 rfl (lv_at hl 2 rfl) ?_
        obtain ⟨hin, hok⟩ := g_no hok
        refine va_ti (v := .int (tb tRA y2.toNatClampNeg)) hx hb hZ.1.1.2.2.2.2.1.2 hS hin rfl dX0_find_59 ?_
        refine lv_istore_n (lv' := [(2, .int (tb tRA y2.toNatClampNeg)), (4, .int (((3:Int32) * y2) + x1)), (1, .int x1), (3, .int y3)]) hx hb dX0_find_60 rfl hl (by decide) rfl (fun ls hl => ?_)
        refine lv_iinc (v := (y3 + 1)) (lv' := [(3, .int (y3 + 1)), (2, .int (tb tRA y2.toNatClampNeg)), (4, .int (((3:Int32) * y2) + x1)), (1, .int x1)]) hx hb dX0_find_61 hl (k := 3) rfl rfl (by decide) rfl (fun ls hl => ?_)
        refine lv_goto (tgt := 4) hx hb dX0_find_64 (by decide) ?_
        exact ih (tb tRA y2.toNatClampNeg) (y3 + 1) oE _ _ _ hP hD hS (lv_sub hl [3, 1, 0] rfl) hok K0 K1
      replace hok := g_neg hok c
      refine va_getsN hx hb hZ.1.1.2.2.2.1.1 hS hown (va_Nw.use rfl hZ.2.2.2.1) (fun _ h9 => h9) dX0_find_39 ?_
      refine lv_iload hx hb dX0_find_42 (lv_at hl 0 rfl) ?_
      obtain ⟨hin, hok⟩ := g_no hok
      refine va_ti (v := .int (tb tBOD (((3:Int32) * y2) + x1).toNatClampNeg)) hx hb hZ.1.1.2.2.2.1.2 hS hin rfl dX0_find_44 ?_
      refine lv_if_eq (tgt := 55) hx hb dX0_find_45 (by decide) (fun c => ?_) (fun c => ?_)
      · replace hok := g_pos hok c
        refine va_getsN hx hb hZ.1.1.2.2.2.2.1.1 hS hown (va_Nw.use rfl hZ.2.2.2.2) (fun _ h9 => h9) dX0_find_55 ?_
        refine lv_iload_n hx hb dX0_find_58 rfl (lv_at hl 2 rfl) ?_
        obtain ⟨hin, hok⟩ := g_no hok
        refine va_ti (v := .int (tb tRA y2.toNatClampNeg)) hx hb hZ.1.1.2.2.2.2.1.2 hS hin rfl dX0_find_59 ?_
        refine lv_istore_n (lv' := [(2, .int (tb tRA y2.toNatClampNeg)), (4, .int (((3:Int32) * y2) + x1)), (1, .int x1), (3, .int y3)]) hx hb dX0_find_60 rfl hl (by decide) rfl (fun ls hl => ?_)
        refine lv_iinc (v := (y3 + 1)) (lv' := [(3, .int (y3 + 1)), (2, .int (tb tRA y2.toNatClampNeg)), (4, .int (((3:Int32) * y2) + x1)), (1, .int x1)]) hx hb dX0_find_61 hl (k := 3) rfl rfl (by decide) rfl (fun ls hl => ?_)
        refine lv_goto (tgt := 4) hx hb dX0_find_64 (by decide) ?_
        exact ih (tb tRA y2.toNatClampNeg) (y3 + 1) oE _ _ _ hP hD hS (lv_sub hl [3, 1, 0] rfl) hok K0 K1
      replace hok := g_neg hok c
      cases hok
      exact K0 _ rfl _ _ _ hP hD hS (lv_sub hl [0] rfl)
  unfold fX0_find at hok
  refine lv_iload_n hx hb dX0_find_0 rfl (lv_at hl 0 rfl) ?_
  refine lv_istore_n (lv' := [(2, .int x0), (0, .int x0), (1, .int x1)]) hx hb dX0_find_1 rfl hl (by decide) rfl (fun ls hl => ?_)
  refine lv_iconst (v := 0) hx hb dX0_find_2 (by decide) ?_
  refine lv_istore_n (lv' := [(3, .int (0:Int32)), (2, .int x0), (0, .int x0), (1, .int x1)]) hx hb dX0_find_3 rfl hl (by decide) rfl (fun ls hl => ?_)
  obtain ⟨o1, hq, hok⟩ := g_bnd1 hok
  refine L_4 FUEL x0 (0:Int32) o1 _ _ _ hP hD hS (lv_sub hl [3, 1, 0] rfl) hq (fun p0_0 ho H locs ls hP hD hS hl => ?_) (fun _ ho H locs ls hP hD hS hl => ?_)
  · subst ho
    replace hok := g_inl hok
    replace hok := g_c1 hok
    refine va_getsN hx hb hZ.1.1.2.2.2.1.1 hS hown (va_Nw.use rfl hZ.2.2.2.1) (fun _ h9 => h9) dX0_find_48 ?_
    refine lv_iload hx hb dX0_find_51 (lv_at hl 0 rfl) ?_
    obtain ⟨hin, hok⟩ := g_no hok
    refine va_ti (v := .int (tb tBOD p0_0.toNatClampNeg)) hx hb hZ.1.1.2.2.2.1.2 hS hin rfl dX0_find_53 ?_
    cases hok
    exact cr_i hx hb hr hlocks hQ dX0_find_54 hP hS
  subst ho
  replace hok := g_inr hok
  replace hok := g_c0 hok
  refine lv_iconst (v := 0) hx hb dX0_find_67 (by decide) ?_
  cases hok
  exact cr_i hx hb hr hlocks hQ dX0_find_68 hP hS
set_option maxHeartbeats 40000000 in
set_option maxRecDepth 100000 in
theorem c_X0_keep (l : Launch) (G : va_G) (cA : Nat → ClassId) (ts : Nat → Nat) (h0 : Nat) (h0_trace : Nat) (x1 : Int32) (s0__ran : Int32) (s0_trace : Nat → Int32) (o0__ran : Int32) (o0_trace : Nat → Int32) (hok : fX0_keep x1 s0__ran s0_trace = some (o0__ran, o0_trace)) : Ct l G cA ts yX0_keep wsX0_keep 1 40 [.ref h0, .int x1] (wm_X0_keep cA h0 h0_trace s0__ran s0_trace) (wm_X0_keep cA h0 h0_trace o0__ran o0_trace) none := by
  refine Ct.intro (cc := cX0_keep) (maxL := 2) (ret := none) (by decide +kernel) rfl (Nat.le_of_ble_eq_true rfl) ?_
  intro p e s m ar below meth c A Q hx hb hr hml hown hlocks hts hK hZ hA hQ hP hD hS ls hl
  have hown : s.vm.findClass RX0 = some m.cls := hown
  have hinX0 : ∀ w ∈ wsX00, w ∈ wsX0_keep := fun _ h => List.mem_cons_of_mem _ (List.mem_append_right _ (h))
  have hl : lv_has ls 2 [(0, .ref h0), (1, .int x1)] := hl
  have hP : va_P G vwCl (wm_X0_keep cA h0 h0_trace s0__ran s0_trace) s.heap := hP
  have hD : va_D A (wm_X0_keep cA h0 h0_trace s0__ran s0_trace) := hD
  unfold fX0_keep at hok
  refine lv_aload_n hx hb dX0_keep_0 rfl (lv_at hl 0 rfl) ?_
  refine va_get (ci := 0) (v := .int s0__ran) (C := RX0) (T := TX0) (N := 2) hx hb hts hinX0 hown hK hP 0 rfl rfl 1 (by decide) (hts _ (List.mem_of_getElem? (i := 1) rfl)) (fun _ h9 => h9) rfl dX0_keep_1 ?_
  refine lv_if_lt (tgt := 36) hx hb dX0_keep_4 (by decide) (fun c => ?_) (fun c => ?_)
  · replace hok := g_pos hok c
    cases hok
    exact cr_v hx hb hr hlocks hQ dX0_keep_36 hP hS
  replace hok := g_neg hok c
  refine lv_aload_n hx hb dX0_keep_7 rfl (lv_at hl 0 rfl) ?_
  refine va_get (ci := 0) (v := .int s0__ran) (C := RX0) (T := TX0) (N := 2) hx hb hts hinX0 hown hK hP 0 rfl rfl 1 (by decide) (hts _ (List.mem_of_getElem? (i := 1) rfl)) (fun _ h9 => h9) rfl dX0_keep_8 ?_
  refine lv_bipush (v := 24) hx hb dX0_keep_11 (by decide) ?_
  refine lv_icmp_ge (tgt := 36) hx hb dX0_keep_13 (by decide) (fun c => ?_) (fun c => ?_)
  · replace hok := g_pos hok c
    cases hok
    exact cr_v hx hb hr hlocks hQ dX0_keep_36 hP hS
  replace hok := g_neg hok c
  refine lv_aload_n hx hb dX0_keep_16 rfl (lv_at hl 0 rfl) ?_
  refine va_get (ci := 0) (v := .ref h0_trace) (C := RX0) (T := TX0) (N := 2) hx hb hts hinX0 hown hK hP 0 rfl rfl 0 (by decide) (hts _ (List.mem_of_getElem? (i := 2) rfl)) (fun _ h9 => h9) rfl dX0_keep_17 ?_
  refine lv_aload_n hx hb dX0_keep_20 rfl (lv_at hl 0 rfl) ?_
  refine va_get (ci := 0) (v := .int s0__ran) (C := RX0) (T := TX0) (N := 2) hx hb hts hinX0 hown hK hP 0 rfl rfl 1 (by decide) (hts _ (List.mem_of_getElem? (i := 1) rfl)) (fun _ h9 => h9) rfl dX0_keep_21 ?_
  refine lv_iload_n hx hb dX0_keep_24 rfl (lv_at hl 1 rfl) ?_
  obtain ⟨hin, hok⟩ := g_no hok
  refine x_iast (k := s0__ran.toNatClampNeg) hx hb hK hP hD hS 1 0 rfl rfl hin rfl dX0_keep_25 (fun H locs hP hD hS => ?_)
  have hP : va_P G vwCl (wm_X0_keep cA h0 h0_trace s0__ran (upd s0_trace s0__ran.toNatClampNeg x1)) H := hP
  have hD : va_D A (wm_X0_keep cA h0 h0_trace s0__ran (upd s0_trace s0__ran.toNatClampNeg x1)) := hD
  refine lv_aload_n hx hb dX0_keep_26 rfl (lv_at hl 0 rfl) ?_
  refine lv_dup hx hb dX0_keep_27 rfl ?_
  refine va_get (ci := 0) (v := .int s0__ran) (C := RX0) (T := TX0) (N := 2) hx hb hts hinX0 hown hK hP 0 rfl rfl 1 (by decide) (hts _ (List.mem_of_getElem? (i := 1) rfl)) (fun _ h9 => h9) rfl dX0_keep_28 ?_
  refine lv_iconst (v := 1) hx hb dX0_keep_31 (by decide) ?_
  refine lv_iadd hx hb dX0_keep_32 ?_
  refine va_put (D := G) (ci := 0) (v := .int (s0__ran + (1:Int32))) (ty := .int) (C := RX0) (T := TX0) (N := 2) hx hb hts hinX0 tyX0 tyX0_ok nmX0 hown hK hP hD hS 0 rfl rfl 1 (by decide) (hts _ (List.mem_of_getElem? (i := 1) rfl)) (fun _ h9 => h9) rfl (by decide +kernel) rfl rfl (Nat.le_of_ble_eq_true rfl) dX0_keep_33 (fun H locs hP hD hS => ?_)
  have hP : va_P G vwCl (wm_X0_keep cA h0 h0_trace (s0__ran + (1:Int32)) (upd s0_trace s0__ran.toNatClampNeg x1)) H := hP
  have hD : va_D A (wm_X0_keep cA h0 h0_trace (s0__ran + (1:Int32)) (upd s0_trace s0__ran.toNatClampNeg x1)) := hD
  cases hok
  exact cr_v hx hb hr hlocks hQ dX0_keep_36 hP hS
set_option maxHeartbeats 40000000 in
set_option maxRecDepth 100000 in
theorem c_X0_aboveBody (l : Launch) (G : va_G) (cA : Nat → ClassId) (ts : Nat → Nat) (x0 : Int32) (r : Int32) (hok : fX0_aboveBody x0 = some r) : Ct l G cA ts yX0_aboveBody wsX0_aboveBody 1 40 [.int x0] (wm_X0_find cA) (wm_X0_find cA) (some (.int r)) := by
  refine Ct.intro (cc := cX0_aboveBody) (maxL := 2) (ret := some .int) (by decide +kernel) rfl (Nat.le_of_ble_eq_true rfl) ?_
  intro p e s m ar below meth c A Q hx hb hr hml hown hlocks hts hK hZ hA hQ hP hD hS ls hl
  have hown : s.vm.findClass RX0 = some m.cls := hown
  have hl : lv_has ls 2 [(0, .int x0)] := hl
  have hP : va_P G vwCl (wm_X0_find cA) s.heap := hP
  have hD : va_D A (wm_X0_find cA) := hD
  unfold fX0_aboveBody at hok
  refine lv_iload_n hx hb dX0_aboveBody_0 rfl (lv_at hl 0 rfl) ?_
  refine lv_bipush (v := 10) hx hb dX0_aboveBody_1 (by decide) ?_
  obtain ⟨hin, hok⟩ := g_no hok
  refine lv_idiv hx hb dX0_aboveBody_3 hin ?_
  refine lv_iconst (v := 1) hx hb dX0_aboveBody_4 (by decide) ?_
  refine lv_isub hx hb dX0_aboveBody_5 ?_
  refine lv_istore_n (lv' := [(1, .int ((x0 / (10:Int32)) - (1:Int32))), (0, .int x0)]) hx hb dX0_aboveBody_6 rfl hl (by decide) rfl (fun ls hl => ?_)
  refine lv_iload_n hx hb dX0_aboveBody_7 rfl (lv_at hl 0 rfl) ?_
  refine lv_if_lt (tgt := 16) hx hb dX0_aboveBody_8 (by decide) (fun c => ?_) (fun c => ?_)
  · replace hok := g_pos hok c
    refine lv_iconst (v := -1) hx hb dX0_aboveBody_16 (by decide) ?_
    refine lv_goto (tgt := 25) hx hb dX0_aboveBody_17 (by decide) ?_
    cases hok
    exact cr_i hx hb hr hlocks hQ dX0_aboveBody_25 hP hS
  replace hok := g_neg hok c
  refine lv_iload_n hx hb dX0_aboveBody_11 rfl (lv_at hl 0 rfl) ?_
  refine lv_iconst (v := 5) hx hb dX0_aboveBody_12 (by decide) ?_
  refine lv_icmp_lt (tgt := 20) hx hb dX0_aboveBody_13 (by decide) (fun c => ?_) (fun c => ?_)
  · replace hok := g_pos hok c
    refine va_getsN hx hb hZ.1.1.2.2.2.2.1.1 hS hown (va_Nw.use rfl hZ.2.2.2.2) (fun _ h9 => h9) dX0_aboveBody_20 ?_
    refine lv_iload_n hx hb dX0_aboveBody_23 rfl (lv_at hl 0 rfl) ?_
    obtain ⟨hin, hok⟩ := g_no hok
    refine va_ti (v := .int (tb tRA ((x0 / (10:Int32)) - (1:Int32)).toNatClampNeg)) hx hb hZ.1.1.2.2.2.2.1.2 hS hin rfl dX0_aboveBody_24 ?_
    cases hok
    exact cr_i hx hb hr hlocks hQ dX0_aboveBody_25 hP hS
  replace hok := g_neg hok c
  refine lv_iconst (v := -1) hx hb dX0_aboveBody_16 (by decide) ?_
  refine lv_goto (tgt := 25) hx hb dX0_aboveBody_17 (by decide) ?_
  cases hok
  exact cr_i hx hb hr hlocks hQ dX0_aboveBody_25 hP hS
set_option maxHeartbeats 40000000 in
set_option maxRecDepth 100000 in
theorem c_X0_answer_all (l : Launch) (G : va_G) (cA : Nat → ClassId) (ts : Nat → Nat) : ∀ (n : Nat) (h0 : Nat) (h0_trace : Nat) (x1 : Int32) (x2 : Int32) (x3 : Int32) (x4 : Int32) (x5 : Int32) (s0__ran : Int32) (s0_trace : Nat → Int32) (r : Int32) (o0__ran : Int32) (o0_trace : Nat → Int32), fX0_answer n x1 x2 x3 x4 x5 s0__ran s0_trace = some (r, o0__ran, o0_trace) → Ct l G cA ts yX0_answer wsX0_answer (n + 3) (n * 27 + 91) [.ref h0, .int x1, .int x2, .int x3, .int x4, .int x5] (wm_X0_keep cA h0 h0_trace s0__ran s0_trace) (wm_X0_keep cA h0 h0_trace o0__ran o0_trace) (some (.int r)) := by
  intro n
  induction n with
  | zero =>
    intro h0 h0_trace x1 x2 x3 x4 x5 s0__ran s0_trace r o0__ran o0_trace hok
    rw [fX0_answer] at hok
    cases hok
  | succ n ih =>
    intro h0 h0_trace x1 x2 x3 x4 x5 s0__ran s0_trace r o0__ran o0_trace hok
    rw [fX0_answer] at hok
    refine Ct.intro (cc := cX0_answer) (maxL := 8) (ret := some .int) (by decide +kernel) rfl (Nat.le_of_ble_eq_true rfl) ?_
    intro p e s m ar below meth c A Q hx hb hr hml hown hlocks hts hK hZ hA hQ hP hD hS ls hl
    have hown : s.vm.findClass RX0 = some m.cls := hown
    have hl : lv_has ls 8 [(0, .ref h0), (1, .int x1), (2, .int x2), (3, .int x3), (4, .int x4), (5, .int x5)] := hl
    have hP : va_P G vwCl (wm_X0_keep cA h0 h0_trace s0__ran s0_trace) s.heap := hP
    have hD : va_D A (wm_X0_keep cA h0 h0_trace s0__ran s0_trace) := hD
    refine lv_iload_n hx hb dX0_answer_0 rfl (lv_at hl 2 rfl) ?_
    refine lv_iload_n hx hb dX0_answer_1 rfl (lv_at hl 3 rfl) ?_
    obtain ⟨r1, hq, hok⟩ := g_bnd1 hok
    refine cG (is := []) (wc := (wm_X0_find cA)) (w1 := (wm_X0_find cA)) (rv := (some (.int r1))) (st1 := [.int r1]) (va_runS (Ts := wsX0_answer) (As := [.int x2, .int x3]) (rest := []) ⟨hx, hb, hml, hown, hts⟩ (c_X0_find l G cA ts x2 x3 r1 hq s.heap.size) (va_cwS 2 hts gX0_answer_X0_find rfl rfl rfl (by decide +kernel) ⟨by simp only [rmX]; omega, by simp only [rmX]; omega⟩) (pre_S (is := []) hP hD hS hA hK hZ (by decide +kernel) (by rfl)) rfl rfl hl.1 rfl (by exact lv_room (Nat.le_of_ble_eq_true rfl)) dX0_answer_2 ⟨Nat.le_refl _, Nat.le_refl _⟩) hP hD hS hA (by decide +kernel) (by rfl) (by rfl) rfl (fun H locs hP hD hS => ?_)
    have hP : va_P G vwCl (wm_X0_keep cA h0 h0_trace s0__ran s0_trace) H := hP
    have hD : va_D A (wm_X0_keep cA h0 h0_trace s0__ran s0_trace) := hD
    refine lv_istore (lv' := [(6, .int r1), (0, .ref h0), (1, .int x1), (2, .int x2), (3, .int x3), (4, .int x4), (5, .int x5)]) hx hb dX0_answer_5 hl (by decide) rfl (fun ls hl => ?_)
    refine lv_iload hx hb dX0_answer_7 (lv_at hl 0 rfl) ?_
    refine lv_if_eq (tgt := 19) hx hb dX0_answer_9 (by decide) (fun c => ?_) (fun c => ?_)
    · replace hok := g_pos hok c
      refine lv_iconst (v := 0) hx hb dX0_answer_19 (by decide) ?_
      cases hok
      exact cr_i hx hb hr hlocks hQ dX0_answer_20 hP hS
    replace hok := g_neg hok c
    refine lv_iload hx hb dX0_answer_12 (lv_at hl 6 rfl) ?_
    refine lv_bipush (v := 20) hx hb dX0_answer_14 (by decide) ?_
    refine lv_icmp_le (tgt := 21) hx hb dX0_answer_16 (by decide) (fun c => ?_) (fun c => ?_)
    · replace hok := g_pos hok c
      refine lv_aload_n hx hb dX0_answer_21 rfl (lv_at hl 1 rfl) ?_
      refine lv_iload hx hb dX0_answer_22 (lv_at hl 0 rfl) ?_
      obtain ⟨o2, o3, hq, hok⟩ := g_bnd2 hok
      refine cG (is := [0, 1]) (wc := (wm_X0_keep cA h0 h0_trace s0__ran s0_trace)) (w1 := (wm_X0_keep cA h0 h0_trace o2 o3)) (rv := none) (st1 := []) (va_runV (Ts := wsX0_answer) (As := [.int r1]) (rest := []) ⟨hx, hb, hml, hown, hts⟩ (c_X0_keep l G cA ts h0 h0_trace r1 s0__ran s0_trace o2 o3 hq H.size) (cwV 1 hts gX0_answer_X0_keep rfl rfl rfl (by decide +kernel) ⟨by simp only [rmX]; omega, by simp only [rmX]; omega⟩) (pre_V (ci := 0) (q0 := 0) (is := [0, 1]) rfl rfl hP hD hS hA hK hZ (by decide +kernel) (by rfl)) rfl rfl hl.1 rfl (by exact lv_room (Nat.le_of_ble_eq_true rfl)) dX0_answer_24 ⟨Nat.le_refl _, Nat.le_refl _⟩) hP hD hS hA (by decide +kernel) (by rfl) (by rfl) rfl (fun H locs hP hD hS => ?_)
      have hP : va_P G vwCl (wm_X0_keep cA h0 h0_trace o2 o3) H := hP
      have hD : va_D A (wm_X0_keep cA h0 h0_trace o2 o3) := hD
      refine lv_iload hx hb dX0_answer_27 (lv_at hl 0 rfl) ?_
      obtain ⟨r4, hq, hok⟩ := g_bnd1 hok
      refine cG (is := []) (wc := (wm_X0_find cA)) (w1 := (wm_X0_find cA)) (rv := (some (.int r4))) (st1 := [.int r4]) (va_runS (Ts := wsX0_answer) (As := [.int r1]) (rest := []) ⟨hx, hb, hml, hown, hts⟩ (c_X0_aboveBody l G cA ts r1 r4 hq H.size) (va_cwS 1 hts gX0_answer_X0_aboveBody rfl rfl rfl (by decide +kernel) ⟨by simp only [rmX]; omega, by simp only [rmX]; omega⟩) (pre_S (is := []) hP hD hS hA hK hZ (by decide +kernel) (by rfl)) rfl rfl hl.1 rfl (by exact lv_room (Nat.le_of_ble_eq_true rfl)) dX0_answer_29 ⟨Nat.le_refl _, Nat.le_refl _⟩) hP hD hS hA (by decide +kernel) (by rfl) (by rfl) rfl (fun H locs hP hD hS => ?_)
      have hP : va_P G vwCl (wm_X0_keep cA h0 h0_trace o2 o3) H := hP
      have hD : va_D A (wm_X0_keep cA h0 h0_trace o2 o3) := hD
      refine lv_istore (lv' := [(7, .int r4), (6, .int r1), (0, .ref h0), (1, .int x1), (2, .int x2), (3, .int x3), (4, .int x4), (5, .int x5)]) hx hb dX0_answer_32 hl (by decide) rfl (fun ls hl => ?_)
      refine lv_iload hx hb dX0_answer_34 (lv_at hl 1 rfl) ?_
      by_cases c0 : r1 = 10
      · replace hok := g_pos hok c0
        have e9 : (r1).toInt = 10 := by rw [c0]; rfl
        refine lv_lookup (tgt := 112) (off := 76) hx hb dX0_answer_36 (by decide) (by rw [e9]; rfl) (by decide) ?_
        refine lv_iload hx hb dX0_answer_112 (lv_at hl 6 rfl) ?_
        refine lv_iload_n hx hb dX0_answer_114 rfl (lv_at hl 3 rfl) ?_
        refine lv_iadd hx hb dX0_answer_115 ?_
        cases hok
        exact cr_i hx hb hr hlocks hQ dX0_answer_116 hP hS
      replace hok := g_neg hok c0
      by_cases c1 : r1 = 11
      · replace hok := g_pos hok c1
        have e9 : (r1).toInt = 11 := by rw [c1]; rfl
        refine lv_lookup (tgt := 117) (off := 81) hx hb dX0_answer_36 (by decide) (by rw [e9]; rfl) (by decide) ?_
        refine lv_aload_n hx hb dX0_answer_117 rfl (lv_at hl 2 rfl) ?_
        refine lv_iload_n hx hb dX0_answer_118 rfl (lv_at hl 3 rfl) ?_
        refine lv_iload_n hx hb dX0_answer_119 rfl (lv_at hl 3 rfl) ?_
        refine lv_iconst (v := 0) hx hb dX0_answer_120 (by decide) ?_
        refine lv_iload hx hb dX0_answer_121 (lv_at hl 6 rfl) ?_
        refine lv_iload hx hb dX0_answer_123 (lv_at hl 7 rfl) ?_
        refine lv_iconst (v := 1) hx hb dX0_answer_125 (by decide) ?_
        refine lv_iadd hx hb dX0_answer_126 ?_
        obtain ⟨r5, o6, o7, hq, hok⟩ := g_bnd3 hok
        refine cG (is := [0, 1]) (wc := (wm_X0_keep cA h0 h0_trace o2 o3)) (w1 := (wm_X0_keep cA h0 h0_trace o6 o7)) (rv := (some (.int r5))) (st1 := [.int r5]) (va_runS (Ts := wsX0_answer) (As := [.ref h0, .int x1, .int x1, .int (0:Int32), .int x4, .int (x5 + (1:Int32))]) (rest := []) ⟨hx, hb, hml, hown, hts⟩ (ih h0 h0_trace x1 x1 (0:Int32) x4 (x5 + (1:Int32)) o2 o3 r5 o6 o7 hq H.size) (va_cwS 6 hts (goodIn_app (goodIn_of _ (by decide +kernel)) (goodIn_sub (fun _ h => h) (by decide +kernel))) rfl rfl rfl (by decide +kernel) ⟨by simp only [rmX]; omega, by simp only [rmX]; omega⟩) (pre_S (is := [0, 1]) hP hD hS hA hK hZ (by decide +kernel) (by rfl)) rfl rfl hl.1 rfl (by exact lv_room (Nat.le_of_ble_eq_true rfl)) dX0_answer_127 ⟨Nat.le_refl _, Nat.le_refl _⟩) hP hD hS hA (by decide +kernel) (by rfl) (by rfl) rfl (fun H locs hP hD hS => ?_)
        have hP : va_P G vwCl (wm_X0_keep cA h0 h0_trace o6 o7) H := hP
        have hD : va_D A (wm_X0_keep cA h0 h0_trace o6 o7) := hD
        refine lv_iconst (v := 2) hx hb dX0_answer_130 (by decide) ?_
        refine lv_imul hx hb dX0_answer_131 ?_
        cases hok
        exact cr_i hx hb hr hlocks hQ dX0_answer_132 hP hS
      replace hok := g_neg hok c1
      by_cases c2 : r1 = 12
      · replace hok := g_pos hok c2
        have e9 : (r1).toInt = 12 := by rw [c2]; rfl
        refine lv_lookup (tgt := 133) (off := 97) hx hb dX0_answer_36 (by decide) (by rw [e9]; rfl) (by decide) ?_
        refine lv_aload_n hx hb dX0_answer_133 rfl (lv_at hl 2 rfl) ?_
        refine lv_iload_n hx hb dX0_answer_134 rfl (lv_at hl 3 rfl) ?_
        refine lv_iload_n hx hb dX0_answer_135 rfl (lv_at hl 3 rfl) ?_
        refine lv_iconst (v := 1) hx hb dX0_answer_136 (by decide) ?_
        refine lv_iload hx hb dX0_answer_137 (lv_at hl 6 rfl) ?_
        refine lv_iload hx hb dX0_answer_139 (lv_at hl 7 rfl) ?_
        refine lv_iconst (v := 1) hx hb dX0_answer_141 (by decide) ?_
        refine lv_iadd hx hb dX0_answer_142 ?_
        obtain ⟨r8, o9, o10, hq, hok⟩ := g_bnd3 hok
        refine cG (is := [0, 1]) (wc := (wm_X0_keep cA h0 h0_trace o2 o3)) (w1 := (wm_X0_keep cA h0 h0_trace o9 o10)) (rv := (some (.int r8))) (st1 := [.int r8]) (va_runS (Ts := wsX0_answer) (As := [.ref h0, .int x1, .int x1, .int (1:Int32), .int x4, .int (x5 + (1:Int32))]) (rest := []) ⟨hx, hb, hml, hown, hts⟩ (ih h0 h0_trace x1 x1 (1:Int32) x4 (x5 + (1:Int32)) o2 o3 r8 o9 o10 hq H.size) (va_cwS 6 hts (goodIn_app (goodIn_of _ (by decide +kernel)) (goodIn_sub (fun _ h => h) (by decide +kernel))) rfl rfl rfl (by decide +kernel) ⟨by simp only [rmX]; omega, by simp only [rmX]; omega⟩) (pre_S (is := [0, 1]) hP hD hS hA hK hZ (by decide +kernel) (by rfl)) rfl rfl hl.1 rfl (by exact lv_room (Nat.le_of_ble_eq_true rfl)) dX0_answer_143 ⟨Nat.le_refl _, Nat.le_refl _⟩) hP hD hS hA (by decide +kernel) (by rfl) (by rfl) rfl (fun H locs hP hD hS => ?_)
        have hP : va_P G vwCl (wm_X0_keep cA h0 h0_trace o9 o10) H := hP
        have hD : va_D A (wm_X0_keep cA h0 h0_trace o9 o10) := hD
        refine lv_iload_n hx hb dX0_answer_146 rfl (lv_at hl 3 rfl) ?_
        refine lv_isub hx hb dX0_answer_147 ?_
        cases hok
        exact cr_i hx hb hr hlocks hQ dX0_answer_148 hP hS
      replace hok := g_neg hok c2
      by_cases c3 : r1 = 20
      · replace hok := g_pos hok c3
        have e9 : (r1).toInt = 20 := by rw [c3]; rfl
        refine lv_lookup (tgt := 149) (off := 113) hx hb dX0_answer_36 (by decide) (by rw [e9]; rfl) (by decide) ?_
        refine lv_aload_n hx hb dX0_answer_149 rfl (lv_at hl 2 rfl) ?_
        refine lv_iload_n hx hb dX0_answer_150 rfl (lv_at hl 3 rfl) ?_
        refine lv_iload hx hb dX0_answer_151 (lv_at hl 0 rfl) ?_
        refine lv_iconst (v := 1) hx hb dX0_answer_153 (by decide) ?_
        refine lv_iload hx hb dX0_answer_154 (lv_at hl 6 rfl) ?_
        refine lv_iload hx hb dX0_answer_156 (lv_at hl 7 rfl) ?_
        refine lv_iconst (v := 1) hx hb dX0_answer_158 (by decide) ?_
        refine lv_iadd hx hb dX0_answer_159 ?_
        obtain ⟨r11, o12, o13, hq, hok⟩ := g_bnd3 hok
        refine cG (is := [0, 1]) (wc := (wm_X0_keep cA h0 h0_trace o2 o3)) (w1 := (wm_X0_keep cA h0 h0_trace o12 o13)) (rv := (some (.int r11))) (st1 := [.int r11]) (va_runS (Ts := wsX0_answer) (As := [.ref h0, .int x1, .int r4, .int (1:Int32), .int x4, .int (x5 + (1:Int32))]) (rest := []) ⟨hx, hb, hml, hown, hts⟩ (ih h0 h0_trace x1 r4 (1:Int32) x4 (x5 + (1:Int32)) o2 o3 r11 o12 o13 hq H.size) (va_cwS 6 hts (goodIn_app (goodIn_of _ (by decide +kernel)) (goodIn_sub (fun _ h => h) (by decide +kernel))) rfl rfl rfl (by decide +kernel) ⟨by simp only [rmX]; omega, by simp only [rmX]; omega⟩) (pre_S (is := [0, 1]) hP hD hS hA hK hZ (by decide +kernel) (by rfl)) rfl rfl hl.1 rfl (by exact lv_room (Nat.le_of_ble_eq_true rfl)) dX0_answer_160 ⟨Nat.le_refl _, Nat.le_refl _⟩) hP hD hS hA (by decide +kernel) (by rfl) (by rfl) rfl (fun H locs hP hD hS => ?_)
        have hP : va_P G vwCl (wm_X0_keep cA h0 h0_trace o12 o13) H := hP
        have hD : va_D A (wm_X0_keep cA h0 h0_trace o12 o13) := hD
        refine lv_iconst (v := 5) hx hb dX0_answer_163 (by decide) ?_
        refine lv_ixor hx hb dX0_answer_164 ?_
        cases hok
        exact cr_i hx hb hr hlocks hQ dX0_answer_165 hP hS
      replace hok := g_neg hok c3
      by_cases c4 : r1 = 30
      · replace hok := g_pos hok c4
        have e9 : (r1).toInt = 30 := by rw [c4]; rfl
        refine lv_lookup (tgt := 166) (off := 130) hx hb dX0_answer_36 (by decide) (by rw [e9]; rfl) (by decide) ?_
        refine lv_aload_n hx hb dX0_answer_166 rfl (lv_at hl 2 rfl) ?_
        refine lv_iload_n hx hb dX0_answer_167 rfl (lv_at hl 3 rfl) ?_
        refine lv_iload hx hb dX0_answer_168 (lv_at hl 0 rfl) ?_
        refine lv_iconst (v := 0) hx hb dX0_answer_170 (by decide) ?_
        refine lv_iload hx hb dX0_answer_171 (lv_at hl 6 rfl) ?_
        refine lv_iload hx hb dX0_answer_173 (lv_at hl 7 rfl) ?_
        refine lv_iconst (v := 1) hx hb dX0_answer_175 (by decide) ?_
        refine lv_iadd hx hb dX0_answer_176 ?_
        obtain ⟨r14, o15, o16, hq, hok⟩ := g_bnd3 hok
        refine cG (is := [0, 1]) (wc := (wm_X0_keep cA h0 h0_trace o2 o3)) (w1 := (wm_X0_keep cA h0 h0_trace o15 o16)) (rv := (some (.int r14))) (st1 := [.int r14]) (va_runS (Ts := wsX0_answer) (As := [.ref h0, .int x1, .int r4, .int (0:Int32), .int x4, .int (x5 + (1:Int32))]) (rest := []) ⟨hx, hb, hml, hown, hts⟩ (ih h0 h0_trace x1 r4 (0:Int32) x4 (x5 + (1:Int32)) o2 o3 r14 o15 o16 hq H.size) (va_cwS 6 hts (goodIn_app (goodIn_of _ (by decide +kernel)) (goodIn_sub (fun _ h => h) (by decide +kernel))) rfl rfl rfl (by decide +kernel) ⟨by simp only [rmX]; omega, by simp only [rmX]; omega⟩) (pre_S (is := [0, 1]) hP hD hS hA hK hZ (by decide +kernel) (by rfl)) rfl rfl hl.1 rfl (by exact lv_room (Nat.le_of_ble_eq_true rfl)) dX0_answer_177 ⟨Nat.le_refl _, Nat.le_refl _⟩) hP hD hS hA (by decide +kernel) (by rfl) (by rfl) rfl (fun H locs hP hD hS => ?_)
        have hP : va_P G vwCl (wm_X0_keep cA h0 h0_trace o15 o16) H := hP
        have hD : va_D A (wm_X0_keep cA h0 h0_trace o15 o16) := hD
        refine lv_ineg hx hb dX0_answer_180 ?_
        cases hok
        exact cr_i hx hb hr hlocks hQ dX0_answer_181 hP hS
      replace hok := g_neg hok c4
      by_cases c5 : r1 = 40
      · replace hok := g_pos hok c5
        have e9 : (r1).toInt = 40 := by rw [c5]; rfl
        refine lv_lookup (tgt := 182) (off := 146) hx hb dX0_answer_36 (by decide) (by rw [e9]; rfl) (by decide) ?_
        refine lv_aload_n hx hb dX0_answer_182 rfl (lv_at hl 2 rfl) ?_
        refine lv_iload_n hx hb dX0_answer_183 rfl (lv_at hl 3 rfl) ?_
        refine lv_iload hx hb dX0_answer_184 (lv_at hl 0 rfl) ?_
        refine lv_iconst (v := 2) hx hb dX0_answer_186 (by decide) ?_
        refine lv_iload hx hb dX0_answer_187 (lv_at hl 6 rfl) ?_
        refine lv_iconst (v := 1) hx hb dX0_answer_189 (by decide) ?_
        refine lv_iadd hx hb dX0_answer_190 ?_
        refine lv_iload hx hb dX0_answer_191 (lv_at hl 7 rfl) ?_
        refine lv_iconst (v := 1) hx hb dX0_answer_193 (by decide) ?_
        refine lv_iadd hx hb dX0_answer_194 ?_
        obtain ⟨r17, o18, o19, hq, hok⟩ := g_bnd3 hok
        refine cG (is := [0, 1]) (wc := (wm_X0_keep cA h0 h0_trace o2 o3)) (w1 := (wm_X0_keep cA h0 h0_trace o18 o19)) (rv := (some (.int r17))) (st1 := [.int r17]) (va_runS (Ts := wsX0_answer) (As := [.ref h0, .int x1, .int r4, .int (2:Int32), .int (x4 + (1:Int32)), .int (x5 + (1:Int32))]) (rest := []) ⟨hx, hb, hml, hown, hts⟩ (ih h0 h0_trace x1 r4 (2:Int32) (x4 + (1:Int32)) (x5 + (1:Int32)) o2 o3 r17 o18 o19 hq H.size) (va_cwS 6 hts (goodIn_app (goodIn_of _ (by decide +kernel)) (goodIn_sub (fun _ h => h) (by decide +kernel))) rfl rfl rfl (by decide +kernel) ⟨by simp only [rmX]; omega, by simp only [rmX]; omega⟩) (pre_S (is := [0, 1]) hP hD hS hA hK hZ (by decide +kernel) (by rfl)) rfl rfl hl.1 rfl (by exact lv_room (Nat.le_of_ble_eq_true rfl)) dX0_answer_195 ⟨Nat.le_refl _, Nat.le_refl _⟩) hP hD hS hA (by decide +kernel) (by rfl) (by rfl) rfl (fun H locs hP hD hS => ?_)
        have hP : va_P G vwCl (wm_X0_keep cA h0 h0_trace o18 o19) H := hP
        have hD : va_D A (wm_X0_keep cA h0 h0_trace o18 o19) := hD
        cases hok
        exact cr_i hx hb hr hlocks hQ dX0_answer_198 hP hS
      replace hok := g_neg hok c5
      by_cases c6 : r1 = 41
      · replace hok := g_pos hok c6
        have e9 : (r1).toInt = 41 := by rw [c6]; rfl
        refine lv_lookup (tgt := 199) (off := 163) hx hb dX0_answer_36 (by decide) (by rw [e9]; rfl) (by decide) ?_
        refine lv_aload_n hx hb dX0_answer_199 rfl (lv_at hl 2 rfl) ?_
        refine lv_iload_n hx hb dX0_answer_200 rfl (lv_at hl 3 rfl) ?_
        refine lv_iload hx hb dX0_answer_201 (lv_at hl 0 rfl) ?_
        refine lv_iconst (v := 0) hx hb dX0_answer_203 (by decide) ?_
        refine lv_iload hx hb dX0_answer_204 (lv_at hl 6 rfl) ?_
        refine lv_iload hx hb dX0_answer_206 (lv_at hl 7 rfl) ?_
        refine lv_iconst (v := 1) hx hb dX0_answer_208 (by decide) ?_
        refine lv_iadd hx hb dX0_answer_209 ?_
        obtain ⟨r20, o21, o22, hq, hok⟩ := g_bnd3 hok
        refine cG (is := [0, 1]) (wc := (wm_X0_keep cA h0 h0_trace o2 o3)) (w1 := (wm_X0_keep cA h0 h0_trace o21 o22)) (rv := (some (.int r20))) (st1 := [.int r20]) (va_runS (Ts := wsX0_answer) (As := [.ref h0, .int x1, .int r4, .int (0:Int32), .int x4, .int (x5 + (1:Int32))]) (rest := []) ⟨hx, hb, hml, hown, hts⟩ (ih h0 h0_trace x1 r4 (0:Int32) x4 (x5 + (1:Int32)) o2 o3 r20 o21 o22 hq H.size) (va_cwS 6 hts (goodIn_app (goodIn_of _ (by decide +kernel)) (goodIn_sub (fun _ h => h) (by decide +kernel))) rfl rfl rfl (by decide +kernel) ⟨by simp only [rmX]; omega, by simp only [rmX]; omega⟩) (pre_S (is := [0, 1]) hP hD hS hA hK hZ (by decide +kernel) (by rfl)) rfl rfl hl.1 rfl (by exact lv_room (Nat.le_of_ble_eq_true rfl)) dX0_answer_210 ⟨Nat.le_refl _, Nat.le_refl _⟩) hP hD hS hA (by decide +kernel) (by rfl) (by rfl) rfl (fun H locs hP hD hS => ?_)
        have hP : va_P G vwCl (wm_X0_keep cA h0 h0_trace o21 o22) H := hP
        have hD : va_D A (wm_X0_keep cA h0 h0_trace o21 o22) := hD
        refine lv_iconst (v := 3) hx hb dX0_answer_213 (by decide) ?_
        refine lv_imul hx hb dX0_answer_214 ?_
        cases hok
        exact cr_i hx hb hr hlocks hQ dX0_answer_215 hP hS
      replace hok := g_neg hok c6
      by_cases c7 : r1 = 50
      · replace hok := g_pos hok c7
        have e9 : (r1).toInt = 50 := by rw [c7]; rfl
        refine lv_lookup (tgt := 216) (off := 180) hx hb dX0_answer_36 (by decide) (by rw [e9]; rfl) (by decide) ?_
        refine lv_aload_n hx hb dX0_answer_216 rfl (lv_at hl 2 rfl) ?_
        refine lv_iload_n hx hb dX0_answer_217 rfl (lv_at hl 3 rfl) ?_
        refine lv_iload hx hb dX0_answer_218 (lv_at hl 0 rfl) ?_
        refine lv_iconst (v := 1) hx hb dX0_answer_220 (by decide) ?_
        refine lv_iload hx hb dX0_answer_221 (lv_at hl 6 rfl) ?_
        refine lv_iload hx hb dX0_answer_223 (lv_at hl 7 rfl) ?_
        refine lv_iconst (v := 1) hx hb dX0_answer_225 (by decide) ?_
        refine lv_iadd hx hb dX0_answer_226 ?_
        obtain ⟨r23, o24, o25, hq, hok⟩ := g_bnd3 hok
        refine cG (is := [0, 1]) (wc := (wm_X0_keep cA h0 h0_trace o2 o3)) (w1 := (wm_X0_keep cA h0 h0_trace o24 o25)) (rv := (some (.int r23))) (st1 := [.int r23]) (va_runS (Ts := wsX0_answer) (As := [.ref h0, .int x1, .int r4, .int (1:Int32), .int x4, .int (x5 + (1:Int32))]) (rest := []) ⟨hx, hb, hml, hown, hts⟩ (ih h0 h0_trace x1 r4 (1:Int32) x4 (x5 + (1:Int32)) o2 o3 r23 o24 o25 hq H.size) (va_cwS 6 hts (goodIn_app (goodIn_of _ (by decide +kernel)) (goodIn_sub (fun _ h => h) (by decide +kernel))) rfl rfl rfl (by decide +kernel) ⟨by simp only [rmX]; omega, by simp only [rmX]; omega⟩) (pre_S (is := [0, 1]) hP hD hS hA hK hZ (by decide +kernel) (by rfl)) rfl rfl hl.1 rfl (by exact lv_room (Nat.le_of_ble_eq_true rfl)) dX0_answer_227 ⟨Nat.le_refl _, Nat.le_refl _⟩) hP hD hS hA (by decide +kernel) (by rfl) (by rfl) rfl (fun H locs hP hD hS => ?_)
        have hP : va_P G vwCl (wm_X0_keep cA h0 h0_trace o24 o25) H := hP
        have hD : va_D A (wm_X0_keep cA h0 h0_trace o24 o25) := hD
        refine lv_aload_n hx hb dX0_answer_230 rfl (lv_at hl 2 rfl) ?_
        refine lv_iload_n hx hb dX0_answer_231 rfl (lv_at hl 3 rfl) ?_
        refine lv_iload_n hx hb dX0_answer_232 rfl (lv_at hl 3 rfl) ?_
        refine lv_iconst (v := 0) hx hb dX0_answer_233 (by decide) ?_
        refine lv_iconst (v := 2) hx hb dX0_answer_234 (by decide) ?_
        refine lv_iload hx hb dX0_answer_235 (lv_at hl 7 rfl) ?_
        refine lv_iconst (v := 1) hx hb dX0_answer_237 (by decide) ?_
        refine lv_iadd hx hb dX0_answer_238 ?_
        obtain ⟨r26, o27, o28, hq, hok⟩ := g_bnd3 hok
        refine cG (is := [0, 1]) (wc := (wm_X0_keep cA h0 h0_trace o24 o25)) (w1 := (wm_X0_keep cA h0 h0_trace o27 o28)) (rv := (some (.int r26))) (st1 := [.int r26, .int r23]) (va_runS (Ts := wsX0_answer) (As := [.ref h0, .int x1, .int x1, .int (0:Int32), .int (2:Int32), .int (x5 + (1:Int32))]) (rest := [.int r23]) ⟨hx, hb, hml, hown, hts⟩ (ih h0 h0_trace x1 x1 (0:Int32) (2:Int32) (x5 + (1:Int32)) o24 o25 r26 o27 o28 hq H.size) (va_cwS 6 hts (goodIn_app (goodIn_of _ (by decide +kernel)) (goodIn_sub (fun _ h => h) (by decide +kernel))) rfl rfl rfl (by decide +kernel) ⟨by simp only [rmX]; omega, by simp only [rmX]; omega⟩) (pre_S (is := [0, 1]) hP hD hS hA hK hZ (by decide +kernel) (by rfl)) rfl rfl hl.1 rfl (by exact lv_room (Nat.le_of_ble_eq_true rfl)) dX0_answer_239 ⟨Nat.le_refl _, Nat.le_refl _⟩) hP hD hS hA (by decide +kernel) (by rfl) (by rfl) rfl (fun H locs hP hD hS => ?_)
        have hP : va_P G vwCl (wm_X0_keep cA h0 h0_trace o27 o28) H := hP
        have hD : va_D A (wm_X0_keep cA h0 h0_trace o27 o28) := hD
        refine lv_iadd hx hb dX0_answer_242 ?_
        cases hok
        exact cr_i hx hb hr hlocks hQ dX0_answer_243 hP hS
      replace hok := g_neg hok c7
      refine lv_lookup (tgt := 244) (off := 208) hx hb dX0_answer_36 (by decide) (by refine (lv_osw c0 rfl).trans ?_; refine (lv_osw c1 rfl).trans ?_; refine (lv_osw c2 rfl).trans ?_; refine (lv_osw c3 rfl).trans ?_; refine (lv_osw c4 rfl).trans ?_; refine (lv_osw c5 rfl).trans ?_; refine (lv_osw c6 rfl).trans ?_; refine (lv_osw c7 rfl).trans ?_; rfl) (by decide) ?_
      refine lv_iconst (v := 0) hx hb dX0_answer_244 (by decide) ?_
      cases hok
      exact cr_i hx hb hr hlocks hQ dX0_answer_245 hP hS
    replace hok := g_neg hok c
    refine lv_iconst (v := 0) hx hb dX0_answer_19 (by decide) ?_
    cases hok
    exact cr_i hx hb hr hlocks hQ dX0_answer_20 hP hS
theorem c_X0_answer (l : Launch) (G : va_G) (cA : Nat → ClassId) (ts : Nat → Nat) (h0 : Nat) (h0_trace : Nat) (n : Nat) (x1 : Int32) (x2 : Int32) (x3 : Int32) (x4 : Int32) (x5 : Int32) (s0__ran : Int32) (s0_trace : Nat → Int32) (r : Int32) (o0__ran : Int32) (o0_trace : Nat → Int32) (hok : fX0_answer n x1 x2 x3 x4 x5 s0__ran s0_trace = some (r, o0__ran, o0_trace)) : Ct l G cA ts yX0_answer wsX0_answer (n + 3) (n * 27 + 91) [.ref h0, .int x1, .int x2, .int x3, .int x4, .int x5] (wm_X0_keep cA h0 h0_trace s0__ran s0_trace) (wm_X0_keep cA h0 h0_trace o0__ran o0_trace) (some (.int r)) := c_X0_answer_all l G cA ts n h0 h0_trace x1 x2 x3 x4 x5 s0__ran s0_trace r o0__ran o0_trace hok
