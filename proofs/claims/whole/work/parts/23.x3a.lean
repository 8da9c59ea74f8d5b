set_option maxHeartbeats 40000000 in
set_option maxRecDepth 100000 in
theorem c_X3_toWhole (l : Launch) (G : va_G) (cA : Nat → ClassId) (ts : Nat → Nat) (x0 : Int32) (x1 : Int32) (x2 : Int32) (r : Int32) (hok : fX3_toWhole x0 x1 x2 = some r) : Ct l G cA ts yX3_toWhole wsX3_toWhole 1 40 [.int x0, .int x1, .int x2] (wm_X0_find cA) (wm_X0_find cA) (some (.int r)) := by
  refine Ct.intro (cc := cX3_toWhole) (maxL := 6) (ret := some .int) (by decide +kernel) rfl (Nat.le_of_ble_eq_true rfl) ?_
  intro p e s m ar below meth c A Q hx hb hr hml hown hlocks hts hK hZ hA hQ hP hD hS ls hl
  have hown : s.vm.findClass RX3 = some m.cls := hown
  have hl : lv_has ls 6 [(0, .int x0), (1, .int x1), (2, .int x2)] := hl
  have hP : va_P G vwCl (wm_X0_find cA) s.heap := hP
  have hD : va_D A (wm_X0_find cA) := hD
  unfold fX3_toWhole at hok
  refine lv_iload_n hx hb dX3_toWhole_0 rfl (lv_at hl 2 rfl) ?_
  refine lv_iload_n hx hb dX3_toWhole_1 rfl (lv_at hl 1 rfl) ?_
  refine lv_ishr hx hb dX3_toWhole_2 ?_
  refine lv_istore_n (lv' := [(3, .int (x2 >>> (x1 &&& 31))), (0, .int x0), (1, .int x1), (2, .int x2)]) hx hb dX3_toWhole_3 rfl hl (by decide) rfl (fun ls hl => ?_)
  refine lv_iload_n hx hb dX3_toWhole_4 rfl (lv_at hl 3 rfl) ?_
  refine lv_iload_n hx hb dX3_toWhole_5 rfl (lv_at hl 0 rfl) ?_
  refine lv_iload_n hx hb dX3_toWhole_6 rfl (lv_at hl 2 rfl) ?_
  refine lv_ishl hx hb dX3_toWhole_7 ?_
  refine lv_isub hx hb dX3_toWhole_8 ?_
  refine lv_istore (lv' := [(4, .int (x2 - ((x2 >>> (x1 &&& 31)) <<< (x1 &&& 31)))), (3, .int (x2 >>> (x1 &&& 31))), (0, .int x0), (1, .int x1), (2, .int x2)]) hx hb dX3_toWhole_9 hl (by decide) rfl (fun ls hl => ?_)
  refine lv_iload hx hb dX3_toWhole_11 (lv_at hl 0 rfl) ?_
  refine lv_if_ne (tgt := 18) hx hb dX3_toWhole_13 (by decide) (fun c => ?_) (fun c => ?_)
  · replace hok := g_neg hok c
    refine lv_iconst (v := 2) hx hb dX3_toWhole_18 (by decide) ?_
    refine lv_iload hx hb dX3_toWhole_19 (lv_at hl 0 rfl) ?_
    refine lv_imul hx hb dX3_toWhole_21 ?_
    refine lv_iconst (v := 1) hx hb dX3_toWhole_22 (by decide) ?_
    refine lv_iload_n hx hb dX3_toWhole_23 rfl (lv_at hl 3 rfl) ?_
    refine lv_ishl hx hb dX3_toWhole_24 ?_
    refine lv_isub hx hb dX3_toWhole_25 ?_
    refine lv_istore (lv' := [(5, .int (((2:Int32) * (x2 - ((x2 >>> (x1 &&& 31)) <<< (x1 &&& 31)))) - ((1:Int32) <<< (x1 &&& 31)))), (4, .int (x2 - ((x2 >>> (x1 &&& 31)) <<< (x1 &&& 31)))), (3, .int (x2 >>> (x1 &&& 31))), (0, .int x0), (1, .int x1), (2, .int x2)]) hx hb dX3_toWhole_26 hl (by decide) rfl (fun ls hl => ?_)
    refine lv_iload_n hx hb dX3_toWhole_28 rfl (lv_at hl 3 rfl) ?_
    by_cases c0 : x0 = 1
    · replace hok := g_pos hok c0
      have e9 : (x0).toInt = 1 := by rw [c0]; rfl
      refine lv_tableIn (tgt := 60) (off := 31) hx hb dX3_toWhole_29 (by rw [e9]; decide) (by rw [e9]; decide) (by rw [e9]; rfl) (by decide) ?_
      refine lv_iload_n hx hb dX3_toWhole_60 rfl (lv_at hl 5 rfl) ?_
      refine lv_if_ge (tgt := 70) hx hb dX3_toWhole_61 (by decide) (fun c => ?_) (fun c => ?_)
      · replace hok := g_pos hok c
        refine lv_iload_n hx hb dX3_toWhole_70 rfl (lv_at hl 2 rfl) ?_
        cases hok
        exact cr_i hx hb hr hlocks hQ dX3_toWhole_71 hP hS
      replace hok := g_neg hok c
      refine lv_iload_n hx hb dX3_toWhole_64 rfl (lv_at hl 2 rfl) ?_
      refine lv_iconst (v := 1) hx hb dX3_toWhole_65 (by decide) ?_
      refine lv_iadd hx hb dX3_toWhole_66 ?_
      refine lv_goto (tgt := 71) hx hb dX3_toWhole_67 (by decide) ?_
      cases hok
      exact cr_i hx hb hr hlocks hQ dX3_toWhole_71 hP hS
    replace hok := g_neg hok c0
    by_cases c1 : x0 = 2
    · replace hok := g_pos hok c1
      have e9 : (x0).toInt = 2 := by rw [c1]; rfl
      refine lv_tableIn (tgt := 72) (off := 43) hx hb dX3_toWhole_29 (by rw [e9]; decide) (by rw [e9]; decide) (by rw [e9]; rfl) (by decide) ?_
      refine lv_iload hx hb dX3_toWhole_72 (lv_at hl 0 rfl) ?_
      refine lv_if_lt (tgt := 83) hx hb dX3_toWhole_74 (by decide) (fun c => ?_) (fun c => ?_)
      · replace hok := g_pos hok c
        refine lv_iload_n hx hb dX3_toWhole_83 rfl (lv_at hl 2 rfl) ?_
        cases hok
        exact cr_i hx hb hr hlocks hQ dX3_toWhole_84 hP hS
      replace hok := g_neg hok c
      refine lv_iload_n hx hb dX3_toWhole_77 rfl (lv_at hl 2 rfl) ?_
      refine lv_iconst (v := 1) hx hb dX3_toWhole_78 (by decide) ?_
      refine lv_iadd hx hb dX3_toWhole_79 ?_
      refine lv_goto (tgt := 84) hx hb dX3_toWhole_80 (by decide) ?_
      cases hok
      exact cr_i hx hb hr hlocks hQ dX3_toWhole_84 hP hS
    replace hok := g_neg hok c1
    by_cases c2 : x0 = 3
    · replace hok := g_pos hok c2
      have e9 : (x0).toInt = 3 := by rw [c2]; rfl
      refine lv_tableIn (tgt := 85) (off := 56) hx hb dX3_toWhole_29 (by rw [e9]; decide) (by rw [e9]; decide) (by rw [e9]; rfl) (by decide) ?_
      refine lv_iload hx hb dX3_toWhole_85 (lv_at hl 0 rfl) ?_
      refine lv_if_ne (tgt := 98) hx hb dX3_toWhole_87 (by decide) (fun c => ?_) (fun c => ?_)
      · replace hok := g_neg hok c
        refine lv_iload hx hb dX3_toWhole_98 (lv_at hl 0 rfl) ?_
        refine lv_if_le (tgt := 109) hx hb dX3_toWhole_100 (by decide) (fun c => ?_) (fun c => ?_)
        · replace hok := g_pos hok c
          refine lv_iload_n hx hb dX3_toWhole_109 rfl (lv_at hl 2 rfl) ?_
          cases hok
          exact cr_i hx hb hr hlocks hQ dX3_toWhole_110 hP hS
        replace hok := g_neg hok c
        refine lv_iload_n hx hb dX3_toWhole_103 rfl (lv_at hl 2 rfl) ?_
        refine lv_iconst (v := 1) hx hb dX3_toWhole_104 (by decide) ?_
        refine lv_iadd hx hb dX3_toWhole_105 ?_
        refine lv_goto (tgt := 110) hx hb dX3_toWhole_106 (by decide) ?_
        cases hok
        exact cr_i hx hb hr hlocks hQ dX3_toWhole_110 hP hS
      replace hok := g_pos hok c
      refine lv_iload_n hx hb dX3_toWhole_90 rfl (lv_at hl 2 rfl) ?_
      refine lv_iload_n hx hb dX3_toWhole_91 rfl (lv_at hl 2 rfl) ?_
      refine lv_iconst (v := 1) hx hb dX3_toWhole_92 (by decide) ?_
      refine lv_iand hx hb dX3_toWhole_93 ?_
      refine lv_iadd hx hb dX3_toWhole_94 ?_
      refine lv_goto (tgt := 110) hx hb dX3_toWhole_95 (by decide) ?_
      cases hok
      exact cr_i hx hb hr hlocks hQ dX3_toWhole_110 hP hS
    replace hok := g_neg hok c2
    by_cases c3 : x0 = 4
    · replace hok := g_pos hok c3
      have e9 : (x0).toInt = 4 := by rw [c3]; rfl
      refine lv_tableIn (tgt := 111) (off := 82) hx hb dX3_toWhole_29 (by rw [e9]; decide) (by rw [e9]; decide) (by rw [e9]; rfl) (by decide) ?_
      refine lv_iload_n hx hb dX3_toWhole_111 rfl (lv_at hl 5 rfl) ?_
      refine lv_if_ge (tgt := 119) hx hb dX3_toWhole_112 (by decide) (fun c => ?_) (fun c => ?_)
      · replace hok := g_pos hok c
        refine lv_iload_n hx hb dX3_toWhole_119 rfl (lv_at hl 2 rfl) ?_
        refine lv_iconst (v := 1) hx hb dX3_toWhole_120 (by decide) ?_
        refine lv_iadd hx hb dX3_toWhole_121 ?_
        cases hok
        exact cr_i hx hb hr hlocks hQ dX3_toWhole_122 hP hS
      replace hok := g_neg hok c
      refine lv_iload_n hx hb dX3_toWhole_115 rfl (lv_at hl 2 rfl) ?_
      refine lv_goto (tgt := 122) hx hb dX3_toWhole_116 (by decide) ?_
      cases hok
      exact cr_i hx hb hr hlocks hQ dX3_toWhole_122 hP hS
    replace hok := g_neg hok c3
    refine lv_tableOut (tgt := 123) hx hb dX3_toWhole_29 (by have b0 := lv_neT (a := 1) c0 rfl; have b1 := lv_neT (a := 2) c1 rfl; have b2 := lv_neT (a := 3) c2 rfl; have b3 := lv_neT (a := 4) c3 rfl; omega) (by decide) ?_
    refine lv_iload_n hx hb dX3_toWhole_123 rfl (lv_at hl 2 rfl) ?_
    cases hok
    exact cr_i hx hb hr hlocks hQ dX3_toWhole_124 hP hS
  replace hok := g_pos hok c
  refine lv_iload_n hx hb dX3_toWhole_16 rfl (lv_at hl 1 rfl) ?_
  cases hok
  exact cr_i hx hb hr hlocks hQ dX3_toWhole_17 hP hS
set_option maxHeartbeats 40000000 in
set_option maxRecDepth 100000 in
theorem c_X3_gather (l : Launch) (G : va_G) (cA : Nat → ClassId) (ts : Nat → Nat) (h0 : Nat) (h0_numbers : Nat) (h0_words : Nat) (s0__all : Int32) (s0__v : Int32) (s0__loss : Int32) (s0__result : Int32) (s0__over : Int32) (s0__heldAll : Int32) (s0__heldRounded : Int32) (s0_numbers : Nat → Int32) (s0_words : Nat → Int32) (o0__heldAll : Int32) (o0__heldRounded : Int32) (hok : fX3_gather s0__heldAll s0__heldRounded s0_numbers s0_words = some (o0__heldAll, o0__heldRounded)) : Ct l G cA ts yX3_gather wsX3_gather 2 65 [.ref h0] (wm_X3_gather cA h0 h0_numbers h0_words s0__all s0__v s0__loss s0__result s0__over s0__heldAll s0__heldRounded s0_numbers s0_words) (wm_X3_gather cA h0 h0_numbers h0_words s0__all s0__v s0__loss s0__result s0__over o0__heldAll o0__heldRounded s0_numbers s0_words) none := by
  refine Ct.intro (cc := cX3_gather) (maxL := 3) (ret := none) (by decide +kernel) rfl (Nat.le_of_ble_eq_true rfl) ?_
  intro p e s m ar below meth c A Q hx hb hr hml hown hlocks hts hK hZ hA hQ hP hD hS ls hl
  have hown : s.vm.findClass RX3 = some m.cls := hown
  have hinX3 : ∀ w ∈ wsX30, w ∈ wsX3_gather := fun _ h => List.mem_cons_of_mem _ (List.mem_append_right _ (h))
  have hl : lv_has ls 3 [(0, .ref h0)] := hl
  have hP : va_P G vwCl (wm_X3_gather cA h0 h0_numbers h0_words s0__all s0__v s0__loss s0__result s0__over s0__heldAll s0__heldRounded s0_numbers s0_words) s.heap := hP
  have hD : va_D A (wm_X3_gather cA h0 h0_numbers h0_words s0__all s0__v s0__loss s0__result s0__over s0__heldAll s0__heldRounded s0_numbers s0_words) := hD
  have L_12 : ∀ (n : Nat) (y1 : Int32) (c0__heldAll : Int32) (c0__heldRounded : Int32) (p0_0 : Int32) (p0_1 : Int32) (H : Heap) (locs : List Loc) (ls : Array Slot), va_P G vwCl (wm_X3_gather cA h0 h0_numbers h0_words s0__all s0__v s0__loss s0__result s0__over c0__heldAll c0__heldRounded s0_numbers s0_words) H → va_D A (wm_X3_gather cA h0 h0_numbers h0_words s0__all s0__v s0__loss s0__result s0__over c0__heldAll c0__heldRounded s0_numbers s0_words) → va_S A s.heap H locs → lv_has ls 3 [(0, .ref h0), (1, .int y1)] → fX3_gather_L12 s0_numbers s0_words n y1 c0__heldAll c0__heldRounded = some (p0_0, p0_1) → (∀ (H : Heap) (locs : List Loc) (ls : Array Slot), va_P G vwCl (wm_X3_gather cA h0 h0_numbers h0_words s0__all s0__v s0__loss s0__result s0__over p0_0 p0_1 s0_numbers s0_words) H → va_D A (wm_X3_gather cA h0 h0_numbers h0_words s0__all s0__v s0__loss s0__result s0__over p0_0 p0_1 s0_numbers s0_words) → va_S A s.heap H locs → lv_has ls 3 [] → W p l e (rmX 2 65) s m ar below meth c H locs 0 0 Q (F0 m 97 ls [])) → W p l e (rmX 2 65) s m ar below meth c H locs 0 0 Q (F0 m 12 ls []) := by
    intro n
    induction n with
    | zero =>
      intro y1 c0__heldAll c0__heldRounded p0_0 p0_1 H locs ls hP hD hS hl hok
      rw [fX3_gather_L12] at hok
      cases hok
    | succ n ih =>
      intro y1 c0__heldAll c0__heldRounded p0_0 p0_1 H locs ls hP hD hS hl hok K
      rw [fX3_gather_L12] at hok
      refine lv_iload_n hx hb dX3_gather_12 rfl (lv_at hl 1 rfl) ?_
      refine lv_aload_n hx hb dX3_gather_13 rfl (lv_at hl 0 rfl) ?_
      refine va_get (ci := 3) (v := .ref h0_numbers) (C := RX3) (T := TX3) (N := 9) hx hb hts hinX3 hown hK hP 0 rfl rfl 0 (by decide) (hts _ (List.mem_of_getElem? (i := 3) rfl)) (fun _ h9 => h9) rfl dX3_gather_14 ?_
      refine lv_iconst (v := 0) hx hb dX3_gather_17 (by decide) ?_
      refine x_iald (k := 0) hx hb hK hP 1 0 rfl rfl (show ¬ ((0:Int32) < 0 ∨ 10 ≤ (0:Int32).toNatClampNeg) by decide) (by decide) dX3_gather_18 ?_
      refine lv_icmp_ge (tgt := 97) hx hb dX3_gather_19 (by decide) (fun c => ?_) (fun c => ?_)
      · replace hok := g_pos hok c
        cases hok
        exact K _ _ _ hP hD hS (lv_sub hl [] rfl)
      replace hok := g_neg hok c
      refine lv_iload_n hx hb dX3_gather_22 rfl (lv_at hl 1 rfl) ?_
      refine lv_iconst (v := 3) hx hb dX3_gather_23 (by decide) ?_
      refine lv_icmp_ge (tgt := 97) hx hb dX3_gather_24 (by decide) (fun c => ?_) (fun c => ?_)
      · replace hok := g_pos hok c
        cases hok
        exact K _ _ _ hP hD hS (lv_sub hl [] rfl)
      replace hok := g_neg hok c
      refine lv_aload_n hx hb dX3_gather_27 rfl (lv_at hl 0 rfl) ?_
      refine va_get (ci := 3) (v := .ref h0_numbers) (C := RX3) (T := TX3) (N := 9) hx hb hts hinX3 hown hK hP 0 rfl rfl 0 (by decide) (hts _ (List.mem_of_getElem? (i := 3) rfl)) (fun _ h9 => h9) rfl dX3_gather_28 ?_
      refine lv_iconst (v := 2) hx hb dX3_gather_31 (by decide) ?_
      refine lv_iload_n hx hb dX3_gather_32 rfl (lv_at hl 1 rfl) ?_
      refine lv_iadd hx hb dX3_gather_33 ?_
      obtain ⟨hin, hok⟩ := g_no hok
      refine x_iald (k := ((2:Int32) + y1).toNatClampNeg) hx hb hK hP 1 0 rfl rfl hin rfl dX3_gather_34 ?_
      refine lv_aload_n hx hb dX3_gather_35 rfl (lv_at hl 0 rfl) ?_
      refine va_get (ci := 3) (v := .ref h0_words) (C := RX3) (T := TX3) (N := 9) hx hb hts hinX3 hown hK hP 0 rfl rfl 1 (by decide) (hts _ (List.mem_of_getElem? (i := 4) rfl)) (fun _ h9 => h9) rfl dX3_gather_36 ?_
      refine lv_iload_n hx hb dX3_gather_39 rfl (lv_at hl 1 rfl) ?_
      obtain ⟨hin, hok⟩ := g_no hok
      refine x_iald (k := y1.toNatClampNeg) hx hb hK hP 2 0 rfl rfl hin rfl dX3_gather_40 ?_
      refine lv_imul hx hb dX3_gather_41 ?_
      refine lv_istore_n (lv' := [(2, .int ((s0_numbers ((2:Int32) + y1).toNatClampNeg) * (s0_words y1.toNatClampNeg))), (0, .ref h0), (1, .int y1)]) hx hb dX3_gather_42 rfl hl (by decide) rfl (fun ls hl => ?_)
      refine lv_aload_n hx hb dX3_gather_43 rfl (lv_at hl 1 rfl) ?_
      refine lv_dup hx hb dX3_gather_44 rfl ?_
      refine va_get (ci := 3) (v := .int c0__heldAll) (C := RX3) (T := TX3) (N := 9) hx hb hts hinX3 hown hK hP 0 rfl rfl 7 (by decide) (hts _ (List.mem_of_getElem? (i := 1) rfl)) (fun _ h9 => h9) rfl dX3_gather_45 ?_
      refine lv_iload_n hx hb dX3_gather_48 rfl (lv_at hl 0 rfl) ?_
      refine lv_iadd hx hb dX3_gather_49 ?_
      refine va_put (D := G) (ci := 3) (v := .int (c0__heldAll + ((s0_numbers ((2:Int32) + y1).toNatClampNeg) * (s0_words y1.toNatClampNeg)))) (ty := .int) (C := RX3) (T := TX3) (N := 9) hx hb hts hinX3 tyX3 tyX3_ok nmX3 hown hK hP hD hS 0 rfl rfl 7 (by decide) (hts _ (List.mem_of_getElem? (i := 1) rfl)) (fun _ h9 => h9) rfl (by decide +kernel) rfl rfl (Nat.le_of_ble_eq_true rfl) dX3_gather_50 (fun H locs hP hD hS => ?_)
      have hP : va_P G vwCl (wm_X3_gather cA h0 h0_numbers h0_words s0__all s0__v s0__loss s0__result s0__over (c0__heldAll + ((s0_numbers ((2:Int32) + y1).toNatClampNeg) * (s0_words y1.toNatClampNeg))) c0__heldRounded s0_numbers s0_words) H := hP
      have hD : va_D A (wm_X3_gather cA h0 h0_numbers h0_words s0__all s0__v s0__loss s0__result s0__over (c0__heldAll + ((s0_numbers ((2:Int32) + y1).toNatClampNeg) * (s0_words y1.toNatClampNeg))) c0__heldRounded s0_numbers s0_words) := hD
      refine lv_aload_n hx hb dX3_gather_53 rfl (lv_at hl 1 rfl) ?_
      refine va_get (ci := 3) (v := .ref h0_numbers) (C := RX3) (T := TX3) (N := 9) hx hb hts hinX3 hown hK hP 0 rfl rfl 0 (by decide) (hts _ (List.mem_of_getElem? (i := 3) rfl)) (fun _ h9 => h9) rfl dX3_gather_54 ?_
      refine lv_bipush (v := 9) hx hb dX3_gather_57 (by decide) ?_
      refine x_iald (k := 9) hx hb hK hP 1 0 rfl rfl (show ¬ ((9:Int32) < 0 ∨ 10 ≤ (9:Int32).toNatClampNeg) by decide) (by decide) dX3_gather_59 ?_
      refine lv_iconst (v := 1) hx hb dX3_gather_60 (by decide) ?_
      refine lv_icmp_ne (tgt := 91) hx hb dX3_gather_61 (by decide) (fun c => ?_) (fun c => ?_)
      · replace hok := g_neg hok c
        refine lv_iinc (v := (y1 + 1)) (lv' := [(1, .int (y1 + 1)), (2, .int ((s0_numbers ((2:Int32) + y1).toNatClampNeg) * (s0_words y1.toNatClampNeg))), (0, .ref h0)]) hx hb dX3_gather_91 hl (k := 2) rfl rfl (by decide) rfl (fun ls hl => ?_)
        refine lv_goto (tgt := 12) hx hb dX3_gather_94 (by decide) ?_
        exact ih (y1 + 1) (c0__heldAll + ((s0_numbers ((2:Int32) + y1).toNatClampNeg) * (s0_words y1.toNatClampNeg))) c0__heldRounded p0_0 p0_1 _ _ _ hP hD hS (lv_sub hl [2, 0] rfl) hok K
      replace hok := g_pos hok c
      refine lv_aload_n hx hb dX3_gather_64 rfl (lv_at hl 1 rfl) ?_
      refine lv_dup hx hb dX3_gather_65 rfl ?_
      refine va_get (ci := 3) (v := .int c0__heldRounded) (C := RX3) (T := TX3) (N := 9) hx hb hts hinX3 hown hK hP 0 rfl rfl 8 (by decide) (hts _ (List.mem_of_getElem? (i := 2) rfl)) (fun _ h9 => h9) rfl dX3_gather_66 ?_
      refine lv_aload_n hx hb dX3_gather_69 rfl (lv_at hl 1 rfl) ?_
      refine va_get (ci := 3) (v := .ref h0_numbers) (C := RX3) (T := TX3) (N := 9) hx hb hts hinX3 hown hK hP 0 rfl rfl 0 (by decide) (hts _ (List.mem_of_getElem? (i := 3) rfl)) (fun _ h9 => h9) rfl dX3_gather_70 ?_
      refine lv_bipush (v := 7) hx hb dX3_gather_73 (by decide) ?_
      refine x_iald (k := 7) hx hb hK hP 1 0 rfl rfl (show ¬ ((7:Int32) < 0 ∨ 10 ≤ (7:Int32).toNatClampNeg) by decide) (by decide) dX3_gather_75 ?_
      refine lv_aload_n hx hb dX3_gather_76 rfl (lv_at hl 1 rfl) ?_
      refine va_get (ci := 3) (v := .ref h0_numbers) (C := RX3) (T := TX3) (N := 9) hx hb hts hinX3 hown hK hP 0 rfl rfl 0 (by decide) (hts _ (List.mem_of_getElem? (i := 3) rfl)) (fun _ h9 => h9) rfl dX3_gather_77 ?_
      refine lv_bipush (v := 6) hx hb dX3_gather_80 (by decide) ?_
      refine x_iald (k := 6) hx hb hK hP 1 0 rfl rfl (show ¬ ((6:Int32) < 0 ∨ 10 ≤ (6:Int32).toNatClampNeg) by decide) (by decide) dX3_gather_82 ?_
      refine lv_iload_n hx hb dX3_gather_83 rfl (lv_at hl 0 rfl) ?_
      obtain ⟨r1, hq, hok⟩ := g_bnd1 hok
      refine cG (is := []) (wc := (wm_X0_find cA)) (w1 := (wm_X0_find cA)) (rv := (some (.int r1))) (st1 := [.int r1, .int c0__heldRounded, .ref h0]) (va_runS (Ts := wsX3_gather) (As := [.int (s0_numbers 7), .int (s0_numbers 6), .int ((s0_numbers ((2:Int32) + y1).toNatClampNeg) * (s0_words y1.toNatClampNeg))]) (rest := [.int c0__heldRounded, .ref h0]) ⟨hx, hb, hml, hown, hts⟩ (c_X3_toWhole l G cA ts (s0_numbers 7) (s0_numbers 6) ((s0_numbers ((2:Int32) + y1).toNatClampNeg) * (s0_words y1.toNatClampNeg)) r1 hq H.size) (va_cwS 3 hts gX3_gather_X3_toWhole rfl rfl rfl (by decide +kernel) ⟨Nat.le_of_ble_eq_true rfl, Nat.le_of_ble_eq_true rfl⟩) (pre_S (is := []) hP hD hS hA hK hZ (by decide +kernel) (by rfl)) rfl rfl hl.1 rfl (by exact lv_room (Nat.le_of_ble_eq_true rfl)) dX3_gather_84 ⟨Nat.le_refl _, Nat.le_refl _⟩) hP hD hS hA (by decide +kernel) (by rfl) (by rfl) rfl (fun H locs hP hD hS => ?_)
      have hP : va_P G vwCl (wm_X3_gather cA h0 h0_numbers h0_words s0__all s0__v s0__loss s0__result s0__over (c0__heldAll + ((s0_numbers ((2:Int32) + y1).toNatClampNeg) * (s0_words y1.toNatClampNeg))) c0__heldRounded s0_numbers s0_words) H := hP
      have hD : va_D A (wm_X3_gather cA h0 h0_numbers h0_words s0__all s0__v s0__loss s0__result s0__over (c0__heldAll + ((s0_numbers ((2:Int32) + y1).toNatClampNeg) * (s0_words y1.toNatClampNeg))) c0__heldRounded s0_numbers s0_words) := hD
      refine lv_iadd hx hb dX3_gather_87 ?_
      refine va_put (D := G) (ci := 3) (v := .int (c0__heldRounded + r1)) (ty := .int) (C := RX3) (T := TX3) (N := 9) hx hb hts hinX3 tyX3 tyX3_ok nmX3 hown hK hP hD hS 0 rfl rfl 8 (by decide) (hts _ (List.mem_of_getElem? (i := 2) rfl)) (fun _ h9 => h9) rfl (by decide +kernel) rfl rfl (Nat.le_of_ble_eq_true rfl) dX3_gather_88 (fun H locs hP hD hS => ?_)
      have hP : va_P G vwCl (wm_X3_gather cA h0 h0_numbers h0_words s0__all s0__v s0__loss s0__result s0__over (c0__heldAll + ((s0_numbers ((2:Int32) + y1).toNatClampNeg) * (s0_words y1.toNatClampNeg))) (c0__heldRounded + r1) s0_numbers s0_words) H := hP
      have hD : va_D A (wm_X3_gather cA h0 h0_numbers h0_words s0__all s0__v s0__loss s0__result s0__over (c0__heldAll + ((s0_numbers ((2:Int32) + y1).toNatClampNeg) * (s0_words y1.toNatClampNeg))) (c0__heldRounded + r1) s0_numbers s0_words) := hD
      refine lv_iinc (v := (y1 + 1)) (lv' := [(1, .int (y1 + 1)), (2, .int ((s0_numbers ((2:Int32) + y1).toNatClampNeg) * (s0_words y1.toNatClampNeg))), (0, .ref h0)]) hx hb dX3_gather_91 hl (k := 2) rfl rfl (by decide) rfl (fun ls hl => ?_)
      refine lv_goto (tgt := 12) hx hb dX3_gather_94 (by decide) ?_
      exact ih (y1 + 1) (c0__heldAll + ((s0_numbers ((2:Int32) + y1).toNatClampNeg) * (s0_words y1.toNatClampNeg))) (c0__heldRounded + r1) p0_0 p0_1 _ _ _ hP hD hS (lv_sub hl [2, 0] rfl) hok K
  unfold fX3_gather at hok
  refine lv_aload_n hx hb dX3_gather_0 rfl (lv_at hl 0 rfl) ?_
  refine lv_iconst (v := 0) hx hb dX3_gather_1 (by decide) ?_
  refine va_put (D := G) (ci := 3) (v := .int (0:Int32)) (ty := .int) (C := RX3) (T := TX3) (N := 9) hx hb hts hinX3 tyX3 tyX3_ok nmX3 hown hK hP hD hS 0 rfl rfl 7 (by decide) (hts _ (List.mem_of_getElem? (i := 1) rfl)) (fun _ h9 => h9) rfl (by decide +kernel) rfl rfl (Nat.le_of_ble_eq_true rfl) dX3_gather_2 (fun H locs hP hD hS => ?_)
  have hP : va_P G vwCl (wm_X3_gather cA h0 h0_numbers h0_words s0__all s0__v s0__loss s0__result s0__over (0:Int32) s0__heldRounded s0_numbers s0_words) H := hP
  have hD : va_D A (wm_X3_gather cA h0 h0_numbers h0_words s0__all s0__v s0__loss s0__result s0__over (0:Int32) s0__heldRounded s0_numbers s0_words) := hD
  refine lv_aload_n hx hb dX3_gather_5 rfl (lv_at hl 0 rfl) ?_
  refine lv_iconst (v := 0) hx hb dX3_gather_6 (by decide) ?_
  refine va_put (D := G) (ci := 3) (v := .int (0:Int32)) (ty := .int) (C := RX3) (T := TX3) (N := 9) hx hb hts hinX3 tyX3 tyX3_ok nmX3 hown hK hP hD hS 0 rfl rfl 8 (by decide) (hts _ (List.mem_of_getElem? (i := 2) rfl)) (fun _ h9 => h9) rfl (by decide +kernel) rfl rfl (Nat.le_of_ble_eq_true rfl) dX3_gather_7 (fun H locs hP hD hS => ?_)
  have hP : va_P G vwCl (wm_X3_gather cA h0 h0_numbers h0_words s0__all s0__v s0__loss s0__result s0__over (0:Int32) (0:Int32) s0_numbers s0_words) H := hP
  have hD : va_D A (wm_X3_gather cA h0 h0_numbers h0_words s0__all s0__v s0__loss s0__result s0__over (0:Int32) (0:Int32) s0_numbers s0_words) := hD
  refine lv_iconst (v := 0) hx hb dX3_gather_10 (by decide) ?_
  refine lv_istore_n (lv' := [(1, .int (0:Int32)), (0, .ref h0)]) hx hb dX3_gather_11 rfl hl (by decide) rfl (fun ls hl => ?_)
  obtain ⟨o2, o3, hq, hok⟩ := g_bnd2 hok
  refine L_12 FUEL (0:Int32) (0:Int32) (0:Int32) o2 o3 _ _ _ hP hD hS (lv_sub hl [1, 0] rfl) hq (fun H locs ls hP hD hS hl => ?_)
  cases hok
  exact cr_v hx hb hr hlocks hQ dX3_gather_97 hP hS
set_option maxHeartbeats 40000000 in
set_option maxRecDepth 100000 in
theorem c_X3_unit (l : Launch) (G : va_G) (cA : Nat → ClassId) (ts : Nat → Nat) (h0 : Nat) (h0_numbers : Nat) (h0_words : Nat) (s0__all : Int32) (s0__v : Int32) (s0__loss : Int32) (s0__result : Int32) (s0__over : Int32) (s0__heldAll : Int32) (s0__heldRounded : Int32) (s0_numbers : Nat → Int32) (r : Int32) (hok : fX3_unit s0_numbers = some r) : Ct l G cA ts yX3_unit wsX3_unit 1 40 [.ref h0] (wm_X3_unit cA h0 h0_numbers h0_words s0__all s0__v s0__loss s0__result s0__over s0__heldAll s0__heldRounded s0_numbers) (wm_X3_unit cA h0 h0_numbers h0_words s0__all s0__v s0__loss s0__result s0__over s0__heldAll s0__heldRounded s0_numbers) (some (.int r)) := by
  refine Ct.intro (cc := cX3_unit) (maxL := 1) (ret := some .int) (by decide +kernel) rfl (Nat.le_of_ble_eq_true rfl) ?_
  intro p e s m ar below meth c A Q hx hb hr hml hown hlocks hts hK hZ hA hQ hP hD hS ls hl
  have hown : s.vm.findClass RX3 = some m.cls := hown
  have hinX3 : ∀ w ∈ wsX30, w ∈ wsX3_unit := fun _ h => List.mem_cons_of_mem _ (List.mem_append_right _ (h))
  have hl : lv_has ls 1 [(0, .ref h0)] := hl
  have hP : va_P G vwCl (wm_X3_unit cA h0 h0_numbers h0_words s0__all s0__v s0__loss s0__result s0__over s0__heldAll s0__heldRounded s0_numbers) s.heap := hP
  have hD : va_D A (wm_X3_unit cA h0 h0_numbers h0_words s0__all s0__v s0__loss s0__result s0__over s0__heldAll s0__heldRounded s0_numbers) := hD
  unfold fX3_unit at hok
  refine lv_iconst (v := 1) hx hb dX3_unit_0 (by decide) ?_
  refine lv_aload_n hx hb dX3_unit_1 rfl (lv_at hl 0 rfl) ?_
  refine va_get (ci := 3) (v := .ref h0_numbers) (C := RX3) (T := TX3) (N := 9) hx hb hts hinX3 hown hK hP 0 rfl rfl 0 (by decide) (hts _ (List.mem_of_getElem? (i := 1) rfl)) (fun _ h9 => h9) rfl dX3_unit_2 ?_
  refine lv_bipush (v := 6) hx hb dX3_unit_5 (by decide) ?_
  refine x_iald (k := 6) hx hb hK hP 1 0 rfl rfl (show ¬ ((6:Int32) < 0 ∨ 10 ≤ (6:Int32).toNatClampNeg) by decide) (by decide) dX3_unit_7 ?_
  refine lv_ishl hx hb dX3_unit_8 ?_
  cases hok
  exact cr_i hx hb hr hlocks hQ dX3_unit_9 hP hS
set_option maxHeartbeats 40000000 in
set_option maxRecDepth 100000 in
theorem c_X3_half (l : Launch) (G : va_G) (cA : Nat → ClassId) (ts : Nat → Nat) (h0 : Nat) (h0_numbers : Nat) (h0_words : Nat) (s0__all : Int32) (s0__v : Int32) (s0__loss : Int32) (s0__result : Int32) (s0__over : Int32) (s0__heldAll : Int32) (s0__heldRounded : Int32) (s0_numbers : Nat → Int32) (r : Int32) (hok : fX3_half s0_numbers = some r) : Ct l G cA ts yX3_half wsX3_half 1 40 [.ref h0] (wm_X3_unit cA h0 h0_numbers h0_words s0__all s0__v s0__loss s0__result s0__over s0__heldAll s0__heldRounded s0_numbers) (wm_X3_unit cA h0 h0_numbers h0_words s0__all s0__v s0__loss s0__result s0__over s0__heldAll s0__heldRounded s0_numbers) (some (.int r)) := by
  refine Ct.intro (cc := cX3_half) (maxL := 1) (ret := some .int) (by decide +kernel) rfl (Nat.le_of_ble_eq_true rfl) ?_
  intro p e s m ar below meth c A Q hx hb hr hml hown hlocks hts hK hZ hA hQ hP hD hS ls hl
  have hown : s.vm.findClass RX3 = some m.cls := hown
  have hinX3 : ∀ w ∈ wsX30, w ∈ wsX3_half := fun _ h => List.mem_cons_of_mem _ (List.mem_append_right _ (h))
  have hl : lv_has ls 1 [(0, .ref h0)] := hl
  have hP : va_P G vwCl (wm_X3_unit cA h0 h0_numbers h0_words s0__all s0__v s0__loss s0__result s0__over s0__heldAll s0__heldRounded s0_numbers) s.heap := hP
  have hD : va_D A (wm_X3_unit cA h0 h0_numbers h0_words s0__all s0__v s0__loss s0__result s0__over s0__heldAll s0__heldRounded s0_numbers) := hD
  unfold fX3_half at hok
  refine lv_iconst (v := 1) hx hb dX3_half_0 (by decide) ?_
  refine lv_aload_n hx hb dX3_half_1 rfl (lv_at hl 0 rfl) ?_
  refine va_get (ci := 3) (v := .ref h0_numbers) (C := RX3) (T := TX3) (N := 9) hx hb hts hinX3 hown hK hP 0 rfl rfl 0 (by decide) (hts _ (List.mem_of_getElem? (i := 1) rfl)) (fun _ h9 => h9) rfl dX3_half_2 ?_
  refine lv_iconst (v := 1) hx hb dX3_half_5 (by decide) ?_
  refine x_iald (k := 1) hx hb hK hP 1 0 rfl rfl (show ¬ ((1:Int32) < 0 ∨ 10 ≤ (1:Int32).toNatClampNeg) by decide) (by decide) dX3_half_6 ?_
  refine lv_iconst (v := 1) hx hb dX3_half_7 (by decide) ?_
  refine lv_isub hx hb dX3_half_8 ?_
  refine lv_ishl hx hb dX3_half_9 ?_
  cases hok
  exact cr_i hx hb hr hlocks hQ dX3_half_10 hP hS
set_option maxHeartbeats 40000000 in
set_option maxRecDepth 100000 in
theorem c_X3_holds (l : Launch) (G : va_G) (cA : Nat → ClassId) (ts : Nat → Nat) (h0 : Nat) (h0_numbers : Nat) (h0_words : Nat) (x1 : Int32) (s0__all : Int32) (s0__v : Int32) (s0__loss : Int32) (s0__result : Int32) (s0__over : Int32) (s0__heldAll : Int32) (s0__heldRounded : Int32) (s0_numbers : Nat → Int32) (r : Int32) (hok : fX3_holds x1 s0_numbers = some r) : Ct l G cA ts yX3_holds wsX3_holds 2 60 [.ref h0, .int x1] (wm_X3_unit cA h0 h0_numbers h0_words s0__all s0__v s0__loss s0__result s0__over s0__heldAll s0__heldRounded s0_numbers) (wm_X3_unit cA h0 h0_numbers h0_words s0__all s0__v s0__loss s0__result s0__over s0__heldAll s0__heldRounded s0_numbers) (some (.int r)) := by
  refine Ct.intro (cc := cX3_holds) (maxL := 2) (ret := some .boolean) (by decide +kernel) rfl (Nat.le_of_ble_eq_true rfl) ?_
  intro p e s m ar below meth c A Q hx hb hr hml hown hlocks hts hK hZ hA hQ hP hD hS ls hl
  have hown : s.vm.findClass RX3 = some m.cls := hown
  have hl : lv_has ls 2 [(0, .ref h0), (1, .int x1)] := hl
  have hP : va_P G vwCl (wm_X3_unit cA h0 h0_numbers h0_words s0__all s0__v s0__loss s0__result s0__over s0__heldAll s0__heldRounded s0_numbers) s.heap := hP
  have hD : va_D A (wm_X3_unit cA h0 h0_numbers h0_words s0__all s0__v s0__loss s0__result s0__over s0__heldAll s0__heldRounded s0_numbers) := hD
  unfold fX3_holds at hok
  refine lv_iload_n hx hb dX3_holds_0 rfl (lv_at hl 1 rfl) ?_
  refine lv_aload_n hx hb dX3_holds_1 rfl (lv_at hl 0 rfl) ?_
  obtain ⟨r1, hq, hok⟩ := g_bnd1 hok
  refine cG (is := [0, 1]) (wc := (wm_X3_unit cA h0 h0_numbers h0_words s0__all s0__v s0__loss s0__result s0__over s0__heldAll s0__heldRounded s0_numbers)) (w1 := (wm_X3_unit cA h0 h0_numbers h0_words s0__all s0__v s0__loss s0__result s0__over s0__heldAll s0__heldRounded s0_numbers)) (rv := (some (.int r1))) (st1 := [.int r1, .int x1]) (va_runV (Ts := wsX3_holds) (As := []) (rest := [.int x1]) ⟨hx, hb, hml, hown, hts⟩ (c_X3_half l G cA ts h0 h0_numbers h0_words s0__all s0__v s0__loss s0__result s0__over s0__heldAll s0__heldRounded s0_numbers r1 hq s.heap.size) (cwV 0 hts gX3_holds_X3_half rfl rfl rfl (by decide +kernel) ⟨Nat.le_of_ble_eq_true rfl, Nat.le_of_ble_eq_true rfl⟩) (pre_V (ci := 3) (q0 := 0) (is := [0, 1]) rfl rfl hP hD hS hA hK hZ (by decide +kernel) (by rfl)) rfl rfl hl.1 rfl (by exact lv_room (Nat.le_of_ble_eq_true rfl)) dX3_holds_2 ⟨Nat.le_refl _, Nat.le_refl _⟩) hP hD hS hA (by decide +kernel) (by rfl) (by rfl) rfl (fun H locs hP hD hS => ?_)
  have hP : va_P G vwCl (wm_X3_unit cA h0 h0_numbers h0_words s0__all s0__v s0__loss s0__result s0__over s0__heldAll s0__heldRounded s0_numbers) H := hP
  have hD : va_D A (wm_X3_unit cA h0 h0_numbers h0_words s0__all s0__v s0__loss s0__result s0__over s0__heldAll s0__heldRounded s0_numbers) := hD
  refine lv_ineg hx hb dX3_holds_5 ?_
  refine lv_icmp_lt (tgt := 21) hx hb dX3_holds_6 (by decide) (fun c => ?_) (fun c => ?_)
  · replace hok := g_pos hok c
    refine lv_iconst (v := 0) hx hb dX3_holds_21 (by decide) ?_
    cases hok
    exact cr_z (ty := .boolean) (by decide +kernel) hx hb hr hlocks hQ dX3_holds_22 hP hS
  replace hok := g_neg hok c
  refine lv_iload_n hx hb dX3_holds_9 rfl (lv_at hl 1 rfl) ?_
  refine lv_aload_n hx hb dX3_holds_10 rfl (lv_at hl 0 rfl) ?_
  obtain ⟨r2, hq, hok⟩ := g_bnd1 hok
  refine cG (is := [0, 1]) (wc := (wm_X3_unit cA h0 h0_numbers h0_words s0__all s0__v s0__loss s0__result s0__over s0__heldAll s0__heldRounded s0_numbers)) (w1 := (wm_X3_unit cA h0 h0_numbers h0_words s0__all s0__v s0__loss s0__result s0__over s0__heldAll s0__heldRounded s0_numbers)) (rv := (some (.int r2))) (st1 := [.int r2, .int x1]) (va_runV (Ts := wsX3_holds) (As := []) (rest := [.int x1]) ⟨hx, hb, hml, hown, hts⟩ (c_X3_half l G cA ts h0 h0_numbers h0_words s0__all s0__v s0__loss s0__result s0__over s0__heldAll s0__heldRounded s0_numbers r2 hq H.size) (cwV 0 hts gX3_holds_X3_half rfl rfl rfl (by decide +kernel) ⟨Nat.le_of_ble_eq_true rfl, Nat.le_of_ble_eq_true rfl⟩) (pre_V (ci := 3) (q0 := 0) (is := [0, 1]) rfl rfl hP hD hS hA hK hZ (by decide +kernel) (by rfl)) rfl rfl hl.1 rfl (by exact lv_room (Nat.le_of_ble_eq_true rfl)) dX3_holds_11 ⟨Nat.le_refl _, Nat.le_refl _⟩) hP hD hS hA (by decide +kernel) (by rfl) (by rfl) rfl (fun H locs hP hD hS => ?_)
  have hP : va_P G vwCl (wm_X3_unit cA h0 h0_numbers h0_words s0__all s0__v s0__loss s0__result s0__over s0__heldAll s0__heldRounded s0_numbers) H := hP
  have hD : va_D A (wm_X3_unit cA h0 h0_numbers h0_words s0__all s0__v s0__loss s0__result s0__over s0__heldAll s0__heldRounded s0_numbers) := hD
  refine lv_icmp_ge (tgt := 21) hx hb dX3_holds_14 (by decide) (fun c => ?_) (fun c => ?_)
  · replace hok := g_pos hok c
    refine lv_iconst (v := 0) hx hb dX3_holds_21 (by decide) ?_
    cases hok
    exact cr_z (ty := .boolean) (by decide +kernel) hx hb hr hlocks hQ dX3_holds_22 hP hS
  replace hok := g_neg hok c
  refine lv_iconst (v := 1) hx hb dX3_holds_17 (by decide) ?_
  refine lv_goto (tgt := 22) hx hb dX3_holds_18 (by decide) ?_
  cases hok
  exact cr_z (ty := .boolean) (by decide +kernel) hx hb hr hlocks hQ dX3_holds_22 hP hS
set_option maxHeartbeats 40000000 in
set_option maxRecDepth 100000 in
theorem c_X3_toWord (l : Launch) (G : va_G) (cA : Nat → ClassId) (ts : Nat → Nat) (h0 : Nat) (h0_numbers : Nat) (h0_words : Nat) (x1 : Int32) (x2 : Int32) (s0__all : Int32) (s0__v : Int32) (s0__loss : Int32) (s0__result : Int32) (s0__over : Int32) (s0__heldAll : Int32) (s0__heldRounded : Int32) (s0_numbers : Nat → Int32) (s0_words : Nat → Int32) (r : Int32) (hok : fX3_toWord x1 x2 s0_numbers s0_words = some r) : Ct l G cA ts yX3_toWord wsX3_toWord 2 60 [.ref h0, .int x1, .int x2] (wm_X3_gather cA h0 h0_numbers h0_words s0__all s0__v s0__loss s0__result s0__over s0__heldAll s0__heldRounded s0_numbers s0_words) (wm_X3_gather cA h0 h0_numbers h0_words s0__all s0__v s0__loss s0__result s0__over s0__heldAll s0__heldRounded s0_numbers s0_words) (some (.int r)) := by
  refine Ct.intro (cc := cX3_toWord) (maxL := 4) (ret := some .int) (by decide +kernel) rfl (Nat.le_of_ble_eq_true rfl) ?_
  intro p e s m ar below meth c A Q hx hb hr hml hown hlocks hts hK hZ hA hQ hP hD hS ls hl
  have hown : s.vm.findClass RX3 = some m.cls := hown
  have hinX3 : ∀ w ∈ wsX30, w ∈ wsX3_toWord := fun _ h => List.mem_cons_of_mem _ (List.mem_append_right _ (h))
  have hl : lv_has ls 4 [(0, .ref h0), (1, .int x1), (2, .int x2)] := hl
  have hP : va_P G vwCl (wm_X3_gather cA h0 h0_numbers h0_words s0__all s0__v s0__loss s0__result s0__over s0__heldAll s0__heldRounded s0_numbers s0_words) s.heap := hP
  have hD : va_D A (wm_X3_gather cA h0 h0_numbers h0_words s0__all s0__v s0__loss s0__result s0__over s0__heldAll s0__heldRounded s0_numbers s0_words) := hD
  have J_18 : ∀ (y3 : Int32) (H : Heap) (locs : List Loc) (ls : Array Slot), va_P G vwCl (wm_X3_gather cA h0 h0_numbers h0_words s0__all s0__v s0__loss s0__result s0__over s0__heldAll s0__heldRounded s0_numbers s0_words) H → va_D A (wm_X3_gather cA h0 h0_numbers h0_words s0__all s0__v s0__loss s0__result s0__over s0__heldAll s0__heldRounded s0_numbers s0_words) → va_S A s.heap H locs → lv_has ls 4 [(0, .ref h0), (1, .int x1), (2, .int x2), (3, .int y3)] → fX3_toWord_j18 x1 x2 s0_numbers s0_words y3 = some r → W p l e (rmX 2 60) s m ar below meth c H locs 0 0 Q (F0 m 18 ls []) := by
    intro y3 H locs ls hP hD hS hl hok
    unfold fX3_toWord_j18 at hok
    refine lv_iload_n hx hb dX3_toWord_18 rfl (lv_at hl 1 rfl) ?_
    by_cases c0 : x1 = 1
    · replace hok := g_pos hok c0
      have e9 : (x1).toInt = 1 := by rw [c0]; rfl
      refine lv_tableIn (tgt := 48) (off := 29) hx hb dX3_toWord_19 (by rw [e9]; decide) (by rw [e9]; decide) (by rw [e9]; rfl) (by decide) ?_
      refine lv_iload_n hx hb dX3_toWord_48 rfl (lv_at hl 2 rfl) ?_
      refine lv_if_ge (tgt := 57) hx hb dX3_toWord_49 (by decide) (fun c => ?_) (fun c => ?_)
      · replace hok := g_pos hok c
        refine lv_iload_n hx hb dX3_toWord_57 rfl (lv_at hl 3 rfl) ?_
        refine lv_iconst (v := 1) hx hb dX3_toWord_58 (by decide) ?_
        refine lv_isub hx hb dX3_toWord_59 ?_
        cases hok
        exact cr_i hx hb hr hlocks hQ dX3_toWord_60 hP hS
      replace hok := g_neg hok c
      refine lv_iload_n hx hb dX3_toWord_52 rfl (lv_at hl 3 rfl) ?_
      refine lv_ineg hx hb dX3_toWord_53 ?_
      refine lv_goto (tgt := 60) hx hb dX3_toWord_54 (by decide) ?_
      cases hok
      exact cr_i hx hb hr hlocks hQ dX3_toWord_60 hP hS
    replace hok := g_neg hok c0
    by_cases c1 : x1 = 2
    · replace hok := g_pos hok c1
      have e9 : (x1).toInt = 2 := by rw [c1]; rfl
      refine lv_tableIn (tgt := 61) (off := 42) hx hb dX3_toWord_19 (by rw [e9]; decide) (by rw [e9]; decide) (by rw [e9]; rfl) (by decide) ?_
      refine lv_iconst (v := 0) hx hb dX3_toWord_61 (by decide) ?_
      cases hok
      exact cr_i hx hb hr hlocks hQ dX3_toWord_62 hP hS
    replace hok := g_neg hok c1
    by_cases c2 : x1 = 3
    · replace hok := g_pos hok c2
      have e9 : (x1).toInt = 3 := by rw [c2]; rfl
      refine lv_tableIn (tgt := 63) (off := 44) hx hb dX3_toWord_19 (by rw [e9]; decide) (by rw [e9]; decide) (by rw [e9]; rfl) (by decide) ?_
      refine lv_aload_n hx hb dX3_toWord_63 rfl (lv_at hl 0 rfl) ?_
      refine va_get (ci := 3) (v := .ref h0_words) (C := RX3) (T := TX3) (N := 9) hx hb hts hinX3 hown hK hP 0 rfl rfl 1 (by decide) (hts _ (List.mem_of_getElem? (i := 1) rfl)) (fun _ h9 => h9) rfl dX3_toWord_64 ?_
      refine lv_iconst (v := 0) hx hb dX3_toWord_67 (by decide) ?_
      refine x_iald (k := 0) hx hb hK hP 2 0 rfl rfl (show ¬ ((0:Int32) < 0 ∨ 3 ≤ (0:Int32).toNatClampNeg) by decide) (by decide) dX3_toWord_68 ?_
      cases hok
      exact cr_i hx hb hr hlocks hQ dX3_toWord_69 hP hS
    replace hok := g_neg hok c2
    by_cases c3 : x1 = 4
    · replace hok := g_pos hok c3
      have e9 : (x1).toInt = 4 := by rw [c3]; rfl
      refine lv_tableIn (tgt := 70) (off := 51) hx hb dX3_toWord_19 (by rw [e9]; decide) (by rw [e9]; decide) (by rw [e9]; rfl) (by decide) ?_
      refine lv_sipush (v := -1005) hx hb dX3_toWord_70 (by decide) ?_
      cases hok
      exact cr_i hx hb hr hlocks hQ dX3_toWord_73 hP hS
    replace hok := g_neg hok c3
    refine lv_tableOut (tgt := 74) hx hb dX3_toWord_19 (by have b0 := lv_neT (a := 1) c0 rfl; have b1 := lv_neT (a := 2) c1 rfl; have b2 := lv_neT (a := 3) c2 rfl; have b3 := lv_neT (a := 4) c3 rfl; omega) (by decide) ?_
    refine lv_iload_n hx hb dX3_toWord_74 rfl (lv_at hl 2 rfl) ?_
    refine lv_iload_n hx hb dX3_toWord_75 rfl (lv_at hl 3 rfl) ?_
    refine lv_iadd hx hb dX3_toWord_76 ?_
    refine lv_iconst (v := 2) hx hb dX3_toWord_77 (by decide) ?_
    refine lv_iload_n hx hb dX3_toWord_78 rfl (lv_at hl 3 rfl) ?_
    refine lv_imul hx hb dX3_toWord_79 ?_
    refine lv_iconst (v := 1) hx hb dX3_toWord_80 (by decide) ?_
    refine lv_isub hx hb dX3_toWord_81 ?_
    refine lv_iand hx hb dX3_toWord_82 ?_
    refine lv_iload_n hx hb dX3_toWord_83 rfl (lv_at hl 3 rfl) ?_
    refine lv_isub hx hb dX3_toWord_84 ?_
    cases hok
    exact cr_i hx hb hr hlocks hQ dX3_toWord_85 hP hS
  unfold fX3_toWord at hok
  refine lv_aload_n hx hb dX3_toWord_0 rfl (lv_at hl 0 rfl) ?_
  obtain ⟨r1, hq, hok⟩ := g_bnd1 hok
  refine cG (is := [0, 1]) (wc := (wm_X3_unit cA h0 h0_numbers h0_words s0__all s0__v s0__loss s0__result s0__over s0__heldAll s0__heldRounded s0_numbers)) (w1 := (wm_X3_unit cA h0 h0_numbers h0_words s0__all s0__v s0__loss s0__result s0__over s0__heldAll s0__heldRounded s0_numbers)) (rv := (some (.int r1))) (st1 := [.int r1]) (va_runV (Ts := wsX3_toWord) (As := []) (rest := []) ⟨hx, hb, hml, hown, hts⟩ (c_X3_half l G cA ts h0 h0_numbers h0_words s0__all s0__v s0__loss s0__result s0__over s0__heldAll s0__heldRounded s0_numbers r1 hq s.heap.size) (cwV 0 hts gX3_toWord_X3_half rfl rfl rfl (by decide +kernel) ⟨Nat.le_of_ble_eq_true rfl, Nat.le_of_ble_eq_true rfl⟩) (pre_V (ci := 3) (q0 := 0) (is := [0, 1]) rfl rfl hP hD hS hA hK hZ (by decide +kernel) (by rfl)) rfl rfl hl.1 rfl (by exact lv_room (Nat.le_of_ble_eq_true rfl)) dX3_toWord_1 ⟨Nat.le_refl _, Nat.le_refl _⟩) hP hD hS hA (by decide +kernel) (by rfl) (by rfl) rfl (fun H locs hP hD hS => ?_)
  have hP : va_P G vwCl (wm_X3_gather cA h0 h0_numbers h0_words s0__all s0__v s0__loss s0__result s0__over s0__heldAll s0__heldRounded s0_numbers s0_words) H := hP
  have hD : va_D A (wm_X3_gather cA h0 h0_numbers h0_words s0__all s0__v s0__loss s0__result s0__over s0__heldAll s0__heldRounded s0_numbers s0_words) := hD
  refine lv_istore_n (lv' := [(3, .int r1), (0, .ref h0), (1, .int x1), (2, .int x2)]) hx hb dX3_toWord_4 rfl hl (by decide) rfl (fun ls hl => ?_)
  refine lv_iload_n hx hb dX3_toWord_5 rfl (lv_at hl 3 rfl) ?_
  refine lv_iload_n hx hb dX3_toWord_6 rfl (lv_at hl 0 rfl) ?_
  refine lv_ineg hx hb dX3_toWord_7 ?_
  refine lv_icmp_lt (tgt := 18) hx hb dX3_toWord_8 (by decide) (fun c => ?_) (fun c => ?_)
  · replace hok := g_pos hok c
    exact J_18 r1 _ _ _ hP hD hS (lv_sub hl [1, 2, 3, 0] rfl) hok
  replace hok := g_neg hok c
  refine lv_iload_n hx hb dX3_toWord_11 rfl (lv_at hl 3 rfl) ?_
  refine lv_iload_n hx hb dX3_toWord_12 rfl (lv_at hl 0 rfl) ?_
  refine lv_icmp_ge (tgt := 18) hx hb dX3_toWord_13 (by decide) (fun c => ?_) (fun c => ?_)
  · replace hok := g_pos hok c
    exact J_18 r1 _ _ _ hP hD hS (lv_sub hl [1, 2, 3, 0] rfl) hok
  replace hok := g_neg hok c
  refine lv_iload_n hx hb dX3_toWord_16 rfl (lv_at hl 3 rfl) ?_
  cases hok
  exact cr_i hx hb hr hlocks hQ dX3_toWord_17 hP hS
set_option maxHeartbeats 40000000 in
set_option maxRecDepth 100000 in
theorem c_X3_weighGathered (l : Launch) (G : va_G) (cA : Nat → ClassId) (ts : Nat → Nat) (h0 : Nat) (h0_numbers : Nat) (h0_words : Nat) (x1 : Int32) (s0__all : Int32) (s0__v : Int32) (s0__loss : Int32) (s0__result : Int32) (s0__over : Int32) (s0__heldAll : Int32) (s0__heldRounded : Int32) (s0_numbers : Nat → Int32) (s0_words : Nat → Int32) (o0__all : Int32) (o0__v : Int32) (o0__loss : Int32) (o0__result : Int32) (o0__over : Int32) (hok : fX3_weighGathered x1 s0__all s0__v s0__loss s0__result s0__over s0__heldAll s0__heldRounded s0_numbers s0_words = some (o0__all, o0__v, o0__loss, o0__result, o0__over)) : Ct l G cA ts yX3_weighGathered wsX3_weighGathered 3 83 [.ref h0, .int x1] (wm_X3_gather cA h0 h0_numbers h0_words s0__all s0__v s0__loss s0__result s0__over s0__heldAll s0__heldRounded s0_numbers s0_words) (wm_X3_gather cA h0 h0_numbers h0_words o0__all o0__v o0__loss o0__result o0__over s0__heldAll s0__heldRounded s0_numbers s0_words) none := by
  refine Ct.intro (cc := cX3_weighGathered) (maxL := 3) (ret := none) (by decide +kernel) rfl (Nat.le_of_ble_eq_true rfl) ?_
  intro p e s m ar below meth c A Q hx hb hr hml hown hlocks hts hK hZ hA hQ hP hD hS ls hl
  have hown : s.vm.findClass RX3 = some m.cls := hown
  have hinX3 : ∀ w ∈ wsX30, w ∈ wsX3_weighGathered := fun _ h => List.mem_cons_of_mem _ (List.mem_append_right _ (h))
  have hl : lv_has ls 3 [(0, .ref h0), (1, .int x1)] := hl
  have hP : va_P G vwCl (wm_X3_gather cA h0 h0_numbers h0_words s0__all s0__v s0__loss s0__result s0__over s0__heldAll s0__heldRounded s0_numbers s0_words) s.heap := hP
  have hD : va_D A (wm_X3_gather cA h0 h0_numbers h0_words s0__all s0__v s0__loss s0__result s0__over s0__heldAll s0__heldRounded s0_numbers s0_words) := hD
  have J_120 : ∀ (z1 : Int32) (c0__all : Int32) (c0__v : Int32) (c0__loss : Int32) (c0__result : Int32) (c0__over : Int32) (H : Heap) (locs : List Loc) (ls : Array Slot), va_P G vwCl (wm_X3_gather cA h0 h0_numbers h0_words c0__all c0__v c0__loss c0__result c0__over s0__heldAll s0__heldRounded s0_numbers s0_words) H → va_D A (wm_X3_gather cA h0 h0_numbers h0_words c0__all c0__v c0__loss c0__result c0__over s0__heldAll s0__heldRounded s0_numbers s0_words) → va_S A s.heap H locs → lv_has ls 3 [(0, .ref h0)] → fX3_weighGathered_j120 x1 s0__heldAll s0__heldRounded s0_numbers s0_words z1 c0__all c0__v c0__loss c0__result c0__over = some (o0__all, o0__v, o0__loss, o0__result, o0__over) → W p l e (rmX 3 83) s m ar below meth c H locs 0 0 Q (F0 m 120 ls [.int z1, .ref h0]) := by
    intro z1 c0__all c0__v c0__loss c0__result c0__over H locs ls hP hD hS hl hok
    unfold fX3_weighGathered_j120 at hok
    obtain ⟨hin, hok⟩ := g_no hok
    refine va_put (D := G) (ci := 3) (v := .int z1) (ty := .boolean) (C := RX3) (T := TX3) (N := 9) hx hb hts hinX3 tyX3 tyX3_ok nmX3 hown hK hP hD hS 0 rfl rfl 6 (by decide) (hts _ (List.mem_of_getElem? (i := 7) rfl)) (fun _ h9 => h9) rfl (by decide +kernel) (nar_z hin) (fit_z hin) (Nat.le_of_ble_eq_true rfl) dX3_weighGathered_120 (fun H locs hP hD hS => ?_)
    have hP : va_P G vwCl (wm_X3_gather cA h0 h0_numbers h0_words c0__all c0__v c0__loss c0__result z1 s0__heldAll s0__heldRounded s0_numbers s0_words) H := hP
    have hD : va_D A (wm_X3_gather cA h0 h0_numbers h0_words c0__all c0__v c0__loss c0__result z1 s0__heldAll s0__heldRounded s0_numbers s0_words) := hD
    refine lv_aload_n hx hb dX3_weighGathered_123 rfl (lv_at hl 0 rfl) ?_
    refine lv_aload_n hx hb dX3_weighGathered_124 rfl (lv_at hl 0 rfl) ?_
    refine lv_aload_n hx hb dX3_weighGathered_125 rfl (lv_at hl 0 rfl) ?_
    refine va_get (ci := 3) (v := .ref h0_numbers) (C := RX3) (T := TX3) (N := 9) hx hb hts hinX3 hown hK hP 0 rfl rfl 0 (by decide) (hts _ (List.mem_of_getElem? (i := 1) rfl)) (fun _ h9 => h9) rfl dX3_weighGathered_126 ?_
    refine lv_bipush (v := 8) hx hb dX3_weighGathered_129 (by decide) ?_
    refine x_iald (k := 8) hx hb hK hP 1 0 rfl rfl (show ¬ ((8:Int32) < 0 ∨ 10 ≤ (8:Int32).toNatClampNeg) by decide) (by decide) dX3_weighGathered_131 ?_
    refine lv_aload_n hx hb dX3_weighGathered_132 rfl (lv_at hl 0 rfl) ?_
    refine va_get (ci := 3) (v := .int c0__v) (C := RX3) (T := TX3) (N := 9) hx hb hts hinX3 hown hK hP 0 rfl rfl 3 (by decide) (hts _ (List.mem_of_getElem? (i := 5) rfl)) (fun _ h9 => h9) rfl dX3_weighGathered_133 ?_
    obtain ⟨r4, hq, hok⟩ := g_bnd1 hok
    refine cG (is := [0, 1, 2]) (wc := (wm_X3_gather cA h0 h0_numbers h0_words c0__all c0__v c0__loss c0__result z1 s0__heldAll s0__heldRounded s0_numbers s0_words)) (w1 := (wm_X3_gather cA h0 h0_numbers h0_words c0__all c0__v c0__loss c0__result z1 s0__heldAll s0__heldRounded s0_numbers s0_words)) (rv := (some (.int r4))) (st1 := [.int r4, .ref h0]) (va_runV (Ts := wsX3_weighGathered) (As := [.int (s0_numbers 8), .int c0__v]) (rest := [.ref h0]) ⟨hx, hb, hml, hown, hts⟩ (c_X3_toWord l G cA ts h0 h0_numbers h0_words (s0_numbers 8) c0__v c0__all c0__v c0__loss c0__result z1 s0__heldAll s0__heldRounded s0_numbers s0_words r4 hq H.size) (cwV 2 hts gX3_weighGathered_X3_toWord rfl rfl rfl (by decide +kernel) ⟨Nat.le_of_ble_eq_true rfl, Nat.le_of_ble_eq_true rfl⟩) (pre_V (ci := 3) (q0 := 0) (is := [0, 1, 2]) rfl rfl hP hD hS hA hK hZ (by decide +kernel) (by rfl)) rfl rfl hl.1 rfl (by exact lv_room (Nat.le_of_ble_eq_true rfl)) dX3_weighGathered_136 ⟨Nat.le_refl _, Nat.le_refl _⟩) hP hD hS hA (by decide +kernel) (by rfl) (by rfl) rfl (fun H locs hP hD hS => ?_)
    have hP : va_P G vwCl (wm_X3_gather cA h0 h0_numbers h0_words c0__all c0__v c0__loss c0__result z1 s0__heldAll s0__heldRounded s0_numbers s0_words) H := hP
    have hD : va_D A (wm_X3_gather cA h0 h0_numbers h0_words c0__all c0__v c0__loss c0__result z1 s0__heldAll s0__heldRounded s0_numbers s0_words) := hD
    refine va_put (D := G) (ci := 3) (v := .int r4) (ty := .int) (C := RX3) (T := TX3) (N := 9) hx hb hts hinX3 tyX3 tyX3_ok nmX3 hown hK hP hD hS 0 rfl rfl 5 (by decide) (hts _ (List.mem_of_getElem? (i := 8) rfl)) (fun _ h9 => h9) rfl (by decide +kernel) rfl rfl (Nat.le_of_ble_eq_true rfl) dX3_weighGathered_139 (fun H locs hP hD hS => ?_)
    have hP : va_P G vwCl (wm_X3_gather cA h0 h0_numbers h0_words c0__all c0__v c0__loss r4 z1 s0__heldAll s0__heldRounded s0_numbers s0_words) H := hP
    have hD : va_D A (wm_X3_gather cA h0 h0_numbers h0_words c0__all c0__v c0__loss r4 z1 s0__heldAll s0__heldRounded s0_numbers s0_words) := hD
    cases hok
    exact cr_v hx hb hr hlocks hQ dX3_weighGathered_142 hP hS
  have J_85 : ∀ (c0__all : Int32) (c0__v : Int32) (c0__loss : Int32) (c0__result : Int32) (c0__over : Int32) (H : Heap) (locs : List Loc) (ls : Array Slot), va_P G vwCl (wm_X3_gather cA h0 h0_numbers h0_words c0__all c0__v c0__loss c0__result c0__over s0__heldAll s0__heldRounded s0_numbers s0_words) H → va_D A (wm_X3_gather cA h0 h0_numbers h0_words c0__all c0__v c0__loss c0__result c0__over s0__heldAll s0__heldRounded s0_numbers s0_words) → va_S A s.heap H locs → lv_has ls 3 [(0, .ref h0)] → fX3_weighGathered_j85 x1 s0__heldAll s0__heldRounded s0_numbers s0_words c0__all c0__v c0__loss c0__result c0__over = some (o0__all, o0__v, o0__loss, o0__result, o0__over) → W p l e (rmX 3 83) s m ar below meth c H locs 0 0 Q (F0 m 85 ls []) := by
    intro c0__all c0__v c0__loss c0__result c0__over H locs ls hP hD hS hl hok
    unfold fX3_weighGathered_j85 at hok
    refine lv_aload_n hx hb dX3_weighGathered_85 rfl (lv_at hl 0 rfl) ?_
    refine lv_aload_n hx hb dX3_weighGathered_86 rfl (lv_at hl 0 rfl) ?_
    refine va_get (ci := 3) (v := .int c0__v) (C := RX3) (T := TX3) (N := 9) hx hb hts hinX3 hown hK hP 0 rfl rfl 3 (by decide) (hts _ (List.mem_of_getElem? (i := 5) rfl)) (fun _ h9 => h9) rfl dX3_weighGathered_87 ?_
    refine lv_aload_n hx hb dX3_weighGathered_90 rfl (lv_at hl 0 rfl) ?_
    obtain ⟨r2, hq, hok⟩ := g_bnd1 hok
    refine cG (is := [0, 1]) (wc := (wm_X3_unit cA h0 h0_numbers h0_words c0__all c0__v c0__loss c0__result c0__over s0__heldAll s0__heldRounded s0_numbers)) (w1 := (wm_X3_unit cA h0 h0_numbers h0_words c0__all c0__v c0__loss c0__result c0__over s0__heldAll s0__heldRounded s0_numbers)) (rv := (some (.int r2))) (st1 := [.int r2, .int c0__v, .ref h0]) (va_runV (Ts := wsX3_weighGathered) (As := []) (rest := [.int c0__v, .ref h0]) ⟨hx, hb, hml, hown, hts⟩ (c_X3_unit l G cA ts h0 h0_numbers h0_words c0__all c0__v c0__loss c0__result c0__over s0__heldAll s0__heldRounded s0_numbers r2 hq H.size) (cwV 0 hts gX3_weighGathered_X3_unit rfl rfl rfl (by decide +kernel) ⟨Nat.le_of_ble_eq_true rfl, Nat.le_of_ble_eq_true rfl⟩) (pre_V (ci := 3) (q0 := 0) (is := [0, 1]) rfl rfl hP hD hS hA hK hZ (by decide +kernel) (by rfl)) rfl rfl hl.1 rfl (by exact lv_room (Nat.le_of_ble_eq_true rfl)) dX3_weighGathered_91 ⟨Nat.le_refl _, Nat.le_refl _⟩) hP hD hS hA (by decide +kernel) (by rfl) (by rfl) rfl (fun H locs hP hD hS => ?_)
    have hP : va_P G vwCl (wm_X3_gather cA h0 h0_numbers h0_words c0__all c0__v c0__loss c0__result c0__over s0__heldAll s0__heldRounded s0_numbers s0_words) H := hP
    have hD : va_D A (wm_X3_gather cA h0 h0_numbers h0_words c0__all c0__v c0__loss c0__result c0__over s0__heldAll s0__heldRounded s0_numbers s0_words) := hD
    refine lv_imul hx hb dX3_weighGathered_94 ?_
    refine lv_aload_n hx hb dX3_weighGathered_95 rfl (lv_at hl 0 rfl) ?_
    refine va_get (ci := 3) (v := .int c0__all) (C := RX3) (T := TX3) (N := 9) hx hb hts hinX3 hown hK hP 0 rfl rfl 2 (by decide) (hts _ (List.mem_of_getElem? (i := 3) rfl)) (fun _ h9 => h9) rfl dX3_weighGathered_96 ?_
    refine lv_isub hx hb dX3_weighGathered_99 ?_
    refine va_put (D := G) (ci := 3) (v := .int ((c0__v * r2) - c0__all)) (ty := .int) (C := RX3) (T := TX3) (N := 9) hx hb hts hinX3 tyX3 tyX3_ok nmX3 hown hK hP hD hS 0 rfl rfl 4 (by decide) (hts _ (List.mem_of_getElem? (i := 6) rfl)) (fun _ h9 => h9) rfl (by decide +kernel) rfl rfl (Nat.le_of_ble_eq_true rfl) dX3_weighGathered_100 (fun H locs hP hD hS => ?_)
    have hP : va_P G vwCl (wm_X3_gather cA h0 h0_numbers h0_words c0__all c0__v ((c0__v * r2) - c0__all) c0__result c0__over s0__heldAll s0__heldRounded s0_numbers s0_words) H := hP
    have hD : va_D A (wm_X3_gather cA h0 h0_numbers h0_words c0__all c0__v ((c0__v * r2) - c0__all) c0__result c0__over s0__heldAll s0__heldRounded s0_numbers s0_words) := hD
    refine lv_aload_n hx hb dX3_weighGathered_103 rfl (lv_at hl 0 rfl) ?_
    refine lv_aload_n hx hb dX3_weighGathered_104 rfl (lv_at hl 0 rfl) ?_
    refine lv_aload_n hx hb dX3_weighGathered_105 rfl (lv_at hl 0 rfl) ?_
    refine va_get (ci := 3) (v := .int c0__v) (C := RX3) (T := TX3) (N := 9) hx hb hts hinX3 hown hK hP 0 rfl rfl 3 (by decide) (hts _ (List.mem_of_getElem? (i := 5) rfl)) (fun _ h9 => h9) rfl dX3_weighGathered_106 ?_
    obtain ⟨r3, hq, hok⟩ := g_bnd1 hok
    refine cG (is := [0, 1]) (wc := (wm_X3_unit cA h0 h0_numbers h0_words c0__all c0__v ((c0__v * r2) - c0__all) c0__result c0__over s0__heldAll s0__heldRounded s0_numbers)) (w1 := (wm_X3_unit cA h0 h0_numbers h0_words c0__all c0__v ((c0__v * r2) - c0__all) c0__result c0__over s0__heldAll s0__heldRounded s0_numbers)) (rv := (some (.int r3))) (st1 := [.int r3, .ref h0]) (va_runV (Ts := wsX3_weighGathered) (As := [.int c0__v]) (rest := [.ref h0]) ⟨hx, hb, hml, hown, hts⟩ (c_X3_holds l G cA ts h0 h0_numbers h0_words c0__v c0__all c0__v ((c0__v * r2) - c0__all) c0__result c0__over s0__heldAll s0__heldRounded s0_numbers r3 hq H.size) (cwV 1 hts gX3_weighGathered_X3_holds rfl rfl rfl (by decide +kernel) ⟨Nat.le_of_ble_eq_true rfl, Nat.le_of_ble_eq_true rfl⟩) (pre_V (ci := 3) (q0 := 0) (is := [0, 1]) rfl rfl hP hD hS hA hK hZ (by decide +kernel) (by rfl)) rfl rfl hl.1 rfl (by exact lv_room (Nat.le_of_ble_eq_true rfl)) dX3_weighGathered_109 ⟨Nat.le_refl _, Nat.le_refl _⟩) hP hD hS hA (by decide +kernel) (by rfl) (by rfl) rfl (fun H locs hP hD hS => ?_)
    have hP : va_P G vwCl (wm_X3_gather cA h0 h0_numbers h0_words c0__all c0__v ((c0__v * r2) - c0__all) c0__result c0__over s0__heldAll s0__heldRounded s0_numbers s0_words) H := hP
    have hD : va_D A (wm_X3_gather cA h0 h0_numbers h0_words c0__all c0__v ((c0__v * r2) - c0__all) c0__result c0__over s0__heldAll s0__heldRounded s0_numbers s0_words) := hD
    refine lv_if_ne (tgt := 119) hx hb dX3_weighGathered_112 (by decide) (fun c => ?_) (fun c => ?_)
    · replace hok := g_neg hok c
      refine lv_iconst (v := 0) hx hb dX3_weighGathered_119 (by decide) ?_
      exact J_120 (0:Int32) c0__all c0__v ((c0__v * r2) - c0__all) c0__result c0__over _ _ _ hP hD hS (lv_sub hl [0] rfl) hok
    replace hok := g_pos hok c
    refine lv_iconst (v := 1) hx hb dX3_weighGathered_115 (by decide) ?_
    refine lv_goto (tgt := 120) hx hb dX3_weighGathered_116 (by decide) ?_
    exact J_120 (1:Int32) c0__all c0__v ((c0__v * r2) - c0__all) c0__result c0__over _ _ _ hP hD hS (lv_sub hl [0] rfl) hok
  unfold fX3_weighGathered at hok
  refine lv_aload_n hx hb dX3_weighGathered_0 rfl (lv_at hl 0 rfl) ?_
  refine va_get (ci := 3) (v := .ref h0_numbers) (C := RX3) (T := TX3) (N := 9) hx hb hts hinX3 hown hK hP 0 rfl rfl 0 (by decide) (hts _ (List.mem_of_getElem? (i := 1) rfl)) (fun _ h9 => h9) rfl dX3_weighGathered_1 ?_
  refine lv_iconst (v := 5) hx hb dX3_weighGathered_4 (by decide) ?_
  refine x_iald (k := 5) hx hb hK hP 1 0 rfl rfl (show ¬ ((5:Int32) < 0 ∨ 10 ≤ (5:Int32).toNatClampNeg) by decide) (by decide) dX3_weighGathered_5 ?_
  refine lv_iload_n hx hb dX3_weighGathered_6 rfl (lv_at hl 1 rfl) ?_
  refine lv_imul hx hb dX3_weighGathered_7 ?_
  refine lv_istore_n (lv' := [(2, .int ((s0_numbers 5) * x1)), (0, .ref h0), (1, .int x1)]) hx hb dX3_weighGathered_8 rfl hl (by decide) rfl (fun ls hl => ?_)
  refine lv_aload_n hx hb dX3_weighGathered_9 rfl (lv_at hl 1 rfl) ?_
  refine lv_aload_n hx hb dX3_weighGathered_10 rfl (lv_at hl 1 rfl) ?_
  refine va_get (ci := 3) (v := .int s0__heldAll) (C := RX3) (T := TX3) (N := 9) hx hb hts hinX3 hown hK hP 0 rfl rfl 7 (by decide) (hts _ (List.mem_of_getElem? (i := 2) rfl)) (fun _ h9 => h9) rfl dX3_weighGathered_11 ?_
  refine lv_iload_n hx hb dX3_weighGathered_14 rfl (lv_at hl 0 rfl) ?_
  refine lv_iadd hx hb dX3_weighGathered_15 ?_
  refine va_put (D := G) (ci := 3) (v := .int (s0__heldAll + ((s0_numbers 5) * x1))) (ty := .int) (C := RX3) (T := TX3) (N := 9) hx hb hts hinX3 tyX3 tyX3_ok nmX3 hown hK hP hD hS 0 rfl rfl 2 (by decide) (hts _ (List.mem_of_getElem? (i := 3) rfl)) (fun _ h9 => h9) rfl (by decide +kernel) rfl rfl (Nat.le_of_ble_eq_true rfl) dX3_weighGathered_16 (fun H locs hP hD hS => ?_)
  have hP : va_P G vwCl (wm_X3_gather cA h0 h0_numbers h0_words (s0__heldAll + ((s0_numbers 5) * x1)) s0__v s0__loss s0__result s0__over s0__heldAll s0__heldRounded s0_numbers s0_words) H := hP
  have hD : va_D A (wm_X3_gather cA h0 h0_numbers h0_words (s0__heldAll + ((s0_numbers 5) * x1)) s0__v s0__loss s0__result s0__over s0__heldAll s0__heldRounded s0_numbers s0_words) := hD
  refine lv_aload_n hx hb dX3_weighGathered_19 rfl (lv_at hl 1 rfl) ?_
  refine va_get (ci := 3) (v := .ref h0_numbers) (C := RX3) (T := TX3) (N := 9) hx hb hts hinX3 hown hK hP 0 rfl rfl 0 (by decide) (hts _ (List.mem_of_getElem? (i := 1) rfl)) (fun _ h9 => h9) rfl dX3_weighGathered_20 ?_
  refine lv_bipush (v := 9) hx hb dX3_weighGathered_23 (by decide) ?_
  refine x_iald (k := 9) hx hb hK hP 1 0 rfl rfl (show ¬ ((9:Int32) < 0 ∨ 10 ≤ (9:Int32).toNatClampNeg) by decide) (by decide) dX3_weighGathered_25 ?_
  refine lv_iconst (v := 1) hx hb dX3_weighGathered_26 (by decide) ?_
  refine lv_icmp_ne (tgt := 60) hx hb dX3_weighGathered_27 (by decide) (fun c => ?_) (fun c => ?_)
  · replace hok := g_neg hok c
    refine lv_aload_n hx hb dX3_weighGathered_60 rfl (lv_at hl 1 rfl) ?_
    refine lv_aload_n hx hb dX3_weighGathered_61 rfl (lv_at hl 1 rfl) ?_
    refine va_get (ci := 3) (v := .ref h0_numbers) (C := RX3) (T := TX3) (N := 9) hx hb hts hinX3 hown hK hP 0 rfl rfl 0 (by decide) (hts _ (List.mem_of_getElem? (i := 1) rfl)) (fun _ h9 => h9) rfl dX3_weighGathered_62 ?_
    refine lv_bipush (v := 7) hx hb dX3_weighGathered_65 (by decide) ?_
    refine x_iald (k := 7) hx hb hK hP 1 0 rfl rfl (show ¬ ((7:Int32) < 0 ∨ 10 ≤ (7:Int32).toNatClampNeg) by decide) (by decide) dX3_weighGathered_67 ?_
    refine lv_aload_n hx hb dX3_weighGathered_68 rfl (lv_at hl 1 rfl) ?_
    refine va_get (ci := 3) (v := .ref h0_numbers) (C := RX3) (T := TX3) (N := 9) hx hb hts hinX3 hown hK hP 0 rfl rfl 0 (by decide) (hts _ (List.mem_of_getElem? (i := 1) rfl)) (fun _ h9 => h9) rfl dX3_weighGathered_69 ?_
    refine lv_bipush (v := 6) hx hb dX3_weighGathered_72 (by decide) ?_
    refine x_iald (k := 6) hx hb hK hP 1 0 rfl rfl (show ¬ ((6:Int32) < 0 ∨ 10 ≤ (6:Int32).toNatClampNeg) by decide) (by decide) dX3_weighGathered_74 ?_
    refine lv_aload_n hx hb dX3_weighGathered_75 rfl (lv_at hl 1 rfl) ?_
    refine va_get (ci := 3) (v := .int (s0__heldAll + ((s0_numbers 5) * x1))) (C := RX3) (T := TX3) (N := 9) hx hb hts hinX3 hown hK hP 0 rfl rfl 2 (by decide) (hts _ (List.mem_of_getElem? (i := 3) rfl)) (fun _ h9 => h9) rfl dX3_weighGathered_76 ?_
    obtain ⟨r1, hq, hok⟩ := g_bnd1 hok
    refine cG (is := []) (wc := (wm_X0_find cA)) (w1 := (wm_X0_find cA)) (rv := (some (.int r1))) (st1 := [.int r1, .ref h0]) (va_runS (Ts := wsX3_weighGathered) (As := [.int (s0_numbers 7), .int (s0_numbers 6), .int (s0__heldAll + ((s0_numbers 5) * x1))]) (rest := [.ref h0]) ⟨hx, hb, hml, hown, hts⟩ (c_X3_toWhole l G cA ts (s0_numbers 7) (s0_numbers 6) (s0__heldAll + ((s0_numbers 5) * x1)) r1 hq H.size) (va_cwS 3 hts gX3_weighGathered_X3_toWhole rfl rfl rfl (by decide +kernel) ⟨Nat.le_of_ble_eq_true rfl, Nat.le_of_ble_eq_true rfl⟩) (pre_S (is := []) hP hD hS hA hK hZ (by decide +kernel) (by rfl)) rfl rfl hl.1 rfl (by exact lv_room (Nat.le_of_ble_eq_true rfl)) dX3_weighGathered_79 ⟨Nat.le_refl _, Nat.le_refl _⟩) hP hD hS hA (by decide +kernel) (by rfl) (by rfl) rfl (fun H locs hP hD hS => ?_)
    have hP : va_P G vwCl (wm_X3_gather cA h0 h0_numbers h0_words (s0__heldAll + ((s0_numbers 5) * x1)) s0__v s0__loss s0__result s0__over s0__heldAll s0__heldRounded s0_numbers s0_words) H := hP
    have hD : va_D A (wm_X3_gather cA h0 h0_numbers h0_words (s0__heldAll + ((s0_numbers 5) * x1)) s0__v s0__loss s0__result s0__over s0__heldAll s0__heldRounded s0_numbers s0_words) := hD
    refine va_put (D := G) (ci := 3) (v := .int r1) (ty := .int) (C := RX3) (T := TX3) (N := 9) hx hb hts hinX3 tyX3 tyX3_ok nmX3 hown hK hP hD hS 0 rfl rfl 3 (by decide) (hts _ (List.mem_of_getElem? (i := 5) rfl)) (fun _ h9 => h9) rfl (by decide +kernel) rfl rfl (Nat.le_of_ble_eq_true rfl) dX3_weighGathered_82 (fun H locs hP hD hS => ?_)
    have hP : va_P G vwCl (wm_X3_gather cA h0 h0_numbers h0_words (s0__heldAll + ((s0_numbers 5) * x1)) r1 s0__loss s0__result s0__over s0__heldAll s0__heldRounded s0_numbers s0_words) H := hP
    have hD : va_D A (wm_X3_gather cA h0 h0_numbers h0_words (s0__heldAll + ((s0_numbers 5) * x1)) r1 s0__loss s0__result s0__over s0__heldAll s0__heldRounded s0_numbers s0_words) := hD
    exact J_85 (s0__heldAll + ((s0_numbers 5) * x1)) r1 s0__loss s0__result s0__over _ _ _ hP hD hS (lv_sub hl [1] rfl) hok
  replace hok := g_pos hok c
  refine lv_aload_n hx hb dX3_weighGathered_30 rfl (lv_at hl 1 rfl) ?_
  refine lv_aload_n hx hb dX3_weighGathered_31 rfl (lv_at hl 1 rfl) ?_
  refine va_get (ci := 3) (v := .int s0__heldRounded) (C := RX3) (T := TX3) (N := 9) hx hb hts hinX3 hown hK hP 0 rfl rfl 8 (by decide) (hts _ (List.mem_of_getElem? (i := 4) rfl)) (fun _ h9 => h9) rfl dX3_weighGathered_32 ?_
  refine lv_aload_n hx hb dX3_weighGathered_35 rfl (lv_at hl 1 rfl) ?_
  refine va_get (ci := 3) (v := .ref h0_numbers) (C := RX3) (T := TX3) (N := 9) hx hb hts hinX3 hown hK hP 0 rfl rfl 0 (by decide) (hts _ (List.mem_of_getElem? (i := 1) rfl)) (fun _ h9 => h9) rfl dX3_weighGathered_36 ?_
  refine lv_bipush (v := 7) hx hb dX3_weighGathered_39 (by decide) ?_
  refine x_iald (k := 7) hx hb hK hP 1 0 rfl rfl (show ¬ ((7:Int32) < 0 ∨ 10 ≤ (7:Int32).toNatClampNeg) by decide) (by decide) dX3_weighGathered_41 ?_
  refine lv_aload_n hx hb dX3_weighGathered_42 rfl (lv_at hl 1 rfl) ?_
  refine va_get (ci := 3) (v := .ref h0_numbers) (C := RX3) (T := TX3) (N := 9) hx hb hts hinX3 hown hK hP 0 rfl rfl 0 (by decide) (hts _ (List.mem_of_getElem? (i := 1) rfl)) (fun _ h9 => h9) rfl dX3_weighGathered_43 ?_
  refine lv_bipush (v := 6) hx hb dX3_weighGathered_46 (by decide) ?_
  refine x_iald (k := 6) hx hb hK hP 1 0 rfl rfl (show ¬ ((6:Int32) < 0 ∨ 10 ≤ (6:Int32).toNatClampNeg) by decide) (by decide) dX3_weighGathered_48 ?_
  refine lv_iload_n hx hb dX3_weighGathered_49 rfl (lv_at hl 0 rfl) ?_
  obtain ⟨r5, hq, hok⟩ := g_bnd1 hok
  refine cG (is := []) (wc := (wm_X0_find cA)) (w1 := (wm_X0_find cA)) (rv := (some (.int r5))) (st1 := [.int r5, .int s0__heldRounded, .ref h0]) (va_runS (Ts := wsX3_weighGathered) (As := [.int (s0_numbers 7), .int (s0_numbers 6), .int ((s0_numbers 5) * x1)]) (rest := [.int s0__heldRounded, .ref h0]) ⟨hx, hb, hml, hown, hts⟩ (c_X3_toWhole l G cA ts (s0_numbers 7) (s0_numbers 6) ((s0_numbers 5) * x1) r5 hq H.size) (va_cwS 3 hts gX3_weighGathered_X3_toWhole rfl rfl rfl (by decide +kernel) ⟨Nat.le_of_ble_eq_true rfl, Nat.le_of_ble_eq_true rfl⟩) (pre_S (is := []) hP hD hS hA hK hZ (by decide +kernel) (by rfl)) rfl rfl hl.1 rfl (by exact lv_room (Nat.le_of_ble_eq_true rfl)) dX3_weighGathered_50 ⟨Nat.le_refl _, Nat.le_refl _⟩) hP hD hS hA (by decide +kernel) (by rfl) (by rfl) rfl (fun H locs hP hD hS => ?_)
  have hP : va_P G vwCl (wm_X3_gather cA h0 h0_numbers h0_words (s0__heldAll + ((s0_numbers 5) * x1)) s0__v s0__loss s0__result s0__over s0__heldAll s0__heldRounded s0_numbers s0_words) H := hP
  have hD : va_D A (wm_X3_gather cA h0 h0_numbers h0_words (s0__heldAll + ((s0_numbers 5) * x1)) s0__v s0__loss s0__result s0__over s0__heldAll s0__heldRounded s0_numbers s0_words) := hD
  refine lv_iadd hx hb dX3_weighGathered_53 ?_
  refine va_put (D := G) (ci := 3) (v := .int (s0__heldRounded + r5)) (ty := .int) (C := RX3) (T := TX3) (N := 9) hx hb hts hinX3 tyX3 tyX3_ok nmX3 hown hK hP hD hS 0 rfl rfl 3 (by decide) (hts _ (List.mem_of_getElem? (i := 5) rfl)) (fun _ h9 => h9) rfl (by decide +kernel) rfl rfl (Nat.le_of_ble_eq_true rfl) dX3_weighGathered_54 (fun H locs hP hD hS => ?_)
  have hP : va_P G vwCl (wm_X3_gather cA h0 h0_numbers h0_words (s0__heldAll + ((s0_numbers 5) * x1)) (s0__heldRounded + r5) s0__loss s0__result s0__over s0__heldAll s0__heldRounded s0_numbers s0_words) H := hP
  have hD : va_D A (wm_X3_gather cA h0 h0_numbers h0_words (s0__heldAll + ((s0_numbers 5) * x1)) (s0__heldRounded + r5) s0__loss s0__result s0__over s0__heldAll s0__heldRounded s0_numbers s0_words) := hD
  refine lv_goto (tgt := 85) hx hb dX3_weighGathered_57 (by decide) ?_
  exact J_85 (s0__heldAll + ((s0_numbers 5) * x1)) (s0__heldRounded + r5) s0__loss s0__result s0__over _ _ _ hP hD hS (lv_sub hl [1] rfl) hok
set_option maxHeartbeats 40000000 in
set_option maxRecDepth 100000 in
theorem c_X3_weigh (l : Launch) (G : va_G) (cA : Nat → ClassId) (ts : Nat → Nat) (h0 : Nat) (h0_numbers : Nat) (h0_words : Nat) (x1 : Int32) (s0__all : Int32) (s0__v : Int32) (s0__loss : Int32) (s0__result : Int32) (s0__over : Int32) (s0__heldAll : Int32) (s0__heldRounded : Int32) (s0_numbers : Nat → Int32) (s0_words : Nat → Int32) (o0__all : Int32) (o0__v : Int32) (o0__loss : Int32) (o0__result : Int32) (o0__over : Int32) (o0__heldAll : Int32) (o0__heldRounded : Int32) (hok : fX3_weigh x1 s0__all s0__v s0__loss s0__result s0__over s0__heldAll s0__heldRounded s0_numbers s0_words = some (o0__all, o0__v, o0__loss, o0__result, o0__over, o0__heldAll, o0__heldRounded)) : Ct l G cA ts yX3_weigh wsX3_weigh 4 105 [.ref h0, .int x1] (wm_X3_gather cA h0 h0_numbers h0_words s0__all s0__v s0__loss s0__result s0__over s0__heldAll s0__heldRounded s0_numbers s0_words) (wm_X3_gather cA h0 h0_numbers h0_words o0__all o0__v o0__loss o0__result o0__over o0__heldAll o0__heldRounded s0_numbers s0_words) none := by
  refine Ct.intro (cc := cX3_weigh) (maxL := 2) (ret := none) (by decide +kernel) rfl (Nat.le_of_ble_eq_true rfl) ?_
  intro p e s m ar below meth c A Q hx hb hr hml hown hlocks hts hK hZ hA hQ hP hD hS ls hl
  have hown : s.vm.findClass RX3 = some m.cls := hown
  have hl : lv_has ls 2 [(0, .ref h0), (1, .int x1)] := hl
  have hP : va_P G vwCl (wm_X3_gather cA h0 h0_numbers h0_words s0__all s0__v s0__loss s0__result s0__over s0__heldAll s0__heldRounded s0_numbers s0_words) s.heap := hP
  have hD : va_D A (wm_X3_gather cA h0 h0_numbers h0_words s0__all s0__v s0__loss s0__result s0__over s0__heldAll s0__heldRounded s0_numbers s0_words) := hD
  unfold fX3_weigh at hok
  refine lv_aload_n hx hb dX3_weigh_0 rfl (lv_at hl 0 rfl) ?_
  obtain ⟨o1, o2, hq, hok⟩ := g_bnd2 hok
  refine cG (is := [0, 1, 2]) (wc := (wm_X3_gather cA h0 h0_numbers h0_words s0__all s0__v s0__loss s0__result s0__over s0__heldAll s0__heldRounded s0_numbers s0_words)) (w1 := (wm_X3_gather cA h0 h0_numbers h0_words s0__all s0__v s0__loss s0__result s0__over o1 o2 s0_numbers s0_words)) (rv := none) (st1 := []) (va_runV (Ts := wsX3_weigh) (As := []) (rest := []) ⟨hx, hb, hml, hown, hts⟩ (c_X3_gather l G cA ts h0 h0_numbers h0_words s0__all s0__v s0__loss s0__result s0__over s0__heldAll s0__heldRounded s0_numbers s0_words o1 o2 hq s.heap.size) (cwV 0 hts gX3_weigh_X3_gather rfl rfl rfl (by decide +kernel) ⟨Nat.le_of_ble_eq_true rfl, Nat.le_of_ble_eq_true rfl⟩) (pre_V (ci := 3) (q0 := 0) (is := [0, 1, 2]) rfl rfl hP hD hS hA hK hZ (by decide +kernel) (by rfl)) rfl rfl hl.1 rfl (by exact lv_room (Nat.le_of_ble_eq_true rfl)) dX3_weigh_1 ⟨Nat.le_refl _, Nat.le_refl _⟩) hP hD hS hA (by decide +kernel) (by rfl) (by rfl) rfl (fun H locs hP hD hS => ?_)
  have hP : va_P G vwCl (wm_X3_gather cA h0 h0_numbers h0_words s0__all s0__v s0__loss s0__result s0__over o1 o2 s0_numbers s0_words) H := hP
  have hD : va_D A (wm_X3_gather cA h0 h0_numbers h0_words s0__all s0__v s0__loss s0__result s0__over o1 o2 s0_numbers s0_words) := hD
  refine lv_aload_n hx hb dX3_weigh_4 rfl (lv_at hl 0 rfl) ?_
  refine lv_iload_n hx hb dX3_weigh_5 rfl (lv_at hl 1 rfl) ?_
  obtain ⟨o3, o4, o5, o6, o7, hq, hok⟩ := g_bnd5 hok
  refine cG (is := [0, 1, 2]) (wc := (wm_X3_gather cA h0 h0_numbers h0_words s0__all s0__v s0__loss s0__result s0__over o1 o2 s0_numbers s0_words)) (w1 := (wm_X3_gather cA h0 h0_numbers h0_words o3 o4 o5 o6 o7 o1 o2 s0_numbers s0_words)) (rv := none) (st1 := []) (va_runV (Ts := wsX3_weigh) (As := [.int x1]) (rest := []) ⟨hx, hb, hml, hown, hts⟩ (c_X3_weighGathered l G cA ts h0 h0_numbers h0_words x1 s0__all s0__v s0__loss s0__result s0__over o1 o2 s0_numbers s0_words o3 o4 o5 o6 o7 hq H.size) (cwV 1 hts gX3_weigh_X3_weighGathered rfl rfl rfl (by decide +kernel) ⟨Nat.le_of_ble_eq_true rfl, Nat.le_of_ble_eq_true rfl⟩) (pre_V (ci := 3) (q0 := 0) (is := [0, 1, 2]) rfl rfl hP hD hS hA hK hZ (by decide +kernel) (by rfl)) rfl rfl hl.1 rfl (by exact lv_room (Nat.le_of_ble_eq_true rfl)) dX3_weigh_6 ⟨Nat.le_refl _, Nat.le_refl _⟩) hP hD hS hA (by decide +kernel) (by rfl) (by rfl) rfl (fun H locs hP hD hS => ?_)
  have hP : va_P G vwCl (wm_X3_gather cA h0 h0_numbers h0_words o3 o4 o5 o6 o7 o1 o2 s0_numbers s0_words) H := hP
  have hD : va_D A (wm_X3_gather cA h0 h0_numbers h0_words o3 o4 o5 o6 o7 o1 o2 s0_numbers s0_words) := hD
  cases hok
  exact cr_v hx hb hr hlocks hQ dX3_weigh_9 hP hS
set_option maxHeartbeats 40000000 in
set_option maxRecDepth 100000 in
theorem c_X3_push (l : Launch) (G : va_G) (cA : Nat → ClassId) (ts : Nat → Nat) (h0 : Nat) (h0_numbers : Nat) (h0_words : Nat) (s0__all : Int32) (s0__v : Int32) (s0__loss : Int32) (s0__result : Int32) (s0__over : Int32) (s0__heldAll : Int32) (s0__heldRounded : Int32) (s0_numbers : Nat → Int32) (s0_words : Nat → Int32) (o0_words : Nat → Int32) (hok : fX3_push s0__result s0_numbers s0_words = some o0_words) : Ct l G cA ts yX3_push wsX3_push 1 80 [.ref h0] (wm_X3_gather cA h0 h0_numbers h0_words s0__all s0__v s0__loss s0__result s0__over s0__heldAll s0__heldRounded s0_numbers s0_words) (wm_X3_gather cA h0 h0_numbers h0_words s0__all s0__v s0__loss s0__result s0__over s0__heldAll s0__heldRounded s0_numbers o0_words) none := by
  refine Ct.intro (cc := cX3_push) (maxL := 2) (ret := none) (by decide +kernel) rfl (Nat.le_of_ble_eq_true rfl) ?_
  intro p e s m ar below meth c A Q hx hb hr hml hown hlocks hts hK hZ hA hQ hP hD hS ls hl
  have hown : s.vm.findClass RX3 = some m.cls := hown
  have hinX3 : ∀ w ∈ wsX30, w ∈ wsX3_push := fun _ h => List.mem_cons_of_mem _ (List.mem_append_right _ (h))
  have hl : lv_has ls 2 [(0, .ref h0)] := hl
  have hP : va_P G vwCl (wm_X3_gather cA h0 h0_numbers h0_words s0__all s0__v s0__loss s0__result s0__over s0__heldAll s0__heldRounded s0_numbers s0_words) s.heap := hP
  have hD : va_D A (wm_X3_gather cA h0 h0_numbers h0_words s0__all s0__v s0__loss s0__result s0__over s0__heldAll s0__heldRounded s0_numbers s0_words) := hD
  have L_13 : ∀ (n : Nat) (y1 : Int32) (c0_words : Nat → Int32) (p0_0 : Nat → Int32) (H : Heap) (locs : List Loc) (ls : Array Slot), va_P G vwCl (wm_X3_gather cA h0 h0_numbers h0_words s0__all s0__v s0__loss s0__result s0__over s0__heldAll s0__heldRounded s0_numbers c0_words) H → va_D A (wm_X3_gather cA h0 h0_numbers h0_words s0__all s0__v s0__loss s0__result s0__over s0__heldAll s0__heldRounded s0_numbers c0_words) → va_S A s.heap H locs → lv_has ls 2 [(0, .ref h0), (1, .int y1)] → fX3_push_L13 s0__result s0_numbers n y1 c0_words = some p0_0 → (∀ (H : Heap) (locs : List Loc) (ls : Array Slot), va_P G vwCl (wm_X3_gather cA h0 h0_numbers h0_words s0__all s0__v s0__loss s0__result s0__over s0__heldAll s0__heldRounded s0_numbers p0_0) H → va_D A (wm_X3_gather cA h0 h0_numbers h0_words s0__all s0__v s0__loss s0__result s0__over s0__heldAll s0__heldRounded s0_numbers p0_0) → va_S A s.heap H locs → lv_has ls 2 [(0, .ref h0)] → W p l e (rmX 1 80) s m ar below meth c H locs 0 0 Q (F0 m 37 ls [])) → W p l e (rmX 1 80) s m ar below meth c H locs 0 0 Q (F0 m 13 ls []) := by
    intro n
    induction n with
    | zero =>
      intro y1 c0_words p0_0 H locs ls hP hD hS hl hok
      rw [fX3_push_L13] at hok
      cases hok
    | succ n ih =>
      intro y1 c0_words p0_0 H locs ls hP hD hS hl hok K
      rw [fX3_push_L13] at hok
      refine lv_iload_n hx hb dX3_push_13 rfl (lv_at hl 1 rfl) ?_
      refine lv_if_le (tgt := 37) hx hb dX3_push_14 (by decide) (fun c => ?_) (fun c => ?_)
      · replace hok := g_pos hok c
        cases hok
        exact K _ _ _ hP hD hS (lv_sub hl [0] rfl)
      replace hok := g_neg hok c
      refine lv_aload_n hx hb dX3_push_17 rfl (lv_at hl 0 rfl) ?_
      refine va_get (ci := 3) (v := .ref h0_words) (C := RX3) (T := TX3) (N := 9) hx hb hts hinX3 hown hK hP 0 rfl rfl 1 (by decide) (hts _ (List.mem_of_getElem? (i := 6) rfl)) (fun _ h9 => h9) rfl dX3_push_18 ?_
      refine lv_iload_n hx hb dX3_push_21 rfl (lv_at hl 1 rfl) ?_
      refine lv_aload_n hx hb dX3_push_22 rfl (lv_at hl 0 rfl) ?_
      refine va_get (ci := 3) (v := .ref h0_words) (C := RX3) (T := TX3) (N := 9) hx hb hts hinX3 hown hK hP 0 rfl rfl 1 (by decide) (hts _ (List.mem_of_getElem? (i := 6) rfl)) (fun _ h9 => h9) rfl dX3_push_23 ?_
      refine lv_iload_n hx hb dX3_push_26 rfl (lv_at hl 1 rfl) ?_
      refine lv_iconst (v := 1) hx hb dX3_push_27 (by decide) ?_
      refine lv_isub hx hb dX3_push_28 ?_
      obtain ⟨hin, hok⟩ := g_no hok
      refine x_iald (k := (y1 - (1:Int32)).toNatClampNeg) hx hb hK hP 2 0 rfl rfl hin rfl dX3_push_29 ?_
      obtain ⟨hin, hok⟩ := g_no hok
      refine x_iast (k := y1.toNatClampNeg) hx hb hK hP hD hS 2 0 rfl rfl hin rfl dX3_push_30 (fun H locs hP hD hS => ?_)
      have hP : va_P G vwCl (wm_X3_gather cA h0 h0_numbers h0_words s0__all s0__v s0__loss s0__result s0__over s0__heldAll s0__heldRounded s0_numbers (upd c0_words y1.toNatClampNeg (c0_words (y1 - (1:Int32)).toNatClampNeg))) H := hP
      have hD : va_D A (wm_X3_gather cA h0 h0_numbers h0_words s0__all s0__v s0__loss s0__result s0__over s0__heldAll s0__heldRounded s0_numbers (upd c0_words y1.toNatClampNeg (c0_words (y1 - (1:Int32)).toNatClampNeg))) := hD
      refine lv_iinc (v := (y1 + (-1))) (lv' := [(1, .int (y1 + (-1))), (0, .ref h0)]) hx hb dX3_push_31 hl (k := 1) rfl rfl (by decide) rfl (fun ls hl => ?_)
      refine lv_goto (tgt := 13) hx hb dX3_push_34 (by decide) ?_
      exact ih (y1 + (-1)) (upd c0_words y1.toNatClampNeg (c0_words (y1 - (1:Int32)).toNatClampNeg)) p0_0 _ _ _ hP hD hS (lv_sub hl [1, 0] rfl) hok K
  unfold fX3_push at hok
  refine lv_aload_n hx hb dX3_push_0 rfl (lv_at hl 0 rfl) ?_
  refine va_get (ci := 3) (v := .ref h0_numbers) (C := RX3) (T := TX3) (N := 9) hx hb hts hinX3 hown hK hP 0 rfl rfl 0 (by decide) (hts _ (List.mem_of_getElem? (i := 1) rfl)) (fun _ h9 => h9) rfl dX3_push_1 ?_
  refine lv_iconst (v := 0) hx hb dX3_push_4 (by decide) ?_
  refine x_iald (k := 0) hx hb hK hP 1 0 rfl rfl (show ¬ ((0:Int32) < 0 ∨ 10 ≤ (0:Int32).toNatClampNeg) by decide) (by decide) dX3_push_5 ?_
  refine lv_iconst (v := 3) hx hb dX3_push_6 (by decide) ?_
  refine va_mmin hx hb (hml.trans hl.1.symm) hown (hts _ (List.mem_of_getElem? (i := 2) rfl)) (hts _ (List.mem_of_getElem? (i := 3) rfl)) (hts _ (List.mem_of_getElem? (i := 4) rfl)) (hts _ (List.mem_of_getElem? (i := 5) rfl)) (Nat.le_of_ble_eq_true rfl) (Nat.le_of_ble_eq_true rfl) (Nat.zero_le _) (Nat.zero_le _) dX3_push_7 ?_
  refine lv_iconst (v := 1) hx hb dX3_push_10 (by decide) ?_
  refine lv_isub hx hb dX3_push_11 ?_
  refine lv_istore_n (lv' := [(1, .int ((if (3:Int32) < (s0_numbers 0) then (3:Int32) else (s0_numbers 0)) - (1:Int32))), (0, .ref h0)]) hx hb dX3_push_12 rfl hl (by decide) rfl (fun ls hl => ?_)
  obtain ⟨o1, hq, hok⟩ := g_bnd1 hok
  refine L_13 FUEL ((if (3:Int32) < (s0_numbers 0) then (3:Int32) else (s0_numbers 0)) - (1:Int32)) s0_words o1 _ _ _ hP hD hS (lv_sub hl [1, 0] rfl) hq (fun H locs ls hP hD hS hl => ?_)
  refine lv_aload_n hx hb dX3_push_37 rfl (lv_at hl 0 rfl) ?_
  refine va_get (ci := 3) (v := .ref h0_words) (C := RX3) (T := TX3) (N := 9) hx hb hts hinX3 hown hK hP 0 rfl rfl 1 (by decide) (hts _ (List.mem_of_getElem? (i := 6) rfl)) (fun _ h9 => h9) rfl dX3_push_38 ?_
  refine lv_iconst (v := 0) hx hb dX3_push_41 (by decide) ?_
  refine lv_aload_n hx hb dX3_push_42 rfl (lv_at hl 0 rfl) ?_
  refine va_get (ci := 3) (v := .int s0__result) (C := RX3) (T := TX3) (N := 9) hx hb hts hinX3 hown hK hP 0 rfl rfl 5 (by decide) (hts _ (List.mem_of_getElem? (i := 7) rfl)) (fun _ h9 => h9) rfl dX3_push_43 ?_
  refine x_iast (k := 0) hx hb hK hP hD hS 2 0 rfl rfl (show ¬ ((0:Int32) < 0 ∨ 3 ≤ (0:Int32).toNatClampNeg) by decide) (by decide) dX3_push_46 (fun H locs hP hD hS => ?_)
  have hP : va_P G vwCl (wm_X3_gather cA h0 h0_numbers h0_words s0__all s0__v s0__loss s0__result s0__over s0__heldAll s0__heldRounded s0_numbers (upd o1 0 s0__result)) H := hP
  have hD : va_D A (wm_X3_gather cA h0 h0_numbers h0_words s0__all s0__v s0__loss s0__result s0__over s0__heldAll s0__heldRounded s0_numbers (upd o1 0 s0__result)) := hD
  cases hok
  exact cr_v hx hb hr hlocks hQ dX3_push_47 hP hS
set_option maxHeartbeats 40000000 in
set_option maxRecDepth 100000 in
theorem c_X3_howManyPasts (l : Launch) (G : va_G) (cA : Nat → ClassId) (ts : Nat → Nat) (h0 : Nat) (h0_numbers : Nat) (h0_words : Nat) (s0__all : Int32) (s0__v : Int32) (s0__loss : Int32) (s0__result : Int32) (s0__over : Int32) (s0__heldAll : Int32) (s0__heldRounded : Int32) (s0_numbers : Nat → Int32) (r : Int32) (hok : fX3_howManyPasts s0_numbers = some r) : Ct l G cA ts yX3_howManyPasts wsX3_howManyPasts 1 40 [.ref h0] (wm_X3_unit cA h0 h0_numbers h0_words s0__all s0__v s0__loss s0__result s0__over s0__heldAll s0__heldRounded s0_numbers) (wm_X3_unit cA h0 h0_numbers h0_words s0__all s0__v s0__loss s0__result s0__over s0__heldAll s0__heldRounded s0_numbers) (some (.int r)) := by
  refine Ct.intro (cc := cX3_howManyPasts) (maxL := 1) (ret := some .int) (by decide +kernel) rfl (Nat.le_of_ble_eq_true rfl) ?_
  intro p e s m ar below meth c A Q hx hb hr hml hown hlocks hts hK hZ hA hQ hP hD hS ls hl
  have hown : s.vm.findClass RX3 = some m.cls := hown
  have hinX3 : ∀ w ∈ wsX30, w ∈ wsX3_howManyPasts := fun _ h => List.mem_cons_of_mem _ (List.mem_append_right _ (h))
  have hl : lv_has ls 1 [(0, .ref h0)] := hl
  have hP : va_P G vwCl (wm_X3_unit cA h0 h0_numbers h0_words s0__all s0__v s0__loss s0__result s0__over s0__heldAll s0__heldRounded s0_numbers) s.heap := hP
  have hD : va_D A (wm_X3_unit cA h0 h0_numbers h0_words s0__all s0__v s0__loss s0__result s0__over s0__heldAll s0__heldRounded s0_numbers) := hD
  unfold fX3_howManyPasts at hok
  refine lv_iconst (v := 1) hx hb dX3_howManyPasts_0 (by decide) ?_
  refine lv_aload_n hx hb dX3_howManyPasts_1 rfl (lv_at hl 0 rfl) ?_
  refine va_get (ci := 3) (v := .ref h0_numbers) (C := RX3) (T := TX3) (N := 9) hx hb hts hinX3 hown hK hP 0 rfl rfl 0 (by decide) (hts _ (List.mem_of_getElem? (i := 1) rfl)) (fun _ h9 => h9) rfl dX3_howManyPasts_2 ?_
  refine lv_iconst (v := 0) hx hb dX3_howManyPasts_5 (by decide) ?_
  refine x_iald (k := 0) hx hb hK hP 1 0 rfl rfl (show ¬ ((0:Int32) < 0 ∨ 10 ≤ (0:Int32).toNatClampNeg) by decide) (by decide) dX3_howManyPasts_6 ?_
  refine lv_aload_n hx hb dX3_howManyPasts_7 rfl (lv_at hl 0 rfl) ?_
  refine va_get (ci := 3) (v := .ref h0_numbers) (C := RX3) (T := TX3) (N := 9) hx hb hts hinX3 hown hK hP 0 rfl rfl 0 (by decide) (hts _ (List.mem_of_getElem? (i := 1) rfl)) (fun _ h9 => h9) rfl dX3_howManyPasts_8 ?_
  refine lv_iconst (v := 1) hx hb dX3_howManyPasts_11 (by decide) ?_
  refine x_iald (k := 1) hx hb hK hP 1 0 rfl rfl (show ¬ ((1:Int32) < 0 ∨ 10 ≤ (1:Int32).toNatClampNeg) by decide) (by decide) dX3_howManyPasts_12 ?_
  refine lv_imul hx hb dX3_howManyPasts_13 ?_
  refine lv_ishl hx hb dX3_howManyPasts_14 ?_
  cases hok
  exact cr_i hx hb hr hlocks hQ dX3_howManyPasts_15 hP hS
set_option maxHeartbeats 40000000 in
set_option maxRecDepth 100000 in
theorem c_X3_isTooLargeWith (l : Launch) (G : va_G) (cA : Nat → ClassId) (ts : Nat → Nat) (h0 : Nat) (h0_numbers : Nat) (h0_words : Nat) (x1 : Int32) (x2 : Int32) (s0__all : Int32) (s0__v : Int32) (s0__loss : Int32) (s0__result : Int32) (s0__over : Int32) (s0__heldAll : Int32) (s0__heldRounded : Int32) (s0_numbers : Nat → Int32) (r : Int32) (hok : fX3_isTooLargeWith x1 x2 s0_numbers = some r) : Ct l G cA ts yX3_isTooLargeWith wsX3_isTooLargeWith 1 40 [.ref h0, .int x1, .int x2] (wm_X3_unit cA h0 h0_numbers h0_words s0__all s0__v s0__loss s0__result s0__over s0__heldAll s0__heldRounded s0_numbers) (wm_X3_unit cA h0 h0_numbers h0_words s0__all s0__v s0__loss s0__result s0__over s0__heldAll s0__heldRounded s0_numbers) (some (.int r)) := by
  refine Ct.intro (cc := cX3_isTooLargeWith) (maxL := 5) (ret := some .boolean) (by decide +kernel) rfl (Nat.le_of_ble_eq_true rfl) ?_
  intro p e s m ar below meth c A Q hx hb hr hml hown hlocks hts hK hZ hA hQ hP hD hS ls hl
  have hown : s.vm.findClass RX3 = some m.cls := hown
  have hinX3 : ∀ w ∈ wsX30, w ∈ wsX3_isTooLargeWith := fun _ h => List.mem_cons_of_mem _ (List.mem_append_right _ (h))
  have hl : lv_has ls 5 [(0, .ref h0), (1, .int x1), (2, .int x2)] := hl
  have hP : va_P G vwCl (wm_X3_unit cA h0 h0_numbers h0_words s0__all s0__v s0__loss s0__result s0__over s0__heldAll s0__heldRounded s0_numbers) s.heap := hP
  have hD : va_D A (wm_X3_unit cA h0 h0_numbers h0_words s0__all s0__v s0__loss s0__result s0__over s0__heldAll s0__heldRounded s0_numbers) := hD
  have J_30 : ∀ (y3 : Int32) (z0 : Int32) (H : Heap) (locs : List Loc) (ls : Array Slot), va_P G vwCl (wm_X3_unit cA h0 h0_numbers h0_words s0__all s0__v s0__loss s0__result s0__over s0__heldAll s0__heldRounded s0_numbers) H → va_D A (wm_X3_unit cA h0 h0_numbers h0_words s0__all s0__v s0__loss s0__result s0__over s0__heldAll s0__heldRounded s0_numbers) → va_S A s.heap H locs → lv_has ls 5 [(3, .int y3)] → fX3_isTooLargeWith_j30 x1 x2 s0_numbers y3 z0 = some r → W p l e (rmX 1 40) s m ar below meth c H locs 0 0 Q (F0 m 30 ls [.int z0]) := by
    intro y3 z0 H locs ls hP hD hS hl hok
    unfold fX3_isTooLargeWith_j30 at hok
    refine lv_istore (lv' := [(4, .int z0), (3, .int y3)]) hx hb dX3_isTooLargeWith_30 hl (by decide) rfl (fun ls hl => ?_)
    refine lv_iload_n hx hb dX3_isTooLargeWith_32 rfl (lv_at hl 1 rfl) ?_
    refine lv_iload hx hb dX3_isTooLargeWith_33 (lv_at hl 0 rfl) ?_
    refine lv_imul hx hb dX3_isTooLargeWith_35 ?_
    refine lv_bipush (v := 10) hx hb dX3_isTooLargeWith_36 (by decide) ?_
    refine lv_icmp_le (tgt := 45) hx hb dX3_isTooLargeWith_38 (by decide) (fun c => ?_) (fun c => ?_)
    · replace hok := g_pos hok c
      refine lv_iconst (v := 0) hx hb dX3_isTooLargeWith_45 (by decide) ?_
      cases hok
      exact cr_z (ty := .boolean) (by decide +kernel) hx hb hr hlocks hQ dX3_isTooLargeWith_46 hP hS
    replace hok := g_neg hok c
    refine lv_iconst (v := 1) hx hb dX3_isTooLargeWith_41 (by decide) ?_
    refine lv_goto (tgt := 46) hx hb dX3_isTooLargeWith_42 (by decide) ?_
    cases hok
    exact cr_z (ty := .boolean) (by decide +kernel) hx hb hr hlocks hQ dX3_isTooLargeWith_46 hP hS
  have J_14 : ∀ (z0 : Int32) (H : Heap) (locs : List Loc) (ls : Array Slot), va_P G vwCl (wm_X3_unit cA h0 h0_numbers h0_words s0__all s0__v s0__loss s0__result s0__over s0__heldAll s0__heldRounded s0_numbers) H → va_D A (wm_X3_unit cA h0 h0_numbers h0_words s0__all s0__v s0__loss s0__result s0__over s0__heldAll s0__heldRounded s0_numbers) → va_S A s.heap H locs → lv_has ls 5 [(0, .ref h0), (1, .int x1), (2, .int x2)] → fX3_isTooLargeWith_j14 x1 x2 s0_numbers z0 = some r → W p l e (rmX 1 40) s m ar below meth c H locs 0 0 Q (F0 m 14 ls [.int z0]) := by
    intro z0 H locs ls hP hD hS hl hok
    unfold fX3_isTooLargeWith_j14 at hok
    refine lv_istore_n (lv' := [(3, .int z0), (0, .ref h0), (1, .int x1), (2, .int x2)]) hx hb dX3_isTooLargeWith_14 rfl hl (by decide) rfl (fun ls hl => ?_)
    refine lv_iload_n hx hb dX3_isTooLargeWith_15 rfl (lv_at hl 2 rfl) ?_
    refine lv_iconst (v := 1) hx hb dX3_isTooLargeWith_16 (by decide) ?_
    refine lv_icmp_ne (tgt := 24) hx hb dX3_isTooLargeWith_17 (by decide) (fun c => ?_) (fun c => ?_)
    · replace hok := g_neg hok c
      refine lv_aload_n hx hb dX3_isTooLargeWith_24 rfl (lv_at hl 1 rfl) ?_
      refine va_get (ci := 3) (v := .ref h0_numbers) (C := RX3) (T := TX3) (N := 9) hx hb hts hinX3 hown hK hP 0 rfl rfl 0 (by decide) (hts _ (List.mem_of_getElem? (i := 1) rfl)) (fun _ h9 => h9) rfl dX3_isTooLargeWith_25 ?_
      refine lv_iconst (v := 1) hx hb dX3_isTooLargeWith_28 (by decide) ?_
      refine x_iald (k := 1) hx hb hK hP 1 0 rfl rfl (show ¬ ((1:Int32) < 0 ∨ 10 ≤ (1:Int32).toNatClampNeg) by decide) (by decide) dX3_isTooLargeWith_29 ?_
      exact J_30 z0 (s0_numbers 1) _ _ _ hP hD hS (lv_sub hl [0] rfl) hok
    replace hok := g_pos hok c
    refine lv_iload_n hx hb dX3_isTooLargeWith_20 rfl (lv_at hl 3 rfl) ?_
    refine lv_goto (tgt := 30) hx hb dX3_isTooLargeWith_21 (by decide) ?_
    exact J_30 z0 x2 _ _ _ hP hD hS (lv_sub hl [0] rfl) hok
  unfold fX3_isTooLargeWith at hok
  refine lv_iload_n hx hb dX3_isTooLargeWith_0 rfl (lv_at hl 1 rfl) ?_
  refine lv_if_ne (tgt := 8) hx hb dX3_isTooLargeWith_1 (by decide) (fun c => ?_) (fun c => ?_)
  · replace hok := g_neg hok c
    refine lv_aload_n hx hb dX3_isTooLargeWith_8 rfl (lv_at hl 0 rfl) ?_
    refine va_get (ci := 3) (v := .ref h0_numbers) (C := RX3) (T := TX3) (N := 9) hx hb hts hinX3 hown hK hP 0 rfl rfl 0 (by decide) (hts _ (List.mem_of_getElem? (i := 1) rfl)) (fun _ h9 => h9) rfl dX3_isTooLargeWith_9 ?_
    refine lv_iconst (v := 0) hx hb dX3_isTooLargeWith_12 (by decide) ?_
    refine x_iald (k := 0) hx hb hK hP 1 0 rfl rfl (show ¬ ((0:Int32) < 0 ∨ 10 ≤ (0:Int32).toNatClampNeg) by decide) (by decide) dX3_isTooLargeWith_13 ?_
    exact J_14 (s0_numbers 0) _ _ _ hP hD hS (lv_sub hl [0, 1, 2] rfl) hok
  replace hok := g_pos hok c
  refine lv_iload_n hx hb dX3_isTooLargeWith_4 rfl (lv_at hl 2 rfl) ?_
  refine lv_goto (tgt := 14) hx hb dX3_isTooLargeWith_5 (by decide) ?_
  exact J_14 x2 _ _ _ hP hD hS (lv_sub hl [0, 1, 2] rfl) hok
