set_option maxHeartbeats 40000000 in
set_option maxRecDepth 100000 in
theorem c_X3_become (l : Launch) (G : va_G) (cA : Nat → ClassId) (ts : Nat → Nat) (h0 : Nat) (h0_numbers : Nat) (h0_words : Nat) (x1 : Int32) (x2 : Int32) (s0__all : Int32) (s0__v : Int32) (s0__loss : Int32) (s0__result : Int32) (s0__over : Int32) (s0__heldAll : Int32) (s0__heldRounded : Int32) (s0_numbers : Nat → Int32) (s0_words : Nat → Int32) (o0_numbers : Nat → Int32) (o0_words : Nat → Int32) (hok : fX3_become x1 x2 s0_numbers s0_words = some (o0_numbers, o0_words)) : Ct l G cA ts yX3_become wsX3_become 1 40 [.ref h0, .int x1, .int x2] (wm_X3_gather cA h0 h0_numbers h0_words s0__all s0__v s0__loss s0__result s0__over s0__heldAll s0__heldRounded s0_numbers s0_words) (wm_X3_gather cA h0 h0_numbers h0_words s0__all s0__v s0__loss s0__result s0__over s0__heldAll s0__heldRounded o0_numbers o0_words) none := by
  refine Ct.intro (cc := cX3_become) (maxL := 4) (ret := none) (by decide +kernel) rfl (Nat.le_of_ble_eq_true rfl) ?_
  intro p e s m ar below meth c A Q hx hb hr hml hown hlocks hts hK hZ hA hQ hP hD hS ls hl
  have hown : s.vm.findClass RX3 = some m.cls := hown
  have hinX3 : ∀ w ∈ wsX30, w ∈ wsX3_become := fun _ h => List.mem_cons_of_mem _ (List.mem_append_right _ (h))
  have hl : lv_has ls 4 [(0, .ref h0), (1, .int x1), (2, .int x2)] := hl
  have hP : va_P G vwCl (wm_X3_gather cA h0 h0_numbers h0_words s0__all s0__v s0__loss s0__result s0__over s0__heldAll s0__heldRounded s0_numbers s0_words) s.heap := hP
  have hD : va_D A (wm_X3_gather cA h0 h0_numbers h0_words s0__all s0__v s0__loss s0__result s0__over s0__heldAll s0__heldRounded s0_numbers s0_words) := hD
  have L_39 : ∀ (n : Nat) (y3 : Int32) (c0_numbers : Nat → Int32) (c0_words : Nat → Int32) (p0_0 : Nat → Int32) (H : Heap) (locs : List Loc) (ls : Array Slot), va_P G vwCl (wm_X3_gather cA h0 h0_numbers h0_words s0__all s0__v s0__loss s0__result s0__over s0__heldAll s0__heldRounded c0_numbers c0_words) H → va_D A (wm_X3_gather cA h0 h0_numbers h0_words s0__all s0__v s0__loss s0__result s0__over s0__heldAll s0__heldRounded c0_numbers c0_words) → va_S A s.heap H locs → lv_has ls 4 [(0, .ref h0), (3, .int y3)] → fX3_become_L39 x1 x2 n y3 c0_numbers c0_words = some p0_0 → (∀ (H : Heap) (locs : List Loc) (ls : Array Slot), va_P G vwCl (wm_X3_gather cA h0 h0_numbers h0_words s0__all s0__v s0__loss s0__result s0__over s0__heldAll s0__heldRounded c0_numbers p0_0) H → va_D A (wm_X3_gather cA h0 h0_numbers h0_words s0__all s0__v s0__loss s0__result s0__over s0__heldAll s0__heldRounded c0_numbers p0_0) → va_S A s.heap H locs → lv_has ls 4 [] → W p l e (rmX 1 40) s m ar below meth c H locs 0 0 Q (F0 m 61 ls [])) → W p l e (rmX 1 40) s m ar below meth c H locs 0 0 Q (F0 m 39 ls []) := by
    intro n
    induction n with
    | zero =>
      intro y3 c0_numbers c0_words p0_0 H locs ls hP hD hS hl hok
      rw [fX3_become_L39] at hok
      cases hok
    | succ n ih =>
      intro y3 c0_numbers c0_words p0_0 H locs ls hP hD hS hl hok K
      rw [fX3_become_L39] at hok
      refine lv_iload_n hx hb dX3_become_39 rfl (lv_at hl 1 rfl) ?_
      refine lv_aload_n hx hb dX3_become_40 rfl (lv_at hl 0 rfl) ?_
      refine va_get (ci := 3) (v := .ref h0_words) (C := RX3) (T := TX3) (N := 9) hx hb hts hinX3 hown hK hP 0 rfl rfl 1 (by decide) (hts _ (List.mem_of_getElem? (i := 2) rfl)) (fun _ h9 => h9) rfl dX3_become_41 ?_
      refine va_alen (v := 3) hx hb hK hP 2 0 rfl rfl rfl dX3_become_44 ?_
      refine lv_icmp_ge (tgt := 61) hx hb dX3_become_45 (by decide) (fun c => ?_) (fun c => ?_)
      · replace hok := g_pos hok c
        cases hok
        exact K _ _ _ hP hD hS (lv_sub hl [] rfl)
      replace hok := g_neg hok c
      refine lv_aload_n hx hb dX3_become_48 rfl (lv_at hl 0 rfl) ?_
      refine va_get (ci := 3) (v := .ref h0_words) (C := RX3) (T := TX3) (N := 9) hx hb hts hinX3 hown hK hP 0 rfl rfl 1 (by decide) (hts _ (List.mem_of_getElem? (i := 2) rfl)) (fun _ h9 => h9) rfl dX3_become_49 ?_
      refine lv_iload_n hx hb dX3_become_52 rfl (lv_at hl 1 rfl) ?_
      refine lv_iconst (v := 0) hx hb dX3_become_53 (by decide) ?_
      obtain ⟨hin, hok⟩ := g_no hok
      refine x_iast (k := y3.toNatClampNeg) hx hb hK hP hD hS 2 0 rfl rfl hin rfl dX3_become_54 (fun H locs hP hD hS => ?_)
      have hP : va_P G vwCl (wm_X3_gather cA h0 h0_numbers h0_words s0__all s0__v s0__loss s0__result s0__over s0__heldAll s0__heldRounded c0_numbers (upd c0_words y3.toNatClampNeg (0:Int32))) H := hP
      have hD : va_D A (wm_X3_gather cA h0 h0_numbers h0_words s0__all s0__v s0__loss s0__result s0__over s0__heldAll s0__heldRounded c0_numbers (upd c0_words y3.toNatClampNeg (0:Int32))) := hD
      refine lv_iinc (v := (y3 + 1)) (lv' := [(3, .int (y3 + 1)), (0, .ref h0)]) hx hb dX3_become_55 hl (k := 1) rfl rfl (by decide) rfl (fun ls hl => ?_)
      refine lv_goto (tgt := 39) hx hb dX3_become_58 (by decide) ?_
      exact ih (y3 + 1) c0_numbers (upd c0_words y3.toNatClampNeg (0:Int32)) p0_0 _ _ _ hP hD hS (lv_sub hl [1, 0] rfl) hok K
  have J_37 : ∀ (c0_numbers : Nat → Int32) (c0_words : Nat → Int32) (H : Heap) (locs : List Loc) (ls : Array Slot), va_P G vwCl (wm_X3_gather cA h0 h0_numbers h0_words s0__all s0__v s0__loss s0__result s0__over s0__heldAll s0__heldRounded c0_numbers c0_words) H → va_D A (wm_X3_gather cA h0 h0_numbers h0_words s0__all s0__v s0__loss s0__result s0__over s0__heldAll s0__heldRounded c0_numbers c0_words) → va_S A s.heap H locs → lv_has ls 4 [(0, .ref h0)] → fX3_become_j37 x1 x2 c0_numbers c0_words = some (o0_numbers, o0_words) → W p l e (rmX 1 40) s m ar below meth c H locs 0 0 Q (F0 m 37 ls []) := by
    intro c0_numbers c0_words H locs ls hP hD hS hl hok
    unfold fX3_become_j37 at hok
    refine lv_iconst (v := 0) hx hb dX3_become_37 (by decide) ?_
    refine lv_istore_n (lv' := [(3, .int (0:Int32)), (0, .ref h0)]) hx hb dX3_become_38 rfl hl (by decide) rfl (fun ls hl => ?_)
    obtain ⟨o1, hq, hok⟩ := g_bnd1 hok
    refine L_39 FUEL (0:Int32) c0_numbers c0_words o1 _ _ _ hP hD hS (lv_sub hl [1, 0] rfl) hq (fun H locs ls hP hD hS hl => ?_)
    cases hok
    exact cr_v hx hb hr hlocks hQ dX3_become_61 hP hS
  unfold fX3_become at hok
  refine lv_iload_n hx hb dX3_become_0 rfl (lv_at hl 1 rfl) ?_
  refine lv_if_lt (tgt := 20) hx hb dX3_become_1 (by decide) (fun c => ?_) (fun c => ?_)
  · replace hok := g_pos hok c
    cases hok
    exact cr_v hx hb hr hlocks hQ dX3_become_20 hP hS
  replace hok := g_neg hok c
  refine lv_iload_n hx hb dX3_become_4 rfl (lv_at hl 1 rfl) ?_
  refine lv_bipush (v := 10) hx hb dX3_become_5 (by decide) ?_
  refine lv_icmp_ge (tgt := 20) hx hb dX3_become_7 (by decide) (fun c => ?_) (fun c => ?_)
  · replace hok := g_pos hok c
    cases hok
    exact cr_v hx hb hr hlocks hQ dX3_become_20 hP hS
  replace hok := g_neg hok c
  refine lv_aload_n hx hb dX3_become_10 rfl (lv_at hl 0 rfl) ?_
  refine va_get (ci := 3) (v := .ref h0_numbers) (C := RX3) (T := TX3) (N := 9) hx hb hts hinX3 hown hK hP 0 rfl rfl 0 (by decide) (hts _ (List.mem_of_getElem? (i := 1) rfl)) (fun _ h9 => h9) rfl dX3_become_11 ?_
  refine lv_iload_n hx hb dX3_become_14 rfl (lv_at hl 1 rfl) ?_
  obtain ⟨hin, hok⟩ := g_no hok
  refine x_iald (k := x1.toNatClampNeg) hx hb hK hP 1 0 rfl rfl hin rfl dX3_become_15 ?_
  refine lv_iload_n hx hb dX3_become_16 rfl (lv_at hl 2 rfl) ?_
  refine lv_icmp_ne (tgt := 21) hx hb dX3_become_17 (by decide) (fun c => ?_) (fun c => ?_)
  · replace hok := g_neg hok c
    refine lv_aload_n hx hb dX3_become_21 rfl (lv_at hl 0 rfl) ?_
    refine va_get (ci := 3) (v := .ref h0_numbers) (C := RX3) (T := TX3) (N := 9) hx hb hts hinX3 hown hK hP 0 rfl rfl 0 (by decide) (hts _ (List.mem_of_getElem? (i := 1) rfl)) (fun _ h9 => h9) rfl dX3_become_22 ?_
    refine lv_iload_n hx hb dX3_become_25 rfl (lv_at hl 1 rfl) ?_
    refine lv_iload_n hx hb dX3_become_26 rfl (lv_at hl 2 rfl) ?_
    obtain ⟨hin, hok⟩ := g_no hok
    refine x_iast (k := x1.toNatClampNeg) hx hb hK hP hD hS 1 0 rfl rfl hin rfl dX3_become_27 (fun H locs hP hD hS => ?_)
    have hP : va_P G vwCl (wm_X3_gather cA h0 h0_numbers h0_words s0__all s0__v s0__loss s0__result s0__over s0__heldAll s0__heldRounded (upd s0_numbers x1.toNatClampNeg x2) s0_words) H := hP
    have hD : va_D A (wm_X3_gather cA h0 h0_numbers h0_words s0__all s0__v s0__loss s0__result s0__over s0__heldAll s0__heldRounded (upd s0_numbers x1.toNatClampNeg x2) s0_words) := hD
    refine lv_iload_n hx hb dX3_become_28 rfl (lv_at hl 1 rfl) ?_
    refine lv_if_eq (tgt := 37) hx hb dX3_become_29 (by decide) (fun c => ?_) (fun c => ?_)
    · replace hok := g_pos hok c
      exact J_37 (upd s0_numbers x1.toNatClampNeg x2) s0_words _ _ _ hP hD hS (lv_sub hl [0] rfl) hok
    replace hok := g_neg hok c
    refine lv_iload_n hx hb dX3_become_32 rfl (lv_at hl 1 rfl) ?_
    refine lv_iconst (v := 1) hx hb dX3_become_33 (by decide) ?_
    refine lv_icmp_ne (tgt := 61) hx hb dX3_become_34 (by decide) (fun c => ?_) (fun c => ?_)
    · replace hok := g_neg hok c
      cases hok
      exact cr_v hx hb hr hlocks hQ dX3_become_61 hP hS
    replace hok := g_pos hok c
    exact J_37 (upd s0_numbers x1.toNatClampNeg x2) s0_words _ _ _ hP hD hS (lv_sub hl [0] rfl) hok
  replace hok := g_pos hok c
  cases hok
  exact cr_v hx hb hr hlocks hQ dX3_become_20 hP hS
set_option maxHeartbeats 40000000 in
set_option maxRecDepth 100000 in
theorem c_X3_take (l : Launch) (G : va_G) (cA : Nat → ClassId) (ts : Nat → Nat) (h0 : Nat) (h0_numbers : Nat) (h0_words : Nat) (h1 : Nat) (h1_numbers : Nat) (h1_words : Nat) (s0__all : Int32) (s0__v : Int32) (s0__loss : Int32) (s0__result : Int32) (s0__over : Int32) (s0__heldAll : Int32) (s0__heldRounded : Int32) (s0_numbers : Nat → Int32) (s0_words : Nat → Int32) (s1__all : Int32) (s1__v : Int32) (s1__loss : Int32) (s1__result : Int32) (s1__over : Int32) (s1__heldAll : Int32) (s1__heldRounded : Int32) (s1_numbers : Nat → Int32) (s1_words : Nat → Int32) (o0_numbers : Nat → Int32) (o0_words : Nat → Int32) (hok : fX3_take s0_numbers s0_words s1_numbers s1_words = some (o0_numbers, o0_words)) : Ct l G cA ts yX3_take wsX3_take 1 80 [.ref h0, .ref h1] (wm_X3_take cA h0 h0_numbers h0_words h1 h1_numbers h1_words s0__all s0__v s0__loss s0__result s0__over s0__heldAll s0__heldRounded s0_numbers s0_words s1__all s1__v s1__loss s1__result s1__over s1__heldAll s1__heldRounded s1_numbers s1_words) (wm_X3_take cA h0 h0_numbers h0_words h1 h1_numbers h1_words s0__all s0__v s0__loss s0__result s0__over s0__heldAll s0__heldRounded o0_numbers o0_words s1__all s1__v s1__loss s1__result s1__over s1__heldAll s1__heldRounded s1_numbers s1_words) none := by
  refine Ct.intro (cc := cX3_take) (maxL := 2) (ret := none) (by decide +kernel) rfl (Nat.le_of_ble_eq_true rfl) ?_
  intro p e s m ar below meth c A Q hx hb hr hml hown hlocks hts hK hZ hA hQ hP hD hS ls hl
  have hown : s.vm.findClass RX3 = some m.cls := hown
  have hinX3 : ∀ w ∈ wsX30, w ∈ wsX3_take := fun _ h => List.mem_cons_of_mem _ (List.mem_append_right _ (h))
  have hl : lv_has ls 2 [(0, .ref h0), (1, .ref h1)] := hl
  have hP : va_P G vwCl (wm_X3_take cA h0 h0_numbers h0_words h1 h1_numbers h1_words s0__all s0__v s0__loss s0__result s0__over s0__heldAll s0__heldRounded s0_numbers s0_words s1__all s1__v s1__loss s1__result s1__over s1__heldAll s1__heldRounded s1_numbers s1_words) s.heap := hP
  have hD : va_D A (wm_X3_take cA h0 h0_numbers h0_words h1 h1_numbers h1_words s0__all s0__v s0__loss s0__result s0__over s0__heldAll s0__heldRounded s0_numbers s0_words s1__all s1__v s1__loss s1__result s1__over s1__heldAll s1__heldRounded s1_numbers s1_words) := hD
  unfold fX3_take at hok
  refine lv_aload_n hx hb dX3_take_0 rfl (lv_at hl 1 rfl) ?_
  refine va_get (ci := 3) (v := .ref h1_numbers) (C := RX3) (T := TX3) (N := 9) hx hb hts hinX3 hown hK hP 3 rfl rfl 0 (by decide) (hts _ (List.mem_of_getElem? (i := 1) rfl)) (fun _ h9 => h9) rfl dX3_take_1 ?_
  refine lv_iconst (v := 0) hx hb dX3_take_4 (by decide) ?_
  refine lv_aload_n hx hb dX3_take_5 rfl (lv_at hl 0 rfl) ?_
  refine va_get (ci := 3) (v := .ref h0_numbers) (C := RX3) (T := TX3) (N := 9) hx hb hts hinX3 hown hK hP 0 rfl rfl 0 (by decide) (hts _ (List.mem_of_getElem? (i := 1) rfl)) (fun _ h9 => h9) rfl dX3_take_6 ?_
  refine lv_iconst (v := 0) hx hb dX3_take_9 (by decide) ?_
  refine lv_bipush (v := 10) hx hb dX3_take_10 (by decide) ?_
  obtain ⟨hin, hok⟩ := g_no hok
  refine va_copyi (ty := .int) hx hb (hml.trans hl.1.symm) hown (hts _ (List.mem_of_getElem? (i := 2) rfl)) (hts _ (List.mem_of_getElem? (i := 3) rfl)) (hts _ (List.mem_of_getElem? (i := 4) rfl)) (hts _ (List.mem_of_getElem? (i := 5) rfl)) hK hP hD hS 4 1 0 0 rfl rfl rfl rfl rfl (fun q => hin (Or.inl q)) (fun q => hin (Or.inr (Or.inl q))) (fun q => hin (Or.inr (Or.inr (Or.inl q)))) (Nat.not_lt.mp fun q => hin (Or.inr (Or.inr (Or.inr (Or.inl q))))) (Nat.not_lt.mp fun q => hin (Or.inr (Or.inr (Or.inr (Or.inr q))))) (fun _ _ => rfl) (Nat.le_of_ble_eq_true rfl) (Nat.le_of_ble_eq_true rfl) dX3_take_12 (fun H locs hP hD hS => ?_)
  have hP : va_P G vwCl (wm_X3_take cA h0 h0_numbers h0_words h1 h1_numbers h1_words s0__all s0__v s0__loss s0__result s0__over s0__heldAll s0__heldRounded (va_cpy s1_numbers s0_numbers (0:Int32).toNatClampNeg (0:Int32).toNatClampNeg (10:Int32).toNatClampNeg) s0_words s1__all s1__v s1__loss s1__result s1__over s1__heldAll s1__heldRounded s1_numbers s1_words) H := hP
  have hD : va_D A (wm_X3_take cA h0 h0_numbers h0_words h1 h1_numbers h1_words s0__all s0__v s0__loss s0__result s0__over s0__heldAll s0__heldRounded (va_cpy s1_numbers s0_numbers (0:Int32).toNatClampNeg (0:Int32).toNatClampNeg (10:Int32).toNatClampNeg) s0_words s1__all s1__v s1__loss s1__result s1__over s1__heldAll s1__heldRounded s1_numbers s1_words) := hD
  refine lv_aload_n hx hb dX3_take_15 rfl (lv_at hl 1 rfl) ?_
  refine va_get (ci := 3) (v := .ref h1_words) (C := RX3) (T := TX3) (N := 9) hx hb hts hinX3 hown hK hP 3 rfl rfl 1 (by decide) (hts _ (List.mem_of_getElem? (i := 6) rfl)) (fun _ h9 => h9) rfl dX3_take_16 ?_
  refine lv_iconst (v := 0) hx hb dX3_take_19 (by decide) ?_
  refine lv_aload_n hx hb dX3_take_20 rfl (lv_at hl 0 rfl) ?_
  refine va_get (ci := 3) (v := .ref h0_words) (C := RX3) (T := TX3) (N := 9) hx hb hts hinX3 hown hK hP 0 rfl rfl 1 (by decide) (hts _ (List.mem_of_getElem? (i := 6) rfl)) (fun _ h9 => h9) rfl dX3_take_21 ?_
  refine lv_iconst (v := 0) hx hb dX3_take_24 (by decide) ?_
  refine lv_iconst (v := 3) hx hb dX3_take_25 (by decide) ?_
  obtain ⟨hin, hok⟩ := g_no hok
  refine va_copyi (ty := .int) hx hb (hml.trans hl.1.symm) hown (hts _ (List.mem_of_getElem? (i := 2) rfl)) (hts _ (List.mem_of_getElem? (i := 3) rfl)) (hts _ (List.mem_of_getElem? (i := 4) rfl)) (hts _ (List.mem_of_getElem? (i := 5) rfl)) hK hP hD hS 5 2 0 0 rfl rfl rfl rfl rfl (fun q => hin (Or.inl q)) (fun q => hin (Or.inr (Or.inl q))) (fun q => hin (Or.inr (Or.inr (Or.inl q)))) (Nat.not_lt.mp fun q => hin (Or.inr (Or.inr (Or.inr (Or.inl q))))) (Nat.not_lt.mp fun q => hin (Or.inr (Or.inr (Or.inr (Or.inr q))))) (fun _ _ => rfl) (Nat.le_of_ble_eq_true rfl) (Nat.le_of_ble_eq_true rfl) dX3_take_26 (fun H locs hP hD hS => ?_)
  have hP : va_P G vwCl (wm_X3_take cA h0 h0_numbers h0_words h1 h1_numbers h1_words s0__all s0__v s0__loss s0__result s0__over s0__heldAll s0__heldRounded (va_cpy s1_numbers s0_numbers (0:Int32).toNatClampNeg (0:Int32).toNatClampNeg (10:Int32).toNatClampNeg) (va_cpy s1_words s0_words (0:Int32).toNatClampNeg (0:Int32).toNatClampNeg (3:Int32).toNatClampNeg) s1__all s1__v s1__loss s1__result s1__over s1__heldAll s1__heldRounded s1_numbers s1_words) H := hP
  have hD : va_D A (wm_X3_take cA h0 h0_numbers h0_words h1 h1_numbers h1_words s0__all s0__v s0__loss s0__result s0__over s0__heldAll s0__heldRounded (va_cpy s1_numbers s0_numbers (0:Int32).toNatClampNeg (0:Int32).toNatClampNeg (10:Int32).toNatClampNeg) (va_cpy s1_words s0_words (0:Int32).toNatClampNeg (0:Int32).toNatClampNeg (3:Int32).toNatClampNeg) s1__all s1__v s1__loss s1__result s1__over s1__heldAll s1__heldRounded s1_numbers s1_words) := hD
  cases hok
  exact cr_v hx hb hr hlocks hQ dX3_take_29 hP hS
set_option maxHeartbeats 40000000 in
set_option maxRecDepth 100000 in
theorem c_X3_hasNumbersOf (l : Launch) (G : va_G) (cA : Nat → ClassId) (ts : Nat → Nat) (h0 : Nat) (h0_numbers : Nat) (h1 : Nat) (h1_numbers : Nat) (h0_words : Nat) (h1_words : Nat) (s0__all : Int32) (s0__v : Int32) (s0__loss : Int32) (s0__result : Int32) (s0__over : Int32) (s0__heldAll : Int32) (s0__heldRounded : Int32) (s0_numbers : Nat → Int32) (s1__all : Int32) (s1__v : Int32) (s1__loss : Int32) (s1__result : Int32) (s1__over : Int32) (s1__heldAll : Int32) (s1__heldRounded : Int32) (s1_numbers : Nat → Int32) (r : Int32) (hok : fX3_hasNumbersOf s0_numbers s1_numbers = some r) : Ct l G cA ts yX3_hasNumbersOf wsX3_hasNumbersOf 1 40 [.ref h0, .ref h1] (wm_X3_hasNumbersOf cA h0 h0_numbers h1 h1_numbers h0_words h1_words s0__all s0__v s0__loss s0__result s0__over s0__heldAll s0__heldRounded s0_numbers s1__all s1__v s1__loss s1__result s1__over s1__heldAll s1__heldRounded s1_numbers) (wm_X3_hasNumbersOf cA h0 h0_numbers h1 h1_numbers h0_words h1_words s0__all s0__v s0__loss s0__result s0__over s0__heldAll s0__heldRounded s0_numbers s1__all s1__v s1__loss s1__result s1__over s1__heldAll s1__heldRounded s1_numbers) (some (.int r)) := by
  refine Ct.intro (cc := cX3_hasNumbersOf) (maxL := 3) (ret := some .boolean) (by decide +kernel) rfl (Nat.le_of_ble_eq_true rfl) ?_
  intro p e s m ar below meth c A Q hx hb hr hml hown hlocks hts hK hZ hA hQ hP hD hS ls hl
  have hown : s.vm.findClass RX3 = some m.cls := hown
  have hinX3 : ∀ w ∈ wsX30, w ∈ wsX3_hasNumbersOf := fun _ h => List.mem_cons_of_mem _ (List.mem_append_right _ (h))
  have hl : lv_has ls 3 [(0, .ref h0), (1, .ref h1)] := hl
  have hP : va_P G vwCl (wm_X3_hasNumbersOf cA h0 h0_numbers h1 h1_numbers h0_words h1_words s0__all s0__v s0__loss s0__result s0__over s0__heldAll s0__heldRounded s0_numbers s1__all s1__v s1__loss s1__result s1__over s1__heldAll s1__heldRounded s1_numbers) s.heap := hP
  have hD : va_D A (wm_X3_hasNumbersOf cA h0 h0_numbers h1 h1_numbers h0_words h1_words s0__all s0__v s0__loss s0__result s0__over s0__heldAll s0__heldRounded s0_numbers s1__all s1__v s1__loss s1__result s1__over s1__heldAll s1__heldRounded s1_numbers) := hD
  have L_2 : ∀ (n : Nat) (y2 : Int32) (oE : (Unit) ⊕ (Unit)) (H : Heap) (locs : List Loc) (ls : Array Slot), va_P G vwCl (wm_X3_hasNumbersOf cA h0 h0_numbers h1 h1_numbers h0_words h1_words s0__all s0__v s0__loss s0__result s0__over s0__heldAll s0__heldRounded s0_numbers s1__all s1__v s1__loss s1__result s1__over s1__heldAll s1__heldRounded s1_numbers) H → va_D A (wm_X3_hasNumbersOf cA h0 h0_numbers h1 h1_numbers h0_words h1_words s0__all s0__v s0__loss s0__result s0__over s0__heldAll s0__heldRounded s0_numbers s1__all s1__v s1__loss s1__result s1__over s1__heldAll s1__heldRounded s1_numbers) → va_S A s.heap H locs → lv_has ls 3 [(0, .ref h0), (1, .ref h1), (2, .int y2)] → fX3_hasNumbersOf_L2 s0_numbers s1_numbers n y2 = some oE → (∀ (_ : Unit), oE = .inl () → ∀ (H : Heap) (locs : List Loc) (ls : Array Slot), va_P G vwCl (wm_X3_hasNumbersOf cA h0 h0_numbers h1 h1_numbers h0_words h1_words s0__all s0__v s0__loss s0__result s0__over s0__heldAll s0__heldRounded s0_numbers s1__all s1__v s1__loss s1__result s1__over s1__heldAll s1__heldRounded s1_numbers) H → va_D A (wm_X3_hasNumbersOf cA h0 h0_numbers h1 h1_numbers h0_words h1_words s0__all s0__v s0__loss s0__result s0__over s0__heldAll s0__heldRounded s0_numbers s1__all s1__v s1__loss s1__result s1__over s1__heldAll s1__heldRounded s1_numbers) → va_S A s.heap H locs → lv_has ls 3 [] → W p l e (rmX 1 40) s m ar below meth c H locs 0 0 Q (F0 m 23 ls [])) → (∀ (_ : Unit), oE = .inr (()) → ∀ (H : Heap) (locs : List Loc) (ls : Array Slot), va_P G vwCl (wm_X3_hasNumbersOf cA h0 h0_numbers h1 h1_numbers h0_words h1_words s0__all s0__v s0__loss s0__result s0__over s0__heldAll s0__heldRounded s0_numbers s1__all s1__v s1__loss s1__result s1__over s1__heldAll s1__heldRounded s1_numbers) H → va_D A (wm_X3_hasNumbersOf cA h0 h0_numbers h1 h1_numbers h0_words h1_words s0__all s0__v s0__loss s0__result s0__over s0__heldAll s0__heldRounded s0_numbers s1__all s1__v s1__loss s1__result s1__over s1__heldAll s1__heldRounded s1_numbers) → va_S A s.heap H locs → lv_has ls 3 [] → W p l e (rmX 1 40) s m ar below meth c H locs 0 0 Q (F0 m 31 ls [])) → W p l e (rmX 1 40) s m ar below meth c H locs 0 0 Q (F0 m 2 ls []) := by
    intro n
    induction n with
    | zero =>
      intro y2 oE H locs ls hP hD hS hl hok
      rw [fX3_hasNumbersOf_L2] at hok
      cases hok
    | succ n ih =>
      intro y2 oE H locs ls hP hD hS hl hok  K0 K1
      rw [fX3_hasNumbersOf_L2] at hok
      refine lv_iload_n hx hb dX3_hasNumbersOf_2 rfl (lv_at hl 2 rfl) ?_
      refine lv_bipush (v := 10) hx hb dX3_hasNumbersOf_3 (by decide) ?_
      refine lv_icmp_ge (tgt := 31) hx hb dX3_hasNumbersOf_5 (by decide) (fun c => ?_) (fun c => ?_)
      · replace hok := g_pos hok c
        cases hok
        exact K1 () rfl _ _ _ hP hD hS (lv_sub hl [] rfl)
      replace hok := g_neg hok c
      refine lv_aload_n hx hb dX3_hasNumbersOf_8 rfl (lv_at hl 0 rfl) ?_
      refine va_get (ci := 3) (v := .ref h0_numbers) (C := RX3) (T := TX3) (N := 9) hx hb hts hinX3 hown hK hP 0 rfl rfl 0 (by decide) (hts _ (List.mem_of_getElem? (i := 1) rfl)) (fun _ h9 => h9) rfl dX3_hasNumbersOf_9 ?_
      refine lv_iload_n hx hb dX3_hasNumbersOf_12 rfl (lv_at hl 2 rfl) ?_
      obtain ⟨hin, hok⟩ := g_no hok
      refine x_iald (k := y2.toNatClampNeg) hx hb hK hP 1 0 rfl rfl hin rfl dX3_hasNumbersOf_13 ?_
      refine lv_aload_n hx hb dX3_hasNumbersOf_14 rfl (lv_at hl 1 rfl) ?_
      refine va_get (ci := 3) (v := .ref h1_numbers) (C := RX3) (T := TX3) (N := 9) hx hb hts hinX3 hown hK hP 2 rfl rfl 0 (by decide) (hts _ (List.mem_of_getElem? (i := 1) rfl)) (fun _ h9 => h9) rfl dX3_hasNumbersOf_15 ?_
      refine lv_iload_n hx hb dX3_hasNumbersOf_18 rfl (lv_at hl 2 rfl) ?_
      obtain ⟨hin, hok⟩ := g_no hok
      refine x_iald (k := y2.toNatClampNeg) hx hb hK hP 3 0 rfl rfl hin rfl dX3_hasNumbersOf_19 ?_
      refine lv_icmp_eq (tgt := 25) hx hb dX3_hasNumbersOf_20 (by decide) (fun c => ?_) (fun c => ?_)
      · replace hok := g_pos hok c
        refine lv_iinc (v := (y2 + 1)) (lv' := [(2, .int (y2 + 1)), (0, .ref h0), (1, .ref h1)]) hx hb dX3_hasNumbersOf_25 hl (k := 2) rfl rfl (by decide) rfl (fun ls hl => ?_)
        refine lv_goto (tgt := 2) hx hb dX3_hasNumbersOf_28 (by decide) ?_
        exact ih (y2 + 1) oE _ _ _ hP hD hS (lv_sub hl [1, 2, 0] rfl) hok K0 K1
      replace hok := g_neg hok c
      cases hok
      exact K0 () rfl _ _ _ hP hD hS (lv_sub hl [] rfl)
  unfold fX3_hasNumbersOf at hok
  refine lv_iconst (v := 0) hx hb dX3_hasNumbersOf_0 (by decide) ?_
  refine lv_istore_n (lv' := [(2, .int (0:Int32)), (0, .ref h0), (1, .ref h1)]) hx hb dX3_hasNumbersOf_1 rfl hl (by decide) rfl (fun ls hl => ?_)
  obtain ⟨o1, hq, hok⟩ := g_bnd1 hok
  refine L_2 FUEL (0:Int32) o1 _ _ _ hP hD hS (lv_sub hl [1, 2, 0] rfl) hq (fun _ ho H locs ls hP hD hS hl => ?_) (fun _ ho H locs ls hP hD hS hl => ?_)
  · subst ho
    replace hok := g_inl hok
    replace hok := g_c0 hok
    refine lv_iconst (v := 0) hx hb dX3_hasNumbersOf_23 (by decide) ?_
    cases hok
    exact cr_z (ty := .boolean) (by decide +kernel) hx hb hr hlocks hQ dX3_hasNumbersOf_24 hP hS
  subst ho
  replace hok := g_inr hok
  replace hok := g_c0 hok
  refine lv_iconst (v := 1) hx hb dX3_hasNumbersOf_31 (by decide) ?_
  cases hok
  exact cr_z (ty := .boolean) (by decide +kernel) hx hb hr hlocks hQ dX3_hasNumbersOf_32 hP hS
set_option maxHeartbeats 40000000 in
set_option maxRecDepth 100000 in
theorem c_X3_hasWordsOf (l : Launch) (G : va_G) (cA : Nat → ClassId) (ts : Nat → Nat) (h0 : Nat) (h0_words : Nat) (h1 : Nat) (h1_words : Nat) (h0_numbers : Nat) (h1_numbers : Nat) (s0__all : Int32) (s0__v : Int32) (s0__loss : Int32) (s0__result : Int32) (s0__over : Int32) (s0__heldAll : Int32) (s0__heldRounded : Int32) (s0_words : Nat → Int32) (s1__all : Int32) (s1__v : Int32) (s1__loss : Int32) (s1__result : Int32) (s1__over : Int32) (s1__heldAll : Int32) (s1__heldRounded : Int32) (s1_words : Nat → Int32) (r : Int32) (hok : fX3_hasWordsOf s0_words s1_words = some r) : Ct l G cA ts yX3_hasWordsOf wsX3_hasWordsOf 1 40 [.ref h0, .ref h1] (wm_X3_hasWordsOf cA h0 h0_words h1 h1_words h0_numbers h1_numbers s0__all s0__v s0__loss s0__result s0__over s0__heldAll s0__heldRounded s0_words s1__all s1__v s1__loss s1__result s1__over s1__heldAll s1__heldRounded s1_words) (wm_X3_hasWordsOf cA h0 h0_words h1 h1_words h0_numbers h1_numbers s0__all s0__v s0__loss s0__result s0__over s0__heldAll s0__heldRounded s0_words s1__all s1__v s1__loss s1__result s1__over s1__heldAll s1__heldRounded s1_words) (some (.int r)) := by
  refine Ct.intro (cc := cX3_hasWordsOf) (maxL := 3) (ret := some .boolean) (by decide +kernel) rfl (Nat.le_of_ble_eq_true rfl) ?_
  intro p e s m ar below meth c A Q hx hb hr hml hown hlocks hts hK hZ hA hQ hP hD hS ls hl
  have hown : s.vm.findClass RX3 = some m.cls := hown
  have hinX3 : ∀ w ∈ wsX30, w ∈ wsX3_hasWordsOf := fun _ h => List.mem_cons_of_mem _ (List.mem_append_right _ (h))
  have hl : lv_has ls 3 [(0, .ref h0), (1, .ref h1)] := hl
  have hP : va_P G vwCl (wm_X3_hasWordsOf cA h0 h0_words h1 h1_words h0_numbers h1_numbers s0__all s0__v s0__loss s0__result s0__over s0__heldAll s0__heldRounded s0_words s1__all s1__v s1__loss s1__result s1__over s1__heldAll s1__heldRounded s1_words) s.heap := hP
  have hD : va_D A (wm_X3_hasWordsOf cA h0 h0_words h1 h1_words h0_numbers h1_numbers s0__all s0__v s0__loss s0__result s0__over s0__heldAll s0__heldRounded s0_words s1__all s1__v s1__loss s1__result s1__over s1__heldAll s1__heldRounded s1_words) := hD
  have L_2 : ∀ (n : Nat) (y2 : Int32) (oE : (Unit) ⊕ (Unit)) (H : Heap) (locs : List Loc) (ls : Array Slot), va_P G vwCl (wm_X3_hasWordsOf cA h0 h0_words h1 h1_words h0_numbers h1_numbers s0__all s0__v s0__loss s0__result s0__over s0__heldAll s0__heldRounded s0_words s1__all s1__v s1__loss s1__result s1__over s1__heldAll s1__heldRounded s1_words) H → va_D A (wm_X3_hasWordsOf cA h0 h0_words h1 h1_words h0_numbers h1_numbers s0__all s0__v s0__loss s0__result s0__over s0__heldAll s0__heldRounded s0_words s1__all s1__v s1__loss s1__result s1__over s1__heldAll s1__heldRounded s1_words) → va_S A s.heap H locs → lv_has ls 3 [(0, .ref h0), (1, .ref h1), (2, .int y2)] → fX3_hasWordsOf_L2 s0_words s1_words n y2 = some oE → (∀ (_ : Unit), oE = .inl () → ∀ (H : Heap) (locs : List Loc) (ls : Array Slot), va_P G vwCl (wm_X3_hasWordsOf cA h0 h0_words h1 h1_words h0_numbers h1_numbers s0__all s0__v s0__loss s0__result s0__over s0__heldAll s0__heldRounded s0_words s1__all s1__v s1__loss s1__result s1__over s1__heldAll s1__heldRounded s1_words) H → va_D A (wm_X3_hasWordsOf cA h0 h0_words h1 h1_words h0_numbers h1_numbers s0__all s0__v s0__loss s0__result s0__over s0__heldAll s0__heldRounded s0_words s1__all s1__v s1__loss s1__result s1__over s1__heldAll s1__heldRounded s1_words) → va_S A s.heap H locs → lv_has ls 3 [] → W p l e (rmX 1 40) s m ar below meth c H locs 0 0 Q (F0 m 22 ls [])) → (∀ (_ : Unit), oE = .inr (()) → ∀ (H : Heap) (locs : List Loc) (ls : Array Slot), va_P G vwCl (wm_X3_hasWordsOf cA h0 h0_words h1 h1_words h0_numbers h1_numbers s0__all s0__v s0__loss s0__result s0__over s0__heldAll s0__heldRounded s0_words s1__all s1__v s1__loss s1__result s1__over s1__heldAll s1__heldRounded s1_words) H → va_D A (wm_X3_hasWordsOf cA h0 h0_words h1 h1_words h0_numbers h1_numbers s0__all s0__v s0__loss s0__result s0__over s0__heldAll s0__heldRounded s0_words s1__all s1__v s1__loss s1__result s1__over s1__heldAll s1__heldRounded s1_words) → va_S A s.heap H locs → lv_has ls 3 [] → W p l e (rmX 1 40) s m ar below meth c H locs 0 0 Q (F0 m 30 ls [])) → W p l e (rmX 1 40) s m ar below meth c H locs 0 0 Q (F0 m 2 ls []) := by
    intro n
    induction n with
    | zero =>
      intro y2 oE H locs ls hP hD hS hl hok
      rw [fX3_hasWordsOf_L2] at hok
      cases hok
    | succ n ih =>
      intro y2 oE H locs ls hP hD hS hl hok  K0 K1
      rw [fX3_hasWordsOf_L2] at hok
      refine lv_iload_n hx hb dX3_hasWordsOf_2 rfl (lv_at hl 2 rfl) ?_
      refine lv_iconst (v := 3) hx hb dX3_hasWordsOf_3 (by decide) ?_
      refine lv_icmp_ge (tgt := 30) hx hb dX3_hasWordsOf_4 (by decide) (fun c => ?_) (fun c => ?_)
      · replace hok := g_pos hok c
        cases hok
        exact K1 () rfl _ _ _ hP hD hS (lv_sub hl [] rfl)
      replace hok := g_neg hok c
      refine lv_aload_n hx hb dX3_hasWordsOf_7 rfl (lv_at hl 0 rfl) ?_
      refine va_get (ci := 3) (v := .ref h0_words) (C := RX3) (T := TX3) (N := 9) hx hb hts hinX3 hown hK hP 0 rfl rfl 1 (by decide) (hts _ (List.mem_of_getElem? (i := 1) rfl)) (fun _ h9 => h9) rfl dX3_hasWordsOf_8 ?_
      refine lv_iload_n hx hb dX3_hasWordsOf_11 rfl (lv_at hl 2 rfl) ?_
      obtain ⟨hin, hok⟩ := g_no hok
      refine x_iald (k := y2.toNatClampNeg) hx hb hK hP 1 0 rfl rfl hin rfl dX3_hasWordsOf_12 ?_
      refine lv_aload_n hx hb dX3_hasWordsOf_13 rfl (lv_at hl 1 rfl) ?_
      refine va_get (ci := 3) (v := .ref h1_words) (C := RX3) (T := TX3) (N := 9) hx hb hts hinX3 hown hK hP 2 rfl rfl 1 (by decide) (hts _ (List.mem_of_getElem? (i := 1) rfl)) (fun _ h9 => h9) rfl dX3_hasWordsOf_14 ?_
      refine lv_iload_n hx hb dX3_hasWordsOf_17 rfl (lv_at hl 2 rfl) ?_
      obtain ⟨hin, hok⟩ := g_no hok
      refine x_iald (k := y2.toNatClampNeg) hx hb hK hP 3 0 rfl rfl hin rfl dX3_hasWordsOf_18 ?_
      refine lv_icmp_eq (tgt := 24) hx hb dX3_hasWordsOf_19 (by decide) (fun c => ?_) (fun c => ?_)
      · replace hok := g_pos hok c
        refine lv_iinc (v := (y2 + 1)) (lv' := [(2, .int (y2 + 1)), (0, .ref h0), (1, .ref h1)]) hx hb dX3_hasWordsOf_24 hl (k := 2) rfl rfl (by decide) rfl (fun ls hl => ?_)
        refine lv_goto (tgt := 2) hx hb dX3_hasWordsOf_27 (by decide) ?_
        exact ih (y2 + 1) oE _ _ _ hP hD hS (lv_sub hl [1, 2, 0] rfl) hok K0 K1
      replace hok := g_neg hok c
      cases hok
      exact K0 () rfl _ _ _ hP hD hS (lv_sub hl [] rfl)
  unfold fX3_hasWordsOf at hok
  refine lv_iconst (v := 0) hx hb dX3_hasWordsOf_0 (by decide) ?_
  refine lv_istore_n (lv' := [(2, .int (0:Int32)), (0, .ref h0), (1, .ref h1)]) hx hb dX3_hasWordsOf_1 rfl hl (by decide) rfl (fun ls hl => ?_)
  obtain ⟨o1, hq, hok⟩ := g_bnd1 hok
  refine L_2 FUEL (0:Int32) o1 _ _ _ hP hD hS (lv_sub hl [1, 2, 0] rfl) hq (fun _ ho H locs ls hP hD hS hl => ?_) (fun _ ho H locs ls hP hD hS hl => ?_)
  · subst ho
    replace hok := g_inl hok
    replace hok := g_c0 hok
    refine lv_iconst (v := 0) hx hb dX3_hasWordsOf_22 (by decide) ?_
    cases hok
    exact cr_z (ty := .boolean) (by decide +kernel) hx hb hr hlocks hQ dX3_hasWordsOf_23 hP hS
  subst ho
  replace hok := g_inr hok
  replace hok := g_c0 hok
  refine lv_iconst (v := 1) hx hb dX3_hasWordsOf_30 (by decide) ?_
  cases hok
  exact cr_z (ty := .boolean) (by decide +kernel) hx hb hr hlocks hQ dX3_hasWordsOf_31 hP hS
set_option maxHeartbeats 40000000 in
set_option maxRecDepth 100000 in
theorem c_X3_packed (l : Launch) (G : va_G) (cA : Nat → ClassId) (ts : Nat → Nat) (h0 : Nat) (h0_numbers : Nat) (h0_words : Nat) (s0__all : Int32) (s0__v : Int32) (s0__loss : Int32) (s0__result : Int32) (s0__over : Int32) (s0__heldAll : Int32) (s0__heldRounded : Int32) (s0_numbers : Nat → Int32) (s0_words : Nat → Int32) (r : Int32) (hok : fX3_packed s0_numbers s0_words = some r) : Ct l G cA ts yX3_packed wsX3_packed 2 60 [.ref h0] (wm_X3_gather cA h0 h0_numbers h0_words s0__all s0__v s0__loss s0__result s0__over s0__heldAll s0__heldRounded s0_numbers s0_words) (wm_X3_gather cA h0 h0_numbers h0_words s0__all s0__v s0__loss s0__result s0__over s0__heldAll s0__heldRounded s0_numbers s0_words) (some (.int r)) := by
  refine Ct.intro (cc := cX3_packed) (maxL := 3) (ret := some .int) (by decide +kernel) rfl (Nat.le_of_ble_eq_true rfl) ?_
  intro p e s m ar below meth c A Q hx hb hr hml hown hlocks hts hK hZ hA hQ hP hD hS ls hl
  have hown : s.vm.findClass RX3 = some m.cls := hown
  have hinX3 : ∀ w ∈ wsX30, w ∈ wsX3_packed := fun _ h => List.mem_cons_of_mem _ (List.mem_append_right _ (h))
  have hl : lv_has ls 3 [(0, .ref h0)] := hl
  have hP : va_P G vwCl (wm_X3_gather cA h0 h0_numbers h0_words s0__all s0__v s0__loss s0__result s0__over s0__heldAll s0__heldRounded s0_numbers s0_words) s.heap := hP
  have hD : va_D A (wm_X3_gather cA h0 h0_numbers h0_words s0__all s0__v s0__loss s0__result s0__over s0__heldAll s0__heldRounded s0_numbers s0_words) := hD
  have L_4 : ∀ (n : Nat) (y1 : Int32) (y2 : Int32) (p0_0 : Int32) (H : Heap) (locs : List Loc) (ls : Array Slot), va_P G vwCl (wm_X3_gather cA h0 h0_numbers h0_words s0__all s0__v s0__loss s0__result s0__over s0__heldAll s0__heldRounded s0_numbers s0_words) H → va_D A (wm_X3_gather cA h0 h0_numbers h0_words s0__all s0__v s0__loss s0__result s0__over s0__heldAll s0__heldRounded s0_numbers s0_words) → va_S A s.heap H locs → lv_has ls 3 [(0, .ref h0), (1, .int y1), (2, .int y2)] → fX3_packed_L4 s0_numbers s0_words n y1 y2 = some p0_0 → (∀ (H : Heap) (locs : List Loc) (ls : Array Slot), va_P G vwCl (wm_X3_gather cA h0 h0_numbers h0_words s0__all s0__v s0__loss s0__result s0__over s0__heldAll s0__heldRounded s0_numbers s0_words) H → va_D A (wm_X3_gather cA h0 h0_numbers h0_words s0__all s0__v s0__loss s0__result s0__over s0__heldAll s0__heldRounded s0_numbers s0_words) → va_S A s.heap H locs → lv_has ls 3 [(1, .int p0_0)] → W p l e (rmX 2 60) s m ar below meth c H locs 0 0 Q (F0 m 46 ls [])) → W p l e (rmX 2 60) s m ar below meth c H locs 0 0 Q (F0 m 4 ls []) := by
    intro n
    induction n with
    | zero =>
      intro y1 y2 p0_0 H locs ls hP hD hS hl hok
      rw [fX3_packed_L4] at hok
      cases hok
    | succ n ih =>
      intro y1 y2 p0_0 H locs ls hP hD hS hl hok K
      rw [fX3_packed_L4] at hok
      refine lv_iload_n hx hb dX3_packed_4 rfl (lv_at hl 2 rfl) ?_
      refine lv_aload_n hx hb dX3_packed_5 rfl (lv_at hl 0 rfl) ?_
      refine va_get (ci := 3) (v := .ref h0_numbers) (C := RX3) (T := TX3) (N := 9) hx hb hts hinX3 hown hK hP 0 rfl rfl 0 (by decide) (hts _ (List.mem_of_getElem? (i := 1) rfl)) (fun _ h9 => h9) rfl dX3_packed_6 ?_
      refine lv_iconst (v := 0) hx hb dX3_packed_9 (by decide) ?_
      refine x_iald (k := 0) hx hb hK hP 1 0 rfl rfl (show ¬ ((0:Int32) < 0 ∨ 10 ≤ (0:Int32).toNatClampNeg) by decide) (by decide) dX3_packed_10 ?_
      refine lv_icmp_ge (tgt := 46) hx hb dX3_packed_11 (by decide) (fun c => ?_) (fun c => ?_)
      · replace hok := g_pos hok c
        cases hok
        exact K _ _ _ hP hD hS (lv_sub hl [1] rfl)
      replace hok := g_neg hok c
      refine lv_iload_n hx hb dX3_packed_14 rfl (lv_at hl 2 rfl) ?_
      refine lv_iconst (v := 3) hx hb dX3_packed_15 (by decide) ?_
      refine lv_icmp_ge (tgt := 46) hx hb dX3_packed_16 (by decide) (fun c => ?_) (fun c => ?_)
      · replace hok := g_pos hok c
        cases hok
        exact K _ _ _ hP hD hS (lv_sub hl [1] rfl)
      replace hok := g_neg hok c
      refine lv_iload_n hx hb dX3_packed_19 rfl (lv_at hl 1 rfl) ?_
      refine lv_aload_n hx hb dX3_packed_20 rfl (lv_at hl 0 rfl) ?_
      refine va_get (ci := 3) (v := .ref h0_numbers) (C := RX3) (T := TX3) (N := 9) hx hb hts hinX3 hown hK hP 0 rfl rfl 0 (by decide) (hts _ (List.mem_of_getElem? (i := 1) rfl)) (fun _ h9 => h9) rfl dX3_packed_21 ?_
      refine lv_iconst (v := 1) hx hb dX3_packed_24 (by decide) ?_
      refine x_iald (k := 1) hx hb hK hP 1 0 rfl rfl (show ¬ ((1:Int32) < 0 ∨ 10 ≤ (1:Int32).toNatClampNeg) by decide) (by decide) dX3_packed_25 ?_
      refine lv_ishl hx hb dX3_packed_26 ?_
      refine lv_aload_n hx hb dX3_packed_27 rfl (lv_at hl 0 rfl) ?_
      refine va_get (ci := 3) (v := .ref h0_words) (C := RX3) (T := TX3) (N := 9) hx hb hts hinX3 hown hK hP 0 rfl rfl 1 (by decide) (hts _ (List.mem_of_getElem? (i := 2) rfl)) (fun _ h9 => h9) rfl dX3_packed_28 ?_
      refine lv_iload_n hx hb dX3_packed_31 rfl (lv_at hl 2 rfl) ?_
      obtain ⟨hin, hok⟩ := g_no hok
      refine x_iald (k := y2.toNatClampNeg) hx hb hK hP 2 0 rfl rfl hin rfl dX3_packed_32 ?_
      refine lv_iadd hx hb dX3_packed_33 ?_
      refine lv_aload_n hx hb dX3_packed_34 rfl (lv_at hl 0 rfl) ?_
      obtain ⟨r1, hq, hok⟩ := g_bnd1 hok
      refine cG (is := [0, 1]) (wc := (wm_X3_unit cA h0 h0_numbers h0_words s0__all s0__v s0__loss s0__result s0__over s0__heldAll s0__heldRounded s0_numbers)) (w1 := (wm_X3_unit cA h0 h0_numbers h0_words s0__all s0__v s0__loss s0__result s0__over s0__heldAll s0__heldRounded s0_numbers)) (rv := (some (.int r1))) (st1 := [.int r1, .int ((y1 <<< ((s0_numbers 1) &&& 31)) + (s0_words y2.toNatClampNeg))]) (va_runV (Ts := wsX3_packed) (As := []) (rest := [.int ((y1 <<< ((s0_numbers 1) &&& 31)) + (s0_words y2.toNatClampNeg))]) ⟨hx, hb, hml, hown, hts⟩ (c_X3_half l G cA ts h0 h0_numbers h0_words s0__all s0__v s0__loss s0__result s0__over s0__heldAll s0__heldRounded s0_numbers r1 hq H.size) (cwV 0 hts gX3_packed_X3_half rfl rfl rfl (by decide +kernel) ⟨Nat.le_of_ble_eq_true rfl, Nat.le_of_ble_eq_true rfl⟩) (pre_V (ci := 3) (q0 := 0) (is := [0, 1]) rfl rfl hP hD hS hA hK hZ (by decide +kernel) (by rfl)) rfl rfl hl.1 rfl (by exact lv_room (Nat.le_of_ble_eq_true rfl)) dX3_packed_35 ⟨Nat.le_refl _, Nat.le_refl _⟩) hP hD hS hA (by decide +kernel) (by rfl) (by rfl) rfl (fun H locs hP hD hS => ?_)
      have hP : va_P G vwCl (wm_X3_gather cA h0 h0_numbers h0_words s0__all s0__v s0__loss s0__result s0__over s0__heldAll s0__heldRounded s0_numbers s0_words) H := hP
      have hD : va_D A (wm_X3_gather cA h0 h0_numbers h0_words s0__all s0__v s0__loss s0__result s0__over s0__heldAll s0__heldRounded s0_numbers s0_words) := hD
      refine lv_iadd hx hb dX3_packed_38 ?_
      refine lv_istore_n (lv' := [(1, .int (((y1 <<< ((s0_numbers 1) &&& 31)) + (s0_words y2.toNatClampNeg)) + r1)), (0, .ref h0), (2, .int y2)]) hx hb dX3_packed_39 rfl hl (by decide) rfl (fun ls hl => ?_)
      refine lv_iinc (v := (y2 + 1)) (lv' := [(2, .int (y2 + 1)), (1, .int (((y1 <<< ((s0_numbers 1) &&& 31)) + (s0_words y2.toNatClampNeg)) + r1)), (0, .ref h0)]) hx hb dX3_packed_40 hl (k := 2) rfl rfl (by decide) rfl (fun ls hl => ?_)
      refine lv_goto (tgt := 4) hx hb dX3_packed_43 (by decide) ?_
      exact ih (((y1 <<< ((s0_numbers 1) &&& 31)) + (s0_words y2.toNatClampNeg)) + r1) (y2 + 1) p0_0 _ _ _ hP hD hS (lv_sub hl [2, 1, 0] rfl) hok K
  unfold fX3_packed at hok
  refine lv_iconst (v := 0) hx hb dX3_packed_0 (by decide) ?_
  refine lv_istore_n (lv' := [(1, .int (0:Int32)), (0, .ref h0)]) hx hb dX3_packed_1 rfl hl (by decide) rfl (fun ls hl => ?_)
  refine lv_iconst (v := 0) hx hb dX3_packed_2 (by decide) ?_
  refine lv_istore_n (lv' := [(2, .int (0:Int32)), (1, .int (0:Int32)), (0, .ref h0)]) hx hb dX3_packed_3 rfl hl (by decide) rfl (fun ls hl => ?_)
  obtain ⟨o2, hq, hok⟩ := g_bnd1 hok
  refine L_4 FUEL (0:Int32) (0:Int32) o2 _ _ _ hP hD hS (lv_sub hl [2, 1, 0] rfl) hq (fun H locs ls hP hD hS hl => ?_)
  refine lv_iload_n hx hb dX3_packed_46 rfl (lv_at hl 0 rfl) ?_
  cases hok
  exact cr_i hx hb hr hlocks hQ dX3_packed_47 hP hS
set_option maxHeartbeats 40000000 in
set_option maxRecDepth 100000 in
theorem c_X3_unpack (l : Launch) (G : va_G) (cA : Nat → ClassId) (ts : Nat → Nat) (h0 : Nat) (h0_numbers : Nat) (h0_words : Nat) (x1 : Int32) (s0__all : Int32) (s0__v : Int32) (s0__loss : Int32) (s0__result : Int32) (s0__over : Int32) (s0__heldAll : Int32) (s0__heldRounded : Int32) (s0_numbers : Nat → Int32) (s0_words : Nat → Int32) (o0_words : Nat → Int32) (hok : fX3_unpack x1 s0_numbers s0_words = some o0_words) : Ct l G cA ts yX3_unpack wsX3_unpack 2 80 [.ref h0, .int x1] (wm_X3_gather cA h0 h0_numbers h0_words s0__all s0__v s0__loss s0__result s0__over s0__heldAll s0__heldRounded s0_numbers s0_words) (wm_X3_gather cA h0 h0_numbers h0_words s0__all s0__v s0__loss s0__result s0__over s0__heldAll s0__heldRounded s0_numbers o0_words) none := by
  refine Ct.intro (cc := cX3_unpack) (maxL := 4) (ret := none) (by decide +kernel) rfl (Nat.le_of_ble_eq_true rfl) ?_
  intro p e s m ar below meth c A Q hx hb hr hml hown hlocks hts hK hZ hA hQ hP hD hS ls hl
  have hown : s.vm.findClass RX3 = some m.cls := hown
  have hinX3 : ∀ w ∈ wsX30, w ∈ wsX3_unpack := fun _ h => List.mem_cons_of_mem _ (List.mem_append_right _ (h))
  have hl : lv_has ls 4 [(0, .ref h0), (1, .int x1)] := hl
  have hP : va_P G vwCl (wm_X3_gather cA h0 h0_numbers h0_words s0__all s0__v s0__loss s0__result s0__over s0__heldAll s0__heldRounded s0_numbers s0_words) s.heap := hP
  have hD : va_D A (wm_X3_gather cA h0 h0_numbers h0_words s0__all s0__v s0__loss s0__result s0__over s0__heldAll s0__heldRounded s0_numbers s0_words) := hD
  have L_15 : ∀ (n : Nat) (y2 : Int32) (y3 : Int32) (c0_words : Nat → Int32) (p0_0 : Nat → Int32) (H : Heap) (locs : List Loc) (ls : Array Slot), va_P G vwCl (wm_X3_gather cA h0 h0_numbers h0_words s0__all s0__v s0__loss s0__result s0__over s0__heldAll s0__heldRounded s0_numbers c0_words) H → va_D A (wm_X3_gather cA h0 h0_numbers h0_words s0__all s0__v s0__loss s0__result s0__over s0__heldAll s0__heldRounded s0_numbers c0_words) → va_S A s.heap H locs → lv_has ls 4 [(0, .ref h0), (2, .int y2), (3, .int y3)] → fX3_unpack_L15 x1 s0_numbers n y2 y3 c0_words = some p0_0 → (∀ (H : Heap) (locs : List Loc) (ls : Array Slot), va_P G vwCl (wm_X3_gather cA h0 h0_numbers h0_words s0__all s0__v s0__loss s0__result s0__over s0__heldAll s0__heldRounded s0_numbers p0_0) H → va_D A (wm_X3_gather cA h0 h0_numbers h0_words s0__all s0__v s0__loss s0__result s0__over s0__heldAll s0__heldRounded s0_numbers p0_0) → va_S A s.heap H locs → lv_has ls 4 [] → W p l e (rmX 2 80) s m ar below meth c H locs 0 0 Q (F0 m 55 ls [])) → W p l e (rmX 2 80) s m ar below meth c H locs 0 0 Q (F0 m 15 ls []) := by
    intro n
    induction n with
    | zero =>
      intro y2 y3 c0_words p0_0 H locs ls hP hD hS hl hok
      rw [fX3_unpack_L15] at hok
      cases hok
    | succ n ih =>
      intro y2 y3 c0_words p0_0 H locs ls hP hD hS hl hok K
      rw [fX3_unpack_L15] at hok
      refine lv_iload_n hx hb dX3_unpack_15 rfl (lv_at hl 2 rfl) ?_
      refine lv_if_lt (tgt := 55) hx hb dX3_unpack_16 (by decide) (fun c => ?_) (fun c => ?_)
      · replace hok := g_pos hok c
        cases hok
        exact K _ _ _ hP hD hS (lv_sub hl [] rfl)
      replace hok := g_neg hok c
      refine lv_aload_n hx hb dX3_unpack_19 rfl (lv_at hl 0 rfl) ?_
      refine va_get (ci := 3) (v := .ref h0_words) (C := RX3) (T := TX3) (N := 9) hx hb hts hinX3 hown hK hP 0 rfl rfl 1 (by decide) (hts _ (List.mem_of_getElem? (i := 6) rfl)) (fun _ h9 => h9) rfl dX3_unpack_20 ?_
      refine lv_iload_n hx hb dX3_unpack_23 rfl (lv_at hl 2 rfl) ?_
      refine lv_iload_n hx hb dX3_unpack_24 rfl (lv_at hl 1 rfl) ?_
      refine lv_iconst (v := 2) hx hb dX3_unpack_25 (by decide) ?_
      refine lv_aload_n hx hb dX3_unpack_26 rfl (lv_at hl 0 rfl) ?_
      obtain ⟨r1, hq, hok⟩ := g_bnd1 hok
      refine cG (is := [0, 1]) (wc := (wm_X3_unit cA h0 h0_numbers h0_words s0__all s0__v s0__loss s0__result s0__over s0__heldAll s0__heldRounded s0_numbers)) (w1 := (wm_X3_unit cA h0 h0_numbers h0_words s0__all s0__v s0__loss s0__result s0__over s0__heldAll s0__heldRounded s0_numbers)) (rv := (some (.int r1))) (st1 := [.int r1, .int (2:Int32), .int y2, .int y3, .ref h0_words]) (va_runV (Ts := wsX3_unpack) (As := []) (rest := [.int (2:Int32), .int y2, .int y3, .ref h0_words]) ⟨hx, hb, hml, hown, hts⟩ (c_X3_half l G cA ts h0 h0_numbers h0_words s0__all s0__v s0__loss s0__result s0__over s0__heldAll s0__heldRounded s0_numbers r1 hq H.size) (cwV 0 hts gX3_unpack_X3_half rfl rfl rfl (by decide +kernel) ⟨Nat.le_of_ble_eq_true rfl, Nat.le_of_ble_eq_true rfl⟩) (pre_V (ci := 3) (q0 := 0) (is := [0, 1]) rfl rfl hP hD hS hA hK hZ (by decide +kernel) (by rfl)) rfl rfl hl.1 rfl (by exact lv_room (Nat.le_of_ble_eq_true rfl)) dX3_unpack_27 ⟨Nat.le_refl _, Nat.le_refl _⟩) hP hD hS hA (by decide +kernel) (by rfl) (by rfl) rfl (fun H locs hP hD hS => ?_)
      have hP : va_P G vwCl (wm_X3_gather cA h0 h0_numbers h0_words s0__all s0__v s0__loss s0__result s0__over s0__heldAll s0__heldRounded s0_numbers c0_words) H := hP
      have hD : va_D A (wm_X3_gather cA h0 h0_numbers h0_words s0__all s0__v s0__loss s0__result s0__over s0__heldAll s0__heldRounded s0_numbers c0_words) := hD
      refine lv_imul hx hb dX3_unpack_30 ?_
      refine lv_iconst (v := 1) hx hb dX3_unpack_31 (by decide) ?_
      refine lv_isub hx hb dX3_unpack_32 ?_
      refine lv_iand hx hb dX3_unpack_33 ?_
      refine lv_aload_n hx hb dX3_unpack_34 rfl (lv_at hl 0 rfl) ?_
      obtain ⟨r2, hq, hok⟩ := g_bnd1 hok
      refine cG (is := [0, 1]) (wc := (wm_X3_unit cA h0 h0_numbers h0_words s0__all s0__v s0__loss s0__result s0__over s0__heldAll s0__heldRounded s0_numbers)) (w1 := (wm_X3_unit cA h0 h0_numbers h0_words s0__all s0__v s0__loss s0__result s0__over s0__heldAll s0__heldRounded s0_numbers)) (rv := (some (.int r2))) (st1 := [.int r2, .int (y2 &&& (((2:Int32) * r1) - (1:Int32))), .int y3, .ref h0_words]) (va_runV (Ts := wsX3_unpack) (As := []) (rest := [.int (y2 &&& (((2:Int32) * r1) - (1:Int32))), .int y3, .ref h0_words]) ⟨hx, hb, hml, hown, hts⟩ (c_X3_half l G cA ts h0 h0_numbers h0_words s0__all s0__v s0__loss s0__result s0__over s0__heldAll s0__heldRounded s0_numbers r2 hq H.size) (cwV 0 hts gX3_unpack_X3_half rfl rfl rfl (by decide +kernel) ⟨Nat.le_of_ble_eq_true rfl, Nat.le_of_ble_eq_true rfl⟩) (pre_V (ci := 3) (q0 := 0) (is := [0, 1]) rfl rfl hP hD hS hA hK hZ (by decide +kernel) (by rfl)) rfl rfl hl.1 rfl (by exact lv_room (Nat.le_of_ble_eq_true rfl)) dX3_unpack_35 ⟨Nat.le_refl _, Nat.le_refl _⟩) hP hD hS hA (by decide +kernel) (by rfl) (by rfl) rfl (fun H locs hP hD hS => ?_)
      have hP : va_P G vwCl (wm_X3_gather cA h0 h0_numbers h0_words s0__all s0__v s0__loss s0__result s0__over s0__heldAll s0__heldRounded s0_numbers c0_words) H := hP
      have hD : va_D A (wm_X3_gather cA h0 h0_numbers h0_words s0__all s0__v s0__loss s0__result s0__over s0__heldAll s0__heldRounded s0_numbers c0_words) := hD
      refine lv_isub hx hb dX3_unpack_38 ?_
      obtain ⟨hin, hok⟩ := g_no hok
      refine x_iast (k := y3.toNatClampNeg) hx hb hK hP hD hS 2 0 rfl rfl hin rfl dX3_unpack_39 (fun H locs hP hD hS => ?_)
      have hP : va_P G vwCl (wm_X3_gather cA h0 h0_numbers h0_words s0__all s0__v s0__loss s0__result s0__over s0__heldAll s0__heldRounded s0_numbers (upd c0_words y3.toNatClampNeg ((y2 &&& (((2:Int32) * r1) - (1:Int32))) - r2))) H := hP
      have hD : va_D A (wm_X3_gather cA h0 h0_numbers h0_words s0__all s0__v s0__loss s0__result s0__over s0__heldAll s0__heldRounded s0_numbers (upd c0_words y3.toNatClampNeg ((y2 &&& (((2:Int32) * r1) - (1:Int32))) - r2))) := hD
      refine lv_iload_n hx hb dX3_unpack_40 rfl (lv_at hl 1 rfl) ?_
      refine lv_aload_n hx hb dX3_unpack_41 rfl (lv_at hl 0 rfl) ?_
      refine va_get (ci := 3) (v := .ref h0_numbers) (C := RX3) (T := TX3) (N := 9) hx hb hts hinX3 hown hK hP 0 rfl rfl 0 (by decide) (hts _ (List.mem_of_getElem? (i := 1) rfl)) (fun _ h9 => h9) rfl dX3_unpack_42 ?_
      refine lv_iconst (v := 1) hx hb dX3_unpack_45 (by decide) ?_
      refine x_iald (k := 1) hx hb hK hP 1 0 rfl rfl (show ¬ ((1:Int32) < 0 ∨ 10 ≤ (1:Int32).toNatClampNeg) by decide) (by decide) dX3_unpack_46 ?_
      refine lv_ishr hx hb dX3_unpack_47 ?_
      refine lv_istore_n (lv' := [(2, .int (y2 >>> ((s0_numbers 1) &&& 31))), (0, .ref h0), (3, .int y3)]) hx hb dX3_unpack_48 rfl hl (by decide) rfl (fun ls hl => ?_)
      refine lv_iinc (v := (y3 + (-1))) (lv' := [(3, .int (y3 + (-1))), (2, .int (y2 >>> ((s0_numbers 1) &&& 31))), (0, .ref h0)]) hx hb dX3_unpack_49 hl (k := 2) rfl rfl (by decide) rfl (fun ls hl => ?_)
      refine lv_goto (tgt := 15) hx hb dX3_unpack_52 (by decide) ?_
      exact ih (y2 >>> ((s0_numbers 1) &&& 31)) (y3 + (-1)) (upd c0_words y3.toNatClampNeg ((y2 &&& (((2:Int32) * r1) - (1:Int32))) - r2)) p0_0 _ _ _ hP hD hS (lv_sub hl [2, 1, 0] rfl) hok K
  unfold fX3_unpack at hok
  refine lv_iload_n hx hb dX3_unpack_0 rfl (lv_at hl 1 rfl) ?_
  refine lv_istore_n (lv' := [(2, .int x1), (0, .ref h0), (1, .int x1)]) hx hb dX3_unpack_1 rfl hl (by decide) rfl (fun ls hl => ?_)
  refine lv_aload_n hx hb dX3_unpack_2 rfl (lv_at hl 1 rfl) ?_
  refine va_get (ci := 3) (v := .ref h0_numbers) (C := RX3) (T := TX3) (N := 9) hx hb hts hinX3 hown hK hP 0 rfl rfl 0 (by decide) (hts _ (List.mem_of_getElem? (i := 1) rfl)) (fun _ h9 => h9) rfl dX3_unpack_3 ?_
  refine lv_iconst (v := 0) hx hb dX3_unpack_6 (by decide) ?_
  refine x_iald (k := 0) hx hb hK hP 1 0 rfl rfl (show ¬ ((0:Int32) < 0 ∨ 10 ≤ (0:Int32).toNatClampNeg) by decide) (by decide) dX3_unpack_7 ?_
  refine lv_iconst (v := 3) hx hb dX3_unpack_8 (by decide) ?_
  refine va_mmin hx hb (hml.trans hl.1.symm) hown (hts _ (List.mem_of_getElem? (i := 2) rfl)) (hts _ (List.mem_of_getElem? (i := 3) rfl)) (hts _ (List.mem_of_getElem? (i := 4) rfl)) (hts _ (List.mem_of_getElem? (i := 5) rfl)) (Nat.le_of_ble_eq_true rfl) (Nat.le_of_ble_eq_true rfl) (Nat.zero_le _) (Nat.zero_le _) dX3_unpack_9 ?_
  refine lv_iconst (v := 1) hx hb dX3_unpack_12 (by decide) ?_
  refine lv_isub hx hb dX3_unpack_13 ?_
  refine lv_istore_n (lv' := [(3, .int ((if (3:Int32) < (s0_numbers 0) then (3:Int32) else (s0_numbers 0)) - (1:Int32))), (2, .int x1), (0, .ref h0), (1, .int x1)]) hx hb dX3_unpack_14 rfl hl (by decide) rfl (fun ls hl => ?_)
  obtain ⟨o3, hq, hok⟩ := g_bnd1 hok
  refine L_15 FUEL x1 ((if (3:Int32) < (s0_numbers 0) then (3:Int32) else (s0_numbers 0)) - (1:Int32)) s0_words o3 _ _ _ hP hD hS (lv_sub hl [2, 1, 0] rfl) hq (fun H locs ls hP hD hS hl => ?_)
  cases hok
  exact cr_v hx hb hr hlocks hQ dX3_unpack_55 hP hS
set_option maxHeartbeats 40000000 in
set_option maxRecDepth 100000 in
theorem c_X3_latestIn (l : Launch) (G : va_G) (cA : Nat → ClassId) (ts : Nat → Nat) (h0 : Nat) (h0_numbers : Nat) (h0_words : Nat) (x1 : Int32) (s0__all : Int32) (s0__v : Int32) (s0__loss : Int32) (s0__result : Int32) (s0__over : Int32) (s0__heldAll : Int32) (s0__heldRounded : Int32) (s0_numbers : Nat → Int32) (r : Int32) (hok : fX3_latestIn x1 s0_numbers = some r) : Ct l G cA ts yX3_latestIn wsX3_latestIn 2 60 [.ref h0, .int x1] (wm_X3_unit cA h0 h0_numbers h0_words s0__all s0__v s0__loss s0__result s0__over s0__heldAll s0__heldRounded s0_numbers) (wm_X3_unit cA h0 h0_numbers h0_words s0__all s0__v s0__loss s0__result s0__over s0__heldAll s0__heldRounded s0_numbers) (some (.int r)) := by
  refine Ct.intro (cc := cX3_latestIn) (maxL := 2) (ret := some .int) (by decide +kernel) rfl (Nat.le_of_ble_eq_true rfl) ?_
  intro p e s m ar below meth c A Q hx hb hr hml hown hlocks hts hK hZ hA hQ hP hD hS ls hl
  have hown : s.vm.findClass RX3 = some m.cls := hown
  have hinX3 : ∀ w ∈ wsX30, w ∈ wsX3_latestIn := fun _ h => List.mem_cons_of_mem _ (List.mem_append_right _ (h))
  have hl : lv_has ls 2 [(0, .ref h0), (1, .int x1)] := hl
  have hP : va_P G vwCl (wm_X3_unit cA h0 h0_numbers h0_words s0__all s0__v s0__loss s0__result s0__over s0__heldAll s0__heldRounded s0_numbers) s.heap := hP
  have hD : va_D A (wm_X3_unit cA h0 h0_numbers h0_words s0__all s0__v s0__loss s0__result s0__over s0__heldAll s0__heldRounded s0_numbers) := hD
  unfold fX3_latestIn at hok
  refine lv_iload_n hx hb dX3_latestIn_0 rfl (lv_at hl 1 rfl) ?_
  refine lv_aload_n hx hb dX3_latestIn_1 rfl (lv_at hl 0 rfl) ?_
  refine va_get (ci := 3) (v := .ref h0_numbers) (C := RX3) (T := TX3) (N := 9) hx hb hts hinX3 hown hK hP 0 rfl rfl 0 (by decide) (hts _ (List.mem_of_getElem? (i := 1) rfl)) (fun _ h9 => h9) rfl dX3_latestIn_2 ?_
  refine lv_iconst (v := 1) hx hb dX3_latestIn_5 (by decide) ?_
  refine x_iald (k := 1) hx hb hK hP 1 0 rfl rfl (show ¬ ((1:Int32) < 0 ∨ 10 ≤ (1:Int32).toNatClampNeg) by decide) (by decide) dX3_latestIn_6 ?_
  refine lv_aload_n hx hb dX3_latestIn_7 rfl (lv_at hl 0 rfl) ?_
  refine va_get (ci := 3) (v := .ref h0_numbers) (C := RX3) (T := TX3) (N := 9) hx hb hts hinX3 hown hK hP 0 rfl rfl 0 (by decide) (hts _ (List.mem_of_getElem? (i := 1) rfl)) (fun _ h9 => h9) rfl dX3_latestIn_8 ?_
  refine lv_iconst (v := 0) hx hb dX3_latestIn_11 (by decide) ?_
  refine x_iald (k := 0) hx hb hK hP 1 0 rfl rfl (show ¬ ((0:Int32) < 0 ∨ 10 ≤ (0:Int32).toNatClampNeg) by decide) (by decide) dX3_latestIn_12 ?_
  refine lv_iconst (v := 1) hx hb dX3_latestIn_13 (by decide) ?_
  refine lv_isub hx hb dX3_latestIn_14 ?_
  refine lv_imul hx hb dX3_latestIn_15 ?_
  refine lv_ishr hx hb dX3_latestIn_16 ?_
  refine lv_aload_n hx hb dX3_latestIn_17 rfl (lv_at hl 0 rfl) ?_
  obtain ⟨r1, hq, hok⟩ := g_bnd1 hok
  refine cG (is := [0, 1]) (wc := (wm_X3_unit cA h0 h0_numbers h0_words s0__all s0__v s0__loss s0__result s0__over s0__heldAll s0__heldRounded s0_numbers)) (w1 := (wm_X3_unit cA h0 h0_numbers h0_words s0__all s0__v s0__loss s0__result s0__over s0__heldAll s0__heldRounded s0_numbers)) (rv := (some (.int r1))) (st1 := [.int r1, .int (x1 >>> (((s0_numbers 1) * ((s0_numbers 0) - (1:Int32))) &&& 31))]) (va_runV (Ts := wsX3_latestIn) (As := []) (rest := [.int (x1 >>> (((s0_numbers 1) * ((s0_numbers 0) - (1:Int32))) &&& 31))]) ⟨hx, hb, hml, hown, hts⟩ (c_X3_half l G cA ts h0 h0_numbers h0_words s0__all s0__v s0__loss s0__result s0__over s0__heldAll s0__heldRounded s0_numbers r1 hq s.heap.size) (cwV 0 hts gX3_latestIn_X3_half rfl rfl rfl (by decide +kernel) ⟨Nat.le_of_ble_eq_true rfl, Nat.le_of_ble_eq_true rfl⟩) (pre_V (ci := 3) (q0 := 0) (is := [0, 1]) rfl rfl hP hD hS hA hK hZ (by decide +kernel) (by rfl)) rfl rfl hl.1 rfl (by exact lv_room (Nat.le_of_ble_eq_true rfl)) dX3_latestIn_18 ⟨Nat.le_refl _, Nat.le_refl _⟩) hP hD hS hA (by decide +kernel) (by rfl) (by rfl) rfl (fun H locs hP hD hS => ?_)
  have hP : va_P G vwCl (wm_X3_unit cA h0 h0_numbers h0_words s0__all s0__v s0__loss s0__result s0__over s0__heldAll s0__heldRounded s0_numbers) H := hP
  have hD : va_D A (wm_X3_unit cA h0 h0_numbers h0_words s0__all s0__v s0__loss s0__result s0__over s0__heldAll s0__heldRounded s0_numbers) := hD
  refine lv_isub hx hb dX3_latestIn_21 ?_
  cases hok
  exact cr_i hx hb hr hlocks hQ dX3_latestIn_22 hP hS
set_option maxHeartbeats 40000000 in
set_option maxRecDepth 100000 in
theorem c_X3_codeBehind (l : Launch) (G : va_G) (cA : Nat → ClassId) (ts : Nat → Nat) (h0 : Nat) (h0_numbers : Nat) (h0_words : Nat) (x1 : Int32) (s0__all : Int32) (s0__v : Int32) (s0__loss : Int32) (s0__result : Int32) (s0__over : Int32) (s0__heldAll : Int32) (s0__heldRounded : Int32) (s0_numbers : Nat → Int32) (r : Int32) (hok : fX3_codeBehind x1 s0__result s0_numbers = some r) : Ct l G cA ts yX3_codeBehind wsX3_codeBehind 2 60 [.ref h0, .int x1] (wm_X3_unit cA h0 h0_numbers h0_words s0__all s0__v s0__loss s0__result s0__over s0__heldAll s0__heldRounded s0_numbers) (wm_X3_unit cA h0 h0_numbers h0_words s0__all s0__v s0__loss s0__result s0__over s0__heldAll s0__heldRounded s0_numbers) (some (.int r)) := by
  refine Ct.intro (cc := cX3_codeBehind) (maxL := 2) (ret := some .int) (by decide +kernel) rfl (Nat.le_of_ble_eq_true rfl) ?_
  intro p e s m ar below meth c A Q hx hb hr hml hown hlocks hts hK hZ hA hQ hP hD hS ls hl
  have hown : s.vm.findClass RX3 = some m.cls := hown
  have hinX3 : ∀ w ∈ wsX30, w ∈ wsX3_codeBehind := fun _ h => List.mem_cons_of_mem _ (List.mem_append_right _ (h))
  have hl : lv_has ls 2 [(0, .ref h0), (1, .int x1)] := hl
  have hP : va_P G vwCl (wm_X3_unit cA h0 h0_numbers h0_words s0__all s0__v s0__loss s0__result s0__over s0__heldAll s0__heldRounded s0_numbers) s.heap := hP
  have hD : va_D A (wm_X3_unit cA h0 h0_numbers h0_words s0__all s0__v s0__loss s0__result s0__over s0__heldAll s0__heldRounded s0_numbers) := hD
  unfold fX3_codeBehind at hok
  refine lv_aload_n hx hb dX3_codeBehind_0 rfl (lv_at hl 0 rfl) ?_
  refine va_get (ci := 3) (v := .int s0__result) (C := RX3) (T := TX3) (N := 9) hx hb hts hinX3 hown hK hP 0 rfl rfl 5 (by decide) (hts _ (List.mem_of_getElem? (i := 1) rfl)) (fun _ h9 => h9) rfl dX3_codeBehind_1 ?_
  refine lv_aload_n hx hb dX3_codeBehind_4 rfl (lv_at hl 0 rfl) ?_
  obtain ⟨r1, hq, hok⟩ := g_bnd1 hok
  refine cG (is := [0, 1]) (wc := (wm_X3_unit cA h0 h0_numbers h0_words s0__all s0__v s0__loss s0__result s0__over s0__heldAll s0__heldRounded s0_numbers)) (w1 := (wm_X3_unit cA h0 h0_numbers h0_words s0__all s0__v s0__loss s0__result s0__over s0__heldAll s0__heldRounded s0_numbers)) (rv := (some (.int r1))) (st1 := [.int r1, .int s0__result]) (va_runV (Ts := wsX3_codeBehind) (As := []) (rest := [.int s0__result]) ⟨hx, hb, hml, hown, hts⟩ (c_X3_half l G cA ts h0 h0_numbers h0_words s0__all s0__v s0__loss s0__result s0__over s0__heldAll s0__heldRounded s0_numbers r1 hq s.heap.size) (cwV 0 hts gX3_codeBehind_X3_half rfl rfl rfl (by decide +kernel) ⟨Nat.le_of_ble_eq_true rfl, Nat.le_of_ble_eq_true rfl⟩) (pre_V (ci := 3) (q0 := 0) (is := [0, 1]) rfl rfl hP hD hS hA hK hZ (by decide +kernel) (by rfl)) rfl rfl hl.1 rfl (by exact lv_room (Nat.le_of_ble_eq_true rfl)) dX3_codeBehind_5 ⟨Nat.le_refl _, Nat.le_refl _⟩) hP hD hS hA (by decide +kernel) (by rfl) (by rfl) rfl (fun H locs hP hD hS => ?_)
  have hP : va_P G vwCl (wm_X3_unit cA h0 h0_numbers h0_words s0__all s0__v s0__loss s0__result s0__over s0__heldAll s0__heldRounded s0_numbers) H := hP
  have hD : va_D A (wm_X3_unit cA h0 h0_numbers h0_words s0__all s0__v s0__loss s0__result s0__over s0__heldAll s0__heldRounded s0_numbers) := hD
  refine lv_iadd hx hb dX3_codeBehind_8 ?_
  refine lv_aload_n hx hb dX3_codeBehind_9 rfl (lv_at hl 0 rfl) ?_
  refine va_get (ci := 3) (v := .ref h0_numbers) (C := RX3) (T := TX3) (N := 9) hx hb hts hinX3 hown hK hP 0 rfl rfl 0 (by decide) (hts _ (List.mem_of_getElem? (i := 2) rfl)) (fun _ h9 => h9) rfl dX3_codeBehind_10 ?_
  refine lv_iconst (v := 1) hx hb dX3_codeBehind_13 (by decide) ?_
  refine x_iald (k := 1) hx hb hK hP 1 0 rfl rfl (show ¬ ((1:Int32) < 0 ∨ 10 ≤ (1:Int32).toNatClampNeg) by decide) (by decide) dX3_codeBehind_14 ?_
  refine lv_aload_n hx hb dX3_codeBehind_15 rfl (lv_at hl 0 rfl) ?_
  refine va_get (ci := 3) (v := .ref h0_numbers) (C := RX3) (T := TX3) (N := 9) hx hb hts hinX3 hown hK hP 0 rfl rfl 0 (by decide) (hts _ (List.mem_of_getElem? (i := 2) rfl)) (fun _ h9 => h9) rfl dX3_codeBehind_16 ?_
  refine lv_iconst (v := 0) hx hb dX3_codeBehind_19 (by decide) ?_
  refine x_iald (k := 0) hx hb hK hP 1 0 rfl rfl (show ¬ ((0:Int32) < 0 ∨ 10 ≤ (0:Int32).toNatClampNeg) by decide) (by decide) dX3_codeBehind_20 ?_
  refine lv_iconst (v := 1) hx hb dX3_codeBehind_21 (by decide) ?_
  refine lv_isub hx hb dX3_codeBehind_22 ?_
  refine lv_imul hx hb dX3_codeBehind_23 ?_
  refine lv_ishl hx hb dX3_codeBehind_24 ?_
  refine lv_iload_n hx hb dX3_codeBehind_25 rfl (lv_at hl 1 rfl) ?_
  refine lv_aload_n hx hb dX3_codeBehind_26 rfl (lv_at hl 0 rfl) ?_
  refine va_get (ci := 3) (v := .ref h0_numbers) (C := RX3) (T := TX3) (N := 9) hx hb hts hinX3 hown hK hP 0 rfl rfl 0 (by decide) (hts _ (List.mem_of_getElem? (i := 2) rfl)) (fun _ h9 => h9) rfl dX3_codeBehind_27 ?_
  refine lv_iconst (v := 1) hx hb dX3_codeBehind_30 (by decide) ?_
  refine x_iald (k := 1) hx hb hK hP 1 0 rfl rfl (show ¬ ((1:Int32) < 0 ∨ 10 ≤ (1:Int32).toNatClampNeg) by decide) (by decide) dX3_codeBehind_31 ?_
  refine lv_ishr hx hb dX3_codeBehind_32 ?_
  refine lv_iadd hx hb dX3_codeBehind_33 ?_
  cases hok
  exact cr_i hx hb hr hlocks hQ dX3_codeBehind_34 hP hS
set_option maxHeartbeats 40000000 in
set_option maxRecDepth 100000 in
theorem c_J9_floorDiv_7cf53 (l : Launch) (G : va_G) (cA : Nat → ClassId) (ts : Nat → Nat) (x0 : Int32) (x1 : Int32) (r : Int32) (hok : fJ9_floorDiv_7cf53 x0 x1 = some r) : Ct l G cA ts yJ9_floorDiv_7cf53 wsJ9_floorDiv_7cf53 1 40 [.int x0, .int x1] (wm_X0_find cA) (wm_X0_find cA) (some (.int r)) := by
  refine Ct.introF (cc := cJ9_floorDiv_7cf53) (maxL := 3) (ret := some .int) (by decide +kernel) rfl (Nat.le_of_ble_eq_true rfl) ?_
  intro p e s m ar below meth c A Q hx hb hr hml hown hlocks hts hK hZ hA hQ hP hD hS ls hl
  have hown : s.vm.findClass RJ9 = some m.cls := hown
  have hl : lv_has ls 3 [(0, .int x0), (1, .int x1)] := hl
  have hP : va_P G vwCl (wm_X0_find cA) s.heap := hP
  have hD : va_D A (wm_X0_find cA) := hD
  unfold fJ9_floorDiv_7cf53 at hok
  refine lv_iload_n hx hb dJ9_floorDiv_7cf53_0 rfl (lv_at hl 0 rfl) ?_
  refine lv_iload_n hx hb dJ9_floorDiv_7cf53_1 rfl (lv_at hl 1 rfl) ?_
  obtain ⟨hin, hok⟩ := g_no hok
  refine lv_idiv hx hb dJ9_floorDiv_7cf53_2 hin ?_
  refine lv_istore_n (lv' := [(2, .int (x0 / x1)), (0, .int x0), (1, .int x1)]) hx hb dJ9_floorDiv_7cf53_3 rfl hl (by decide) rfl (fun ls hl => ?_)
  refine lv_iload_n hx hb dJ9_floorDiv_7cf53_4 rfl (lv_at hl 1 rfl) ?_
  refine lv_iload_n hx hb dJ9_floorDiv_7cf53_5 rfl (lv_at hl 2 rfl) ?_
  refine lv_ixor hx hb dJ9_floorDiv_7cf53_6 ?_
  refine lv_if_ge (tgt := 21) hx hb dJ9_floorDiv_7cf53_7 (by decide) (fun c => ?_) (fun c => ?_)
  · replace hok := g_pos hok c
    refine lv_iload_n hx hb dJ9_floorDiv_7cf53_21 rfl (lv_at hl 0 rfl) ?_
    cases hok
    exact cr_i hx hb hr hlocks hQ dJ9_floorDiv_7cf53_22 hP hS
  replace hok := g_neg hok c
  refine lv_iload_n hx hb dJ9_floorDiv_7cf53_10 rfl (lv_at hl 0 rfl) ?_
  refine lv_iload_n hx hb dJ9_floorDiv_7cf53_11 rfl (lv_at hl 2 rfl) ?_
  refine lv_imul hx hb dJ9_floorDiv_7cf53_12 ?_
  refine lv_iload_n hx hb dJ9_floorDiv_7cf53_13 rfl (lv_at hl 1 rfl) ?_
  refine lv_icmp_eq (tgt := 21) hx hb dJ9_floorDiv_7cf53_14 (by decide) (fun c => ?_) (fun c => ?_)
  · replace hok := g_pos hok c
    refine lv_iload_n hx hb dJ9_floorDiv_7cf53_21 rfl (lv_at hl 0 rfl) ?_
    cases hok
    exact cr_i hx hb hr hlocks hQ dJ9_floorDiv_7cf53_22 hP hS
  replace hok := g_neg hok c
  refine lv_iload_n hx hb dJ9_floorDiv_7cf53_17 rfl (lv_at hl 0 rfl) ?_
  refine lv_iconst (v := 1) hx hb dJ9_floorDiv_7cf53_18 (by decide) ?_
  refine lv_isub hx hb dJ9_floorDiv_7cf53_19 ?_
  cases hok
  exact cr_i hx hb hr hlocks hQ dJ9_floorDiv_7cf53_20 hP hS
set_option maxHeartbeats 40000000 in
set_option maxRecDepth 100000 in
theorem c_J9_floorMod_7cf53 (l : Launch) (G : va_G) (cA : Nat → ClassId) (ts : Nat → Nat) (x0 : Int32) (x1 : Int32) (r : Int32) (hok : fJ9_floorMod_7cf53 x0 x1 = some r) : Ct l G cA ts yJ9_floorMod_7cf53 wsJ9_floorMod_7cf53 1 40 [.int x0, .int x1] (wm_X0_find cA) (wm_X0_find cA) (some (.int r)) := by
  refine Ct.introF (cc := cJ9_floorMod_7cf53) (maxL := 3) (ret := some .int) (by decide +kernel) rfl (Nat.le_of_ble_eq_true rfl) ?_
  intro p e s m ar below meth c A Q hx hb hr hml hown hlocks hts hK hZ hA hQ hP hD hS ls hl
  have hown : s.vm.findClass RJ9 = some m.cls := hown
  have hl : lv_has ls 3 [(0, .int x0), (1, .int x1)] := hl
  have hP : va_P G vwCl (wm_X0_find cA) s.heap := hP
  have hD : va_D A (wm_X0_find cA) := hD
  unfold fJ9_floorMod_7cf53 at hok
  refine lv_iload_n hx hb dJ9_floorMod_7cf53_0 rfl (lv_at hl 0 rfl) ?_
  refine lv_iload_n hx hb dJ9_floorMod_7cf53_1 rfl (lv_at hl 1 rfl) ?_
  obtain ⟨hin, hok⟩ := g_no hok
  refine lv_irem hx hb dJ9_floorMod_7cf53_2 hin ?_
  refine lv_istore_n (lv' := [(2, .int (x0 - x0 / x1 * x1)), (0, .int x0), (1, .int x1)]) hx hb dJ9_floorMod_7cf53_3 rfl hl (by decide) rfl (fun ls hl => ?_)
  refine lv_iload_n hx hb dJ9_floorMod_7cf53_4 rfl (lv_at hl 1 rfl) ?_
  refine lv_iload_n hx hb dJ9_floorMod_7cf53_5 rfl (lv_at hl 2 rfl) ?_
  refine lv_ixor hx hb dJ9_floorMod_7cf53_6 ?_
  refine lv_if_ge (tgt := 18) hx hb dJ9_floorMod_7cf53_7 (by decide) (fun c => ?_) (fun c => ?_)
  · replace hok := g_pos hok c
    refine lv_iload_n hx hb dJ9_floorMod_7cf53_18 rfl (lv_at hl 0 rfl) ?_
    cases hok
    exact cr_i hx hb hr hlocks hQ dJ9_floorMod_7cf53_19 hP hS
  replace hok := g_neg hok c
  refine lv_iload_n hx hb dJ9_floorMod_7cf53_10 rfl (lv_at hl 0 rfl) ?_
  refine lv_if_eq (tgt := 18) hx hb dJ9_floorMod_7cf53_11 (by decide) (fun c => ?_) (fun c => ?_)
  · replace hok := g_pos hok c
    refine lv_iload_n hx hb dJ9_floorMod_7cf53_18 rfl (lv_at hl 0 rfl) ?_
    cases hok
    exact cr_i hx hb hr hlocks hQ dJ9_floorMod_7cf53_19 hP hS
  replace hok := g_neg hok c
  refine lv_iload_n hx hb dJ9_floorMod_7cf53_14 rfl (lv_at hl 0 rfl) ?_
  refine lv_iload_n hx hb dJ9_floorMod_7cf53_15 rfl (lv_at hl 2 rfl) ?_
  refine lv_iadd hx hb dJ9_floorMod_7cf53_16 ?_
  cases hok
  exact cr_i hx hb hr hlocks hQ dJ9_floorMod_7cf53_17 hP hS
