set_option maxHeartbeats 40000000 in
set_option maxRecDepth 100000 in
theorem c_X7_begin (l : Launch) (G : va_G) (cA : Nat → ClassId) (ts : Nat → Nat) (h0 : Nat) (h0_by : Nat) (h0_by_numbers : Nat) (h0_by_words : Nat) (h0_tails : Nat) (h1 : Nat) (h1_numbers : Nat) (h1_words : Nat) (h0_onward : Nat) (h0_comesTo : Nat) (x2 : Int32) (s0__size : Int32) (s0__told : Int32) (s0__whole : Int32) (s0__anyStuck : Int32) (s0__loudest : Int32) (s0_by__all : Int32) (s0_by__v : Int32) (s0_by__loss : Int32) (s0_by__result : Int32) (s0_by__over : Int32) (s0_by__heldAll : Int32) (s0_by__heldRounded : Int32) (s0_by_numbers : Nat → Int32) (s0_by_words : Nat → Int32) (s0_tails : Nat → Int32) (s1__all : Int32) (s1__v : Int32) (s1__loss : Int32) (s1__result : Int32) (s1__over : Int32) (s1__heldAll : Int32) (s1__heldRounded : Int32) (s1_numbers : Nat → Int32) (s1_words : Nat → Int32) (o0__size : Int32) (o0__told : Int32) (o0__whole : Int32) (o0__anyStuck : Int32) (o0__loudest : Int32) (o0_by_numbers : Nat → Int32) (o0_by_words : Nat → Int32) (o0_tails : Nat → Int32) (hok : fX7_begin x2 s0__size s0__told s0__whole s0__anyStuck s0__loudest s0_by_numbers s0_by_words s0_tails s1_numbers s1_words = some (o0__size, o0__told, o0__whole, o0__anyStuck, o0__loudest, o0_by_numbers, o0_by_words, o0_tails)) : Ct l G cA ts yX7_begin wsX7_begin 2 101 [.ref h0, .ref h1, .int x2] (wm_X7_begin cA h0 h0_by h0_by_numbers h0_by_words h0_tails h1 h1_numbers h1_words h0_onward h0_comesTo s0__size s0__told s0__whole s0__anyStuck s0__loudest s0_by__all s0_by__v s0_by__loss s0_by__result s0_by__over s0_by__heldAll s0_by__heldRounded s0_by_numbers s0_by_words s0_tails s1__all s1__v s1__loss s1__result s1__over s1__heldAll s1__heldRounded s1_numbers s1_words) (wm_X7_begin cA h0 h0_by h0_by_numbers h0_by_words h0_tails h1 h1_numbers h1_words h0_onward h0_comesTo o0__size o0__told o0__whole o0__anyStuck o0__loudest s0_by__all s0_by__v s0_by__loss s0_by__result s0_by__over s0_by__heldAll s0_by__heldRounded o0_by_numbers o0_by_words o0_tails s1__all s1__v s1__loss s1__result s1__over s1__heldAll s1__heldRounded s1_numbers s1_words) none := by
  refine Ct.intro (cc := cX7_begin) (maxL := 4) (ret := none) (by decide +kernel) rfl (Nat.le_of_ble_eq_true rfl) ?_
  intro p e s m ar below meth c A Q hx hb hr hml hown hlocks hts hK hZ hA hQ hP hD hS ls hl
  have hown : s.vm.findClass RX7 = some m.cls := hown
  have hinX7 : ∀ w ∈ wsX70, w ∈ wsX7_begin := fun _ h => List.mem_cons_of_mem _ (List.mem_append_left _ (List.mem_append_right _ (h)))
  have hl : lv_has ls 4 [(0, .ref h0), (1, .ref h1), (2, .int x2)] := hl
  have hP : va_P G vwCl (wm_X7_begin cA h0 h0_by h0_by_numbers h0_by_words h0_tails h1 h1_numbers h1_words h0_onward h0_comesTo s0__size s0__told s0__whole s0__anyStuck s0__loudest s0_by__all s0_by__v s0_by__loss s0_by__result s0_by__over s0_by__heldAll s0_by__heldRounded s0_by_numbers s0_by_words s0_tails s1__all s1__v s1__loss s1__result s1__over s1__heldAll s1__heldRounded s1_numbers s1_words) s.heap := hP
  have hD : va_D A (wm_X7_begin cA h0 h0_by h0_by_numbers h0_by_words h0_tails h1 h1_numbers h1_words h0_onward h0_comesTo s0__size s0__told s0__whole s0__anyStuck s0__loudest s0_by__all s0_by__v s0_by__loss s0_by__result s0_by__over s0_by__heldAll s0_by__heldRounded s0_by_numbers s0_by_words s0_tails s1__all s1__v s1__loss s1__result s1__over s1__heldAll s1__heldRounded s1_numbers s1_words) := hD
  have L_47 : ∀ (n : Nat) (y3 : Int32) (c0__size : Int32) (c0__told : Int32) (c0__whole : Int32) (c0__anyStuck : Int32) (c0__loudest : Int32) (c0_by_numbers : Nat → Int32) (c0_by_words : Nat → Int32) (c0_tails : Nat → Int32) (p0_0 : Nat → Int32) (H : Heap) (locs : List Loc) (ls : Array Slot), va_P G vwCl (wm_X7_begin cA h0 h0_by h0_by_numbers h0_by_words h0_tails h1 h1_numbers h1_words h0_onward h0_comesTo c0__size c0__told c0__whole c0__anyStuck c0__loudest s0_by__all s0_by__v s0_by__loss s0_by__result s0_by__over s0_by__heldAll s0_by__heldRounded c0_by_numbers c0_by_words c0_tails s1__all s1__v s1__loss s1__result s1__over s1__heldAll s1__heldRounded s1_numbers s1_words) H → va_D A (wm_X7_begin cA h0 h0_by h0_by_numbers h0_by_words h0_tails h1 h1_numbers h1_words h0_onward h0_comesTo c0__size c0__told c0__whole c0__anyStuck c0__loudest s0_by__all s0_by__v s0_by__loss s0_by__result s0_by__over s0_by__heldAll s0_by__heldRounded c0_by_numbers c0_by_words c0_tails s1__all s1__v s1__loss s1__result s1__over s1__heldAll s1__heldRounded s1_numbers s1_words) → va_S A s.heap H locs → lv_has ls 4 [(0, .ref h0), (3, .int y3)] → fX7_begin_L47 x2 s1_numbers s1_words n y3 c0__size c0__told c0__whole c0__anyStuck c0__loudest c0_by_numbers c0_by_words c0_tails = some p0_0 → (∀ (H : Heap) (locs : List Loc) (ls : Array Slot), va_P G vwCl (wm_X7_begin cA h0 h0_by h0_by_numbers h0_by_words h0_tails h1 h1_numbers h1_words h0_onward h0_comesTo c0__size c0__told c0__whole c0__anyStuck c0__loudest s0_by__all s0_by__v s0_by__loss s0_by__result s0_by__over s0_by__heldAll s0_by__heldRounded c0_by_numbers c0_by_words p0_0 s1__all s1__v s1__loss s1__result s1__over s1__heldAll s1__heldRounded s1_numbers s1_words) H → va_D A (wm_X7_begin cA h0 h0_by h0_by_numbers h0_by_words h0_tails h1 h1_numbers h1_words h0_onward h0_comesTo c0__size c0__told c0__whole c0__anyStuck c0__loudest s0_by__all s0_by__v s0_by__loss s0_by__result s0_by__over s0_by__heldAll s0_by__heldRounded c0_by_numbers c0_by_words p0_0 s1__all s1__v s1__loss s1__result s1__over s1__heldAll s1__heldRounded s1_numbers s1_words) → va_S A s.heap H locs → lv_has ls 4 [] → W p l e (rmX 2 101) s m ar below meth c H locs 0 0 Q (F0 m 68 ls [])) → W p l e (rmX 2 101) s m ar below meth c H locs 0 0 Q (F0 m 47 ls []) := by
    intro n
    induction n with
    | zero =>
      intro y3 c0__size c0__told c0__whole c0__anyStuck c0__loudest c0_by_numbers c0_by_words c0_tails p0_0 H locs ls hP hD hS hl hok
      rw [fX7_begin_L47] at hok
      cases hok
    | succ n ih =>
      intro y3 c0__size c0__told c0__whole c0__anyStuck c0__loudest c0_by_numbers c0_by_words c0_tails p0_0 H locs ls hP hD hS hl hok K
      rw [fX7_begin_L47] at hok
      refine lv_iload_n hx hb dX7_begin_47 rfl (lv_at hl 1 rfl) ?_
      refine lv_aload_n hx hb dX7_begin_48 rfl (lv_at hl 0 rfl) ?_
      refine va_get (ci := 7) (v := .int c0__size) (C := RX7) (T := TX7) (N := 9) hx hb hts hinX7 hown hK hP 0 rfl rfl 4 (by decide) (hts _ (List.mem_of_getElem? (i := 7) rfl)) (fun _ h9 => h9) rfl dX7_begin_49 ?_
      refine lv_icmp_ge (tgt := 68) hx hb dX7_begin_52 (by decide) (fun c => ?_) (fun c => ?_)
      · replace hok := g_pos hok c
        cases hok
        exact K _ _ _ hP hD hS (lv_sub hl [] rfl)
      replace hok := g_neg hok c
      refine lv_aload_n hx hb dX7_begin_55 rfl (lv_at hl 0 rfl) ?_
      refine va_get (ci := 7) (v := .ref h0_tails) (C := RX7) (T := TX7) (N := 9) hx hb hts hinX7 hown hK hP 0 rfl rfl 2 (by decide) (hts _ (List.mem_of_getElem? (i := 11) rfl)) (fun _ h9 => h9) rfl dX7_begin_56 ?_
      refine lv_iload_n hx hb dX7_begin_59 rfl (lv_at hl 1 rfl) ?_
      refine lv_iconst (v := -1) hx hb dX7_begin_60 (by decide) ?_
      obtain ⟨hin, hok⟩ := g_no hok
      refine x_iast (k := y3.toNatClampNeg) hx hb hK hP hD hS 4 0 rfl rfl hin rfl dX7_begin_61 (fun H locs hP hD hS => ?_)
      have hP : va_P G vwCl (wm_X7_begin cA h0 h0_by h0_by_numbers h0_by_words h0_tails h1 h1_numbers h1_words h0_onward h0_comesTo c0__size c0__told c0__whole c0__anyStuck c0__loudest s0_by__all s0_by__v s0_by__loss s0_by__result s0_by__over s0_by__heldAll s0_by__heldRounded c0_by_numbers c0_by_words (upd c0_tails y3.toNatClampNeg (-1:Int32)) s1__all s1__v s1__loss s1__result s1__over s1__heldAll s1__heldRounded s1_numbers s1_words) H := hP
      have hD : va_D A (wm_X7_begin cA h0 h0_by h0_by_numbers h0_by_words h0_tails h1 h1_numbers h1_words h0_onward h0_comesTo c0__size c0__told c0__whole c0__anyStuck c0__loudest s0_by__all s0_by__v s0_by__loss s0_by__result s0_by__over s0_by__heldAll s0_by__heldRounded c0_by_numbers c0_by_words (upd c0_tails y3.toNatClampNeg (-1:Int32)) s1__all s1__v s1__loss s1__result s1__over s1__heldAll s1__heldRounded s1_numbers s1_words) := hD
      refine lv_iinc (v := (y3 + 1)) (lv' := [(3, .int (y3 + 1)), (0, .ref h0)]) hx hb dX7_begin_62 hl (k := 1) rfl rfl (by decide) rfl (fun ls hl => ?_)
      refine lv_goto (tgt := 47) hx hb dX7_begin_65 (by decide) ?_
      exact ih (y3 + 1) c0__size c0__told c0__whole c0__anyStuck c0__loudest c0_by_numbers c0_by_words (upd c0_tails y3.toNatClampNeg (-1:Int32)) p0_0 _ _ _ hP hD hS (lv_sub hl [1, 0] rfl) hok K
  unfold fX7_begin at hok
  refine lv_aload_n hx hb dX7_begin_0 rfl (lv_at hl 0 rfl) ?_
  refine va_get (ci := 7) (v := .ref h0_by) (C := RX7) (T := TX7) (N := 9) hx hb hts hinX7 hown hK hP 0 rfl rfl 0 (by decide) (hts _ (List.mem_of_getElem? (i := 1) rfl)) (fun _ h9 => h9) rfl dX7_begin_1 ?_
  refine lv_aload_n hx hb dX7_begin_4 rfl (lv_at hl 1 rfl) ?_
  obtain ⟨o1, o2, hq, hok⟩ := g_bnd2 hok
  refine cG (is := [1, 2, 3, 5, 6, 7]) (wc := (wm_X3_take cA h0_by h0_by_numbers h0_by_words h1 h1_numbers h1_words s0_by__all s0_by__v s0_by__loss s0_by__result s0_by__over s0_by__heldAll s0_by__heldRounded s0_by_numbers s0_by_words s1__all s1__v s1__loss s1__result s1__over s1__heldAll s1__heldRounded s1_numbers s1_words)) (w1 := (wm_X3_take cA h0_by h0_by_numbers h0_by_words h1 h1_numbers h1_words s0_by__all s0_by__v s0_by__loss s0_by__result s0_by__over s0_by__heldAll s0_by__heldRounded o1 o2 s1__all s1__v s1__loss s1__result s1__over s1__heldAll s1__heldRounded s1_numbers s1_words)) (rv := none) (st1 := []) (va_runV (Ts := wsX7_begin) (As := [.ref h1]) (rest := []) ⟨hx, hb, hml, hown, hts⟩ (c_X3_take l G cA ts h0_by h0_by_numbers h0_by_words h1 h1_numbers h1_words s0_by__all s0_by__v s0_by__loss s0_by__result s0_by__over s0_by__heldAll s0_by__heldRounded s0_by_numbers s0_by_words s1__all s1__v s1__loss s1__result s1__over s1__heldAll s1__heldRounded s1_numbers s1_words o1 o2 hq s.heap.size) (cwV 1 hts gX7_begin_X3_take rfl rfl rfl (by decide +kernel) ⟨Nat.le_of_ble_eq_true rfl, Nat.le_of_ble_eq_true rfl⟩) (pre_V (ci := 3) (q0 := 1) (is := [1, 2, 3, 5, 6, 7]) rfl rfl hP hD hS hA hK hZ (by decide +kernel) (by rfl)) rfl rfl hl.1 rfl (by exact lv_room (Nat.le_of_ble_eq_true rfl)) dX7_begin_5 ⟨Nat.le_refl _, Nat.le_refl _⟩) hP hD hS hA (by decide +kernel) (by rfl) (by rfl) rfl (fun H locs hP hD hS => ?_)
  have hP : va_P G vwCl (wm_X7_begin cA h0 h0_by h0_by_numbers h0_by_words h0_tails h1 h1_numbers h1_words h0_onward h0_comesTo s0__size s0__told s0__whole s0__anyStuck s0__loudest s0_by__all s0_by__v s0_by__loss s0_by__result s0_by__over s0_by__heldAll s0_by__heldRounded o1 o2 s0_tails s1__all s1__v s1__loss s1__result s1__over s1__heldAll s1__heldRounded s1_numbers s1_words) H := hP
  have hD : va_D A (wm_X7_begin cA h0 h0_by h0_by_numbers h0_by_words h0_tails h1 h1_numbers h1_words h0_onward h0_comesTo s0__size s0__told s0__whole s0__anyStuck s0__loudest s0_by__all s0_by__v s0_by__loss s0_by__result s0_by__over s0_by__heldAll s0_by__heldRounded o1 o2 s0_tails s1__all s1__v s1__loss s1__result s1__over s1__heldAll s1__heldRounded s1_numbers s1_words) := hD
  refine lv_aload_n hx hb dX7_begin_8 rfl (lv_at hl 0 rfl) ?_
  refine lv_iload_n hx hb dX7_begin_9 rfl (lv_at hl 2 rfl) ?_
  refine va_put (D := G) (ci := 7) (v := .int x2) (ty := .int) (C := RX7) (T := TX7) (N := 9) hx hb hts hinX7 tyX7 tyX7_ok nmX7 hown hK hP hD hS 0 rfl rfl 5 (by decide) (hts _ (List.mem_of_getElem? (i := 2) rfl)) (fun _ h9 => h9) rfl (by decide +kernel) rfl rfl (Nat.le_of_ble_eq_true rfl) dX7_begin_10 (fun H locs hP hD hS => ?_)
  have hP : va_P G vwCl (wm_X7_begin cA h0 h0_by h0_by_numbers h0_by_words h0_tails h1 h1_numbers h1_words h0_onward h0_comesTo s0__size x2 s0__whole s0__anyStuck s0__loudest s0_by__all s0_by__v s0_by__loss s0_by__result s0_by__over s0_by__heldAll s0_by__heldRounded o1 o2 s0_tails s1__all s1__v s1__loss s1__result s1__over s1__heldAll s1__heldRounded s1_numbers s1_words) H := hP
  have hD : va_D A (wm_X7_begin cA h0 h0_by h0_by_numbers h0_by_words h0_tails h1 h1_numbers h1_words h0_onward h0_comesTo s0__size x2 s0__whole s0__anyStuck s0__loudest s0_by__all s0_by__v s0_by__loss s0_by__result s0_by__over s0_by__heldAll s0_by__heldRounded o1 o2 s0_tails s1__all s1__v s1__loss s1__result s1__over s1__heldAll s1__heldRounded s1_numbers s1_words) := hD
  refine lv_aload_n hx hb dX7_begin_13 rfl (lv_at hl 0 rfl) ?_
  refine lv_aload_n hx hb dX7_begin_14 rfl (lv_at hl 0 rfl) ?_
  refine va_get (ci := 7) (v := .ref h0_by) (C := RX7) (T := TX7) (N := 9) hx hb hts hinX7 hown hK hP 0 rfl rfl 0 (by decide) (hts _ (List.mem_of_getElem? (i := 1) rfl)) (fun _ h9 => h9) rfl dX7_begin_15 ?_
  obtain ⟨r3, hq, hok⟩ := g_bnd1 hok
  refine cG (is := [1, 2]) (wc := (wm_X3_unit cA h0_by h0_by_numbers h0_by_words s0_by__all s0_by__v s0_by__loss s0_by__result s0_by__over s0_by__heldAll s0_by__heldRounded o1)) (w1 := (wm_X3_unit cA h0_by h0_by_numbers h0_by_words s0_by__all s0_by__v s0_by__loss s0_by__result s0_by__over s0_by__heldAll s0_by__heldRounded o1)) (rv := (some (.int r3))) (st1 := [.int r3, .ref h0]) (va_runV (Ts := wsX7_begin) (As := []) (rest := [.ref h0]) ⟨hx, hb, hml, hown, hts⟩ (c_X3_howManyPasts l G cA ts h0_by h0_by_numbers h0_by_words s0_by__all s0_by__v s0_by__loss s0_by__result s0_by__over s0_by__heldAll s0_by__heldRounded o1 r3 hq H.size) (cwV 0 hts gX7_begin_X3_howManyPasts rfl rfl rfl (by decide +kernel) ⟨Nat.le_of_ble_eq_true rfl, Nat.le_of_ble_eq_true rfl⟩) (pre_V (ci := 3) (q0 := 1) (is := [1, 2]) rfl rfl hP hD hS hA hK hZ (by decide +kernel) (by rfl)) rfl rfl hl.1 rfl (by exact lv_room (Nat.le_of_ble_eq_true rfl)) dX7_begin_18 ⟨Nat.le_refl _, Nat.le_refl _⟩) hP hD hS hA (by decide +kernel) (by rfl) (by rfl) rfl (fun H locs hP hD hS => ?_)
  have hP : va_P G vwCl (wm_X7_begin cA h0 h0_by h0_by_numbers h0_by_words h0_tails h1 h1_numbers h1_words h0_onward h0_comesTo s0__size x2 s0__whole s0__anyStuck s0__loudest s0_by__all s0_by__v s0_by__loss s0_by__result s0_by__over s0_by__heldAll s0_by__heldRounded o1 o2 s0_tails s1__all s1__v s1__loss s1__result s1__over s1__heldAll s1__heldRounded s1_numbers s1_words) H := hP
  have hD : va_D A (wm_X7_begin cA h0 h0_by h0_by_numbers h0_by_words h0_tails h1 h1_numbers h1_words h0_onward h0_comesTo s0__size x2 s0__whole s0__anyStuck s0__loudest s0_by__all s0_by__v s0_by__loss s0_by__result s0_by__over s0_by__heldAll s0_by__heldRounded o1 o2 s0_tails s1__all s1__v s1__loss s1__result s1__over s1__heldAll s1__heldRounded s1_numbers s1_words) := hD
  refine lv_sipush (v := 1024) hx hb dX7_begin_21 (by decide) ?_
  refine va_mmin hx hb (hml.trans hl.1.symm) hown (hts _ (List.mem_of_getElem? (i := 3) rfl)) (hts _ (List.mem_of_getElem? (i := 4) rfl)) (hts _ (List.mem_of_getElem? (i := 5) rfl)) (hts _ (List.mem_of_getElem? (i := 6) rfl)) (Nat.le_of_ble_eq_true rfl) (Nat.le_of_ble_eq_true rfl) (Nat.zero_le _) (Nat.zero_le _) dX7_begin_24 ?_
  refine va_put (D := G) (ci := 7) (v := .int (if (1024:Int32) < r3 then (1024:Int32) else r3)) (ty := .int) (C := RX7) (T := TX7) (N := 9) hx hb hts hinX7 tyX7 tyX7_ok nmX7 hown hK hP hD hS 0 rfl rfl 4 (by decide) (hts _ (List.mem_of_getElem? (i := 7) rfl)) (fun _ h9 => h9) rfl (by decide +kernel) rfl rfl (Nat.le_of_ble_eq_true rfl) dX7_begin_27 (fun H locs hP hD hS => ?_)
  have hP : va_P G vwCl (wm_X7_begin cA h0 h0_by h0_by_numbers h0_by_words h0_tails h1 h1_numbers h1_words h0_onward h0_comesTo (if (1024:Int32) < r3 then (1024:Int32) else r3) x2 s0__whole s0__anyStuck s0__loudest s0_by__all s0_by__v s0_by__loss s0_by__result s0_by__over s0_by__heldAll s0_by__heldRounded o1 o2 s0_tails s1__all s1__v s1__loss s1__result s1__over s1__heldAll s1__heldRounded s1_numbers s1_words) H := hP
  have hD : va_D A (wm_X7_begin cA h0 h0_by h0_by_numbers h0_by_words h0_tails h1 h1_numbers h1_words h0_onward h0_comesTo (if (1024:Int32) < r3 then (1024:Int32) else r3) x2 s0__whole s0__anyStuck s0__loudest s0_by__all s0_by__v s0_by__loss s0_by__result s0_by__over s0_by__heldAll s0_by__heldRounded o1 o2 s0_tails s1__all s1__v s1__loss s1__result s1__over s1__heldAll s1__heldRounded s1_numbers s1_words) := hD
  refine lv_aload_n hx hb dX7_begin_30 rfl (lv_at hl 0 rfl) ?_
  refine lv_iconst (v := 0) hx hb dX7_begin_31 (by decide) ?_
  refine va_put (D := G) (ci := 7) (v := .int (0:Int32)) (ty := .boolean) (C := RX7) (T := TX7) (N := 9) hx hb hts hinX7 tyX7 tyX7_ok nmX7 hown hK hP hD hS 0 rfl rfl 6 (by decide) (hts _ (List.mem_of_getElem? (i := 8) rfl)) (fun _ h9 => h9) rfl (by decide +kernel) (by decide +kernel) (by decide +kernel) (Nat.le_of_ble_eq_true rfl) dX7_begin_32 (fun H locs hP hD hS => ?_)
  have hP : va_P G vwCl (wm_X7_begin cA h0 h0_by h0_by_numbers h0_by_words h0_tails h1 h1_numbers h1_words h0_onward h0_comesTo (if (1024:Int32) < r3 then (1024:Int32) else r3) x2 (0:Int32) s0__anyStuck s0__loudest s0_by__all s0_by__v s0_by__loss s0_by__result s0_by__over s0_by__heldAll s0_by__heldRounded o1 o2 s0_tails s1__all s1__v s1__loss s1__result s1__over s1__heldAll s1__heldRounded s1_numbers s1_words) H := hP
  have hD : va_D A (wm_X7_begin cA h0 h0_by h0_by_numbers h0_by_words h0_tails h1 h1_numbers h1_words h0_onward h0_comesTo (if (1024:Int32) < r3 then (1024:Int32) else r3) x2 (0:Int32) s0__anyStuck s0__loudest s0_by__all s0_by__v s0_by__loss s0_by__result s0_by__over s0_by__heldAll s0_by__heldRounded o1 o2 s0_tails s1__all s1__v s1__loss s1__result s1__over s1__heldAll s1__heldRounded s1_numbers s1_words) := hD
  refine lv_aload_n hx hb dX7_begin_35 rfl (lv_at hl 0 rfl) ?_
  refine lv_iconst (v := 0) hx hb dX7_begin_36 (by decide) ?_
  refine va_put (D := G) (ci := 7) (v := .int (0:Int32)) (ty := .boolean) (C := RX7) (T := TX7) (N := 9) hx hb hts hinX7 tyX7 tyX7_ok nmX7 hown hK hP hD hS 0 rfl rfl 7 (by decide) (hts _ (List.mem_of_getElem? (i := 9) rfl)) (fun _ h9 => h9) rfl (by decide +kernel) (by decide +kernel) (by decide +kernel) (Nat.le_of_ble_eq_true rfl) dX7_begin_37 (fun H locs hP hD hS => ?_)
  have hP : va_P G vwCl (wm_X7_begin cA h0 h0_by h0_by_numbers h0_by_words h0_tails h1 h1_numbers h1_words h0_onward h0_comesTo (if (1024:Int32) < r3 then (1024:Int32) else r3) x2 (0:Int32) (0:Int32) s0__loudest s0_by__all s0_by__v s0_by__loss s0_by__result s0_by__over s0_by__heldAll s0_by__heldRounded o1 o2 s0_tails s1__all s1__v s1__loss s1__result s1__over s1__heldAll s1__heldRounded s1_numbers s1_words) H := hP
  have hD : va_D A (wm_X7_begin cA h0 h0_by h0_by_numbers h0_by_words h0_tails h1 h1_numbers h1_words h0_onward h0_comesTo (if (1024:Int32) < r3 then (1024:Int32) else r3) x2 (0:Int32) (0:Int32) s0__loudest s0_by__all s0_by__v s0_by__loss s0_by__result s0_by__over s0_by__heldAll s0_by__heldRounded o1 o2 s0_tails s1__all s1__v s1__loss s1__result s1__over s1__heldAll s1__heldRounded s1_numbers s1_words) := hD
  refine lv_aload_n hx hb dX7_begin_40 rfl (lv_at hl 0 rfl) ?_
  refine lv_iconst (v := -1) hx hb dX7_begin_41 (by decide) ?_
  refine va_put (D := G) (ci := 7) (v := .int (-1:Int32)) (ty := .int) (C := RX7) (T := TX7) (N := 9) hx hb hts hinX7 tyX7 tyX7_ok nmX7 hown hK hP hD hS 0 rfl rfl 8 (by decide) (hts _ (List.mem_of_getElem? (i := 10) rfl)) (fun _ h9 => h9) rfl (by decide +kernel) rfl rfl (Nat.le_of_ble_eq_true rfl) dX7_begin_42 (fun H locs hP hD hS => ?_)
  have hP : va_P G vwCl (wm_X7_begin cA h0 h0_by h0_by_numbers h0_by_words h0_tails h1 h1_numbers h1_words h0_onward h0_comesTo (if (1024:Int32) < r3 then (1024:Int32) else r3) x2 (0:Int32) (0:Int32) (-1:Int32) s0_by__all s0_by__v s0_by__loss s0_by__result s0_by__over s0_by__heldAll s0_by__heldRounded o1 o2 s0_tails s1__all s1__v s1__loss s1__result s1__over s1__heldAll s1__heldRounded s1_numbers s1_words) H := hP
  have hD : va_D A (wm_X7_begin cA h0 h0_by h0_by_numbers h0_by_words h0_tails h1 h1_numbers h1_words h0_onward h0_comesTo (if (1024:Int32) < r3 then (1024:Int32) else r3) x2 (0:Int32) (0:Int32) (-1:Int32) s0_by__all s0_by__v s0_by__loss s0_by__result s0_by__over s0_by__heldAll s0_by__heldRounded o1 o2 s0_tails s1__all s1__v s1__loss s1__result s1__over s1__heldAll s1__heldRounded s1_numbers s1_words) := hD
  refine lv_iconst (v := 0) hx hb dX7_begin_45 (by decide) ?_
  refine lv_istore_n (lv' := [(3, .int (0:Int32)), (0, .ref h0), (1, .ref h1), (2, .int x2)]) hx hb dX7_begin_46 rfl hl (by decide) rfl (fun ls hl => ?_)
  obtain ⟨o4, hq, hok⟩ := g_bnd1 hok
  refine L_47 FUEL (0:Int32) (if (1024:Int32) < r3 then (1024:Int32) else r3) x2 (0:Int32) (0:Int32) (-1:Int32) o1 o2 s0_tails o4 _ _ _ hP hD hS (lv_sub hl [1, 0] rfl) hq (fun H locs ls hP hD hS hl => ?_)
  cases hok
  exact cr_v hx hb hr hlocks hQ dX7_begin_68 hP hS
set_option maxHeartbeats 40000000 in
set_option maxRecDepth 100000 in
theorem c_X7_is (l : Launch) (G : va_G) (cA : Nat → ClassId) (ts : Nat → Nat) (h0 : Nat) (h0_by : Nat) (h0_onward : Nat) (h0_tails : Nat) (h0_comesTo : Nat) (x1 : Int32) (s0__size : Int32) (s0__told : Int32) (s0__whole : Int32) (s0__anyStuck : Int32) (s0__loudest : Int32) (r : Int32) (hok : fX7_is x1 s0__size = some r) : Ct l G cA ts yX7_is wsX7_is 1 40 [.ref h0, .int x1] (wm_X7_is cA h0 h0_by h0_onward h0_tails h0_comesTo s0__size s0__told s0__whole s0__anyStuck s0__loudest) (wm_X7_is cA h0 h0_by h0_onward h0_tails h0_comesTo s0__size s0__told s0__whole s0__anyStuck s0__loudest) (some (.int r)) := by
  refine Ct.intro (cc := cX7_is) (maxL := 2) (ret := some .boolean) (by decide +kernel) rfl (Nat.le_of_ble_eq_true rfl) ?_
  intro p e s m ar below meth c A Q hx hb hr hml hown hlocks hts hK hZ hA hQ hP hD hS ls hl
  have hown : s.vm.findClass RX7 = some m.cls := hown
  have hinX7 : ∀ w ∈ wsX70, w ∈ wsX7_is := fun _ h => List.mem_cons_of_mem _ (List.mem_append_right _ (h))
  have hl : lv_has ls 2 [(0, .ref h0), (1, .int x1)] := hl
  have hP : va_P G vwCl (wm_X7_is cA h0 h0_by h0_onward h0_tails h0_comesTo s0__size s0__told s0__whole s0__anyStuck s0__loudest) s.heap := hP
  have hD : va_D A (wm_X7_is cA h0 h0_by h0_onward h0_tails h0_comesTo s0__size s0__told s0__whole s0__anyStuck s0__loudest) := hD
  unfold fX7_is at hok
  refine lv_iload_n hx hb dX7_is_0 rfl (lv_at hl 1 rfl) ?_
  refine lv_if_lt (tgt := 23) hx hb dX7_is_1 (by decide) (fun c => ?_) (fun c => ?_)
  · replace hok := g_pos hok c
    refine lv_iconst (v := 0) hx hb dX7_is_23 (by decide) ?_
    cases hok
    exact cr_z (ty := .boolean) (by decide +kernel) hx hb hr hlocks hQ dX7_is_24 hP hS
  replace hok := g_neg hok c
  refine lv_iload_n hx hb dX7_is_4 rfl (lv_at hl 1 rfl) ?_
  refine lv_aload_n hx hb dX7_is_5 rfl (lv_at hl 0 rfl) ?_
  refine va_get (ci := 7) (v := .int s0__size) (C := RX7) (T := TX7) (N := 9) hx hb hts hinX7 hown hK hP 0 rfl rfl 4 (by decide) (hts _ (List.mem_of_getElem? (i := 1) rfl)) (fun _ h9 => h9) rfl dX7_is_6 ?_
  refine lv_icmp_ge (tgt := 23) hx hb dX7_is_9 (by decide) (fun c => ?_) (fun c => ?_)
  · replace hok := g_pos hok c
    refine lv_iconst (v := 0) hx hb dX7_is_23 (by decide) ?_
    cases hok
    exact cr_z (ty := .boolean) (by decide +kernel) hx hb hr hlocks hQ dX7_is_24 hP hS
  replace hok := g_neg hok c
  refine lv_iload_n hx hb dX7_is_12 rfl (lv_at hl 1 rfl) ?_
  refine lv_sipush (v := 1024) hx hb dX7_is_13 (by decide) ?_
  refine lv_icmp_ge (tgt := 23) hx hb dX7_is_16 (by decide) (fun c => ?_) (fun c => ?_)
  · replace hok := g_pos hok c
    refine lv_iconst (v := 0) hx hb dX7_is_23 (by decide) ?_
    cases hok
    exact cr_z (ty := .boolean) (by decide +kernel) hx hb hr hlocks hQ dX7_is_24 hP hS
  replace hok := g_neg hok c
  refine lv_iconst (v := 1) hx hb dX7_is_19 (by decide) ?_
  refine lv_goto (tgt := 24) hx hb dX7_is_20 (by decide) ?_
  cases hok
  exact cr_z (ty := .boolean) (by decide +kernel) hx hb hr hlocks hQ dX7_is_24 hP hS
set_option maxHeartbeats 40000000 in
set_option maxRecDepth 100000 in
theorem c_X7_closeCycle (l : Launch) (G : va_G) (cA : Nat → ClassId) (ts : Nat → Nat) (h0 : Nat) (h0_by : Nat) (h0_by_numbers : Nat) (h0_onward : Nat) (h0_tails : Nat) (h0_comesTo : Nat) (h0_by_words : Nat) (x1 : Int32) (s0__size : Int32) (s0__told : Int32) (s0__whole : Int32) (s0__anyStuck : Int32) (s0__loudest : Int32) (s0_by__all : Int32) (s0_by__v : Int32) (s0_by__loss : Int32) (s0_by__result : Int32) (s0_by__over : Int32) (s0_by__heldAll : Int32) (s0_by__heldRounded : Int32) (s0_by_numbers : Nat → Int32) (s0_onward : Nat → Int32) (s0_tails : Nat → Int32) (s0_comesTo : Nat → Int32) (o0__loudest : Int32) (o0_tails : Nat → Int32) (o0_comesTo : Nat → Int32) (hok : fX7_closeCycle x1 s0__size s0__loudest s0_by_numbers s0_onward s0_tails s0_comesTo = some (o0__loudest, o0_tails, o0_comesTo)) : Ct l G cA ts yX7_closeCycle wsX7_closeCycle 3 81 [.ref h0, .int x1] (wm_X7_closeCycle cA h0 h0_by h0_by_numbers h0_onward h0_tails h0_comesTo h0_by_words s0__size s0__told s0__whole s0__anyStuck s0__loudest s0_by__all s0_by__v s0_by__loss s0_by__result s0_by__over s0_by__heldAll s0_by__heldRounded s0_by_numbers s0_onward s0_tails s0_comesTo) (wm_X7_closeCycle cA h0 h0_by h0_by_numbers h0_onward h0_tails h0_comesTo h0_by_words s0__size s0__told s0__whole s0__anyStuck o0__loudest s0_by__all s0_by__v s0_by__loss s0_by__result s0_by__over s0_by__heldAll s0_by__heldRounded s0_by_numbers s0_onward o0_tails o0_comesTo) none := by
  refine Ct.intro (cc := cX7_closeCycle) (maxL := 5) (ret := none) (by decide +kernel) rfl (Nat.le_of_ble_eq_true rfl) ?_
  intro p e s m ar below meth c A Q hx hb hr hml hown hlocks hts hK hZ hA hQ hP hD hS ls hl
  have hown : s.vm.findClass RX7 = some m.cls := hown
  have hinX7 : ∀ w ∈ wsX70, w ∈ wsX7_closeCycle := fun _ h => List.mem_cons_of_mem _ (List.mem_append_left _ (List.mem_append_right _ (h)))
  have hl : lv_has ls 5 [(0, .ref h0), (1, .int x1)] := hl
  have hP : va_P G vwCl (wm_X7_closeCycle cA h0 h0_by h0_by_numbers h0_onward h0_tails h0_comesTo h0_by_words s0__size s0__told s0__whole s0__anyStuck s0__loudest s0_by__all s0_by__v s0_by__loss s0_by__result s0_by__over s0_by__heldAll s0_by__heldRounded s0_by_numbers s0_onward s0_tails s0_comesTo) s.heap := hP
  have hD : va_D A (wm_X7_closeCycle cA h0 h0_by h0_by_numbers h0_onward h0_tails h0_comesTo h0_by_words s0__size s0__told s0__whole s0__anyStuck s0__loudest s0_by__all s0_by__v s0_by__loss s0_by__result s0_by__over s0_by__heldAll s0_by__heldRounded s0_by_numbers s0_onward s0_tails s0_comesTo) := hD
  have L_7 : ∀ (n : Nat) (y2 : Int32) (y3 : Int32) (y4 : Int32) (c0__loudest : Int32) (c0_tails : Nat → Int32) (c0_comesTo : Nat → Int32) (p0_0 : Int32) (p0_1 : Int32) (p0_2 : Int32) (H : Heap) (locs : List Loc) (ls : Array Slot), va_P G vwCl (wm_X7_closeCycle cA h0 h0_by h0_by_numbers h0_onward h0_tails h0_comesTo h0_by_words s0__size s0__told s0__whole s0__anyStuck c0__loudest s0_by__all s0_by__v s0_by__loss s0_by__result s0_by__over s0_by__heldAll s0_by__heldRounded s0_by_numbers s0_onward c0_tails c0_comesTo) H → va_D A (wm_X7_closeCycle cA h0 h0_by h0_by_numbers h0_onward h0_tails h0_comesTo h0_by_words s0__size s0__told s0__whole s0__anyStuck c0__loudest s0_by__all s0_by__v s0_by__loss s0_by__result s0_by__over s0_by__heldAll s0_by__heldRounded s0_by_numbers s0_onward c0_tails c0_comesTo) → va_S A s.heap H locs → lv_has ls 5 [(0, .ref h0), (1, .int x1), (2, .int y2), (3, .int y3), (4, .int y4)] → fX7_closeCycle_L7 x1 s0__size s0_by_numbers s0_onward n y2 y3 y4 c0__loudest c0_tails c0_comesTo = some (p0_0, p0_1, p0_2) → (∀ (H : Heap) (locs : List Loc) (ls : Array Slot), va_P G vwCl (wm_X7_closeCycle cA h0 h0_by h0_by_numbers h0_onward h0_tails h0_comesTo h0_by_words s0__size s0__told s0__whole s0__anyStuck p0_2 s0_by__all s0_by__v s0_by__loss s0_by__result s0_by__over s0_by__heldAll s0_by__heldRounded s0_by_numbers s0_onward c0_tails c0_comesTo) H → va_D A (wm_X7_closeCycle cA h0 h0_by h0_by_numbers h0_onward h0_tails h0_comesTo h0_by_words s0__size s0__told s0__whole s0__anyStuck p0_2 s0_by__all s0_by__v s0_by__loss s0_by__result s0_by__over s0_by__heldAll s0_by__heldRounded s0_by_numbers s0_onward c0_tails c0_comesTo) → va_S A s.heap H locs → lv_has ls 5 [(0, .ref h0), (2, .int p0_0), (3, .int p0_1)] → W p l e (rmX 3 81) s m ar below meth c H locs 0 0 Q (F0 m 75 ls [])) → W p l e (rmX 3 81) s m ar below meth c H locs 0 0 Q (F0 m 7 ls []) := by
    intro n
    induction n with
    | zero =>
      intro y2 y3 y4 c0__loudest c0_tails c0_comesTo p0_0 p0_1 p0_2 H locs ls hP hD hS hl hok
      rw [fX7_closeCycle_L7] at hok
      cases hok
    | succ n ih =>
      intro y2 y3 y4 c0__loudest c0_tails c0_comesTo p0_0 p0_1 p0_2 H locs ls hP hD hS hl hok K
      rw [fX7_closeCycle_L7] at hok
      have J_34 : ∀ (y2 : Int32) (y3 : Int32) (y4 : Int32) (c0__loudest : Int32) (H : Heap) (locs : List Loc) (ls : Array Slot), va_P G vwCl (wm_X7_closeCycle cA h0 h0_by h0_by_numbers h0_onward h0_tails h0_comesTo h0_by_words s0__size s0__told s0__whole s0__anyStuck c0__loudest s0_by__all s0_by__v s0_by__loss s0_by__result s0_by__over s0_by__heldAll s0_by__heldRounded s0_by_numbers s0_onward c0_tails c0_comesTo) H → va_D A (wm_X7_closeCycle cA h0 h0_by h0_by_numbers h0_onward h0_tails h0_comesTo h0_by_words s0__size s0__told s0__whole s0__anyStuck c0__loudest s0_by__all s0_by__v s0_by__loss s0_by__result s0_by__over s0_by__heldAll s0_by__heldRounded s0_by_numbers s0_onward c0_tails c0_comesTo) → va_S A s.heap H locs → lv_has ls 5 [(0, .ref h0), (1, .int x1), (2, .int y2), (3, .int y3), (4, .int y4)] → fX7_closeCycle_j34 x1 s0__size s0_by_numbers s0_onward (fX7_closeCycle_L7 x1 s0__size s0_by_numbers s0_onward n) y2 y3 y4 c0__loudest c0_tails c0_comesTo = some (p0_0, p0_1, p0_2) → W p l e (rmX 3 81) s m ar below meth c H locs 0 0 Q (F0 m 34 ls []) := by
        intro y2 y3 y4 c0__loudest H locs ls hP hD hS hl hok
        unfold fX7_closeCycle_j34 at hok
        refine lv_iload_n hx hb dX7_closeCycle_34 rfl (lv_at hl 2 rfl) ?_
        refine lv_iload_n hx hb dX7_closeCycle_35 rfl (lv_at hl 3 rfl) ?_
        refine va_mmin hx hb (hml.trans hl.1.symm) hown (hts _ (List.mem_of_getElem? (i := 2) rfl)) (hts _ (List.mem_of_getElem? (i := 3) rfl)) (hts _ (List.mem_of_getElem? (i := 4) rfl)) (hts _ (List.mem_of_getElem? (i := 5) rfl)) (Nat.le_of_ble_eq_true rfl) (Nat.le_of_ble_eq_true rfl) (Nat.zero_le _) (Nat.zero_le _) dX7_closeCycle_36 ?_
        refine lv_istore_n (lv' := [(2, .int (if y3 < y2 then y3 else y2)), (0, .ref h0), (1, .int x1), (3, .int y3), (4, .int y4)]) hx hb dX7_closeCycle_39 rfl hl (by decide) rfl (fun ls hl => ?_)
        refine lv_aload_n hx hb dX7_closeCycle_40 rfl (lv_at hl 1 rfl) ?_
        refine lv_aload_n hx hb dX7_closeCycle_41 rfl (lv_at hl 1 rfl) ?_
        refine va_get (ci := 7) (v := .int c0__loudest) (C := RX7) (T := TX7) (N := 9) hx hb hts hinX7 hown hK hP 0 rfl rfl 8 (by decide) (hts _ (List.mem_of_getElem? (i := 6) rfl)) (fun _ h9 => h9) rfl dX7_closeCycle_42 ?_
        refine lv_aload_n hx hb dX7_closeCycle_45 rfl (lv_at hl 1 rfl) ?_
        refine va_get (ci := 7) (v := .ref h0_by) (C := RX7) (T := TX7) (N := 9) hx hb hts hinX7 hown hK hP 0 rfl rfl 0 (by decide) (hts _ (List.mem_of_getElem? (i := 7) rfl)) (fun _ h9 => h9) rfl dX7_closeCycle_46 ?_
        refine lv_iload_n hx hb dX7_closeCycle_49 rfl (lv_at hl 3 rfl) ?_
        obtain ⟨r2, hq, hok⟩ := g_bnd1 hok
        refine cG (is := [1, 2]) (wc := (wm_X3_unit cA h0_by h0_by_numbers h0_by_words s0_by__all s0_by__v s0_by__loss s0_by__result s0_by__over s0_by__heldAll s0_by__heldRounded s0_by_numbers)) (w1 := (wm_X3_unit cA h0_by h0_by_numbers h0_by_words s0_by__all s0_by__v s0_by__loss s0_by__result s0_by__over s0_by__heldAll s0_by__heldRounded s0_by_numbers)) (rv := (some (.int r2))) (st1 := [.int r2, .int c0__loudest, .ref h0]) (va_runV (Ts := wsX7_closeCycle) (As := [.int y3]) (rest := [.int c0__loudest, .ref h0]) ⟨hx, hb, hml, hown, hts⟩ (c_X3_latestIn l G cA ts h0_by h0_by_numbers h0_by_words y3 s0_by__all s0_by__v s0_by__loss s0_by__result s0_by__over s0_by__heldAll s0_by__heldRounded s0_by_numbers r2 hq H.size) (cwV 1 hts gX7_closeCycle_X3_latestIn rfl rfl rfl (by decide +kernel) ⟨Nat.le_of_ble_eq_true rfl, Nat.le_of_ble_eq_true rfl⟩) (pre_V (ci := 3) (q0 := 1) (is := [1, 2]) rfl rfl hP hD hS hA hK hZ (by decide +kernel) (by rfl)) rfl rfl hl.1 rfl (by exact lv_room (Nat.le_of_ble_eq_true rfl)) dX7_closeCycle_50 ⟨Nat.le_refl _, Nat.le_refl _⟩) hP hD hS hA (by decide +kernel) (by rfl) (by rfl) rfl (fun H locs hP hD hS => ?_)
        have hP : va_P G vwCl (wm_X7_closeCycle cA h0 h0_by h0_by_numbers h0_onward h0_tails h0_comesTo h0_by_words s0__size s0__told s0__whole s0__anyStuck c0__loudest s0_by__all s0_by__v s0_by__loss s0_by__result s0_by__over s0_by__heldAll s0_by__heldRounded s0_by_numbers s0_onward c0_tails c0_comesTo) H := hP
        have hD : va_D A (wm_X7_closeCycle cA h0 h0_by h0_by_numbers h0_onward h0_tails h0_comesTo h0_by_words s0__size s0__told s0__whole s0__anyStuck c0__loudest s0_by__all s0_by__v s0_by__loss s0_by__result s0_by__over s0_by__heldAll s0_by__heldRounded s0_by_numbers s0_onward c0_tails c0_comesTo) := hD
        refine va_mabs hx hb (hml.trans hl.1.symm) hown (hts _ (List.mem_of_getElem? (i := 8) rfl)) (hts _ (List.mem_of_getElem? (i := 9) rfl)) (hts _ (List.mem_of_getElem? (i := 4) rfl)) (hts _ (List.mem_of_getElem? (i := 10) rfl)) (Nat.le_of_ble_eq_true rfl) (Nat.le_of_ble_eq_true rfl) (Nat.zero_le _) (Nat.zero_le _) dX7_closeCycle_53 ?_
        refine va_mmax hx hb (hml.trans hl.1.symm) hown (hts _ (List.mem_of_getElem? (i := 11) rfl)) (hts _ (List.mem_of_getElem? (i := 12) rfl)) (hts _ (List.mem_of_getElem? (i := 4) rfl)) (hts _ (List.mem_of_getElem? (i := 13) rfl)) (Nat.le_of_ble_eq_true rfl) (Nat.le_of_ble_eq_true rfl) (Nat.zero_le _) (Nat.zero_le _) dX7_closeCycle_56 ?_
        refine va_put (D := G) (ci := 7) (v := .int (if c0__loudest < (if 0 ≤ r2 then r2 else 0 - r2) then (if 0 ≤ r2 then r2 else 0 - r2) else c0__loudest)) (ty := .int) (C := RX7) (T := TX7) (N := 9) hx hb hts hinX7 tyX7 tyX7_ok nmX7 hown hK hP hD hS 0 rfl rfl 8 (by decide) (hts _ (List.mem_of_getElem? (i := 6) rfl)) (fun _ h9 => h9) rfl (by decide +kernel) rfl rfl (Nat.le_of_ble_eq_true rfl) dX7_closeCycle_59 (fun H locs hP hD hS => ?_)
        have hP : va_P G vwCl (wm_X7_closeCycle cA h0 h0_by h0_by_numbers h0_onward h0_tails h0_comesTo h0_by_words s0__size s0__told s0__whole s0__anyStuck (if c0__loudest < (if 0 ≤ r2 then r2 else 0 - r2) then (if 0 ≤ r2 then r2 else 0 - r2) else c0__loudest) s0_by__all s0_by__v s0_by__loss s0_by__result s0_by__over s0_by__heldAll s0_by__heldRounded s0_by_numbers s0_onward c0_tails c0_comesTo) H := hP
        have hD : va_D A (wm_X7_closeCycle cA h0 h0_by h0_by_numbers h0_onward h0_tails h0_comesTo h0_by_words s0__size s0__told s0__whole s0__anyStuck (if c0__loudest < (if 0 ≤ r2 then r2 else 0 - r2) then (if 0 ≤ r2 then r2 else 0 - r2) else c0__loudest) s0_by__all s0_by__v s0_by__loss s0_by__result s0_by__over s0_by__heldAll s0_by__heldRounded s0_by_numbers s0_onward c0_tails c0_comesTo) := hD
        refine lv_aload_n hx hb dX7_closeCycle_62 rfl (lv_at hl 1 rfl) ?_
        refine va_get (ci := 7) (v := .ref h0_onward) (C := RX7) (T := TX7) (N := 9) hx hb hts hinX7 hown hK hP 0 rfl rfl 1 (by decide) (hts _ (List.mem_of_getElem? (i := 14) rfl)) (fun _ h9 => h9) rfl dX7_closeCycle_63 ?_
        refine lv_iload_n hx hb dX7_closeCycle_66 rfl (lv_at hl 3 rfl) ?_
        obtain ⟨hin, hok⟩ := g_no hok
        refine x_iald (k := y3.toNatClampNeg) hx hb hK hP 3 0 rfl rfl hin rfl dX7_closeCycle_67 ?_
        refine lv_istore_n (lv' := [(3, .int (s0_onward y3.toNatClampNeg)), (2, .int (if y3 < y2 then y3 else y2)), (0, .ref h0), (1, .int x1), (4, .int y4)]) hx hb dX7_closeCycle_68 rfl hl (by decide) rfl (fun ls hl => ?_)
        refine lv_iinc (v := (y4 + 1)) (lv' := [(4, .int (y4 + 1)), (3, .int (s0_onward y3.toNatClampNeg)), (2, .int (if y3 < y2 then y3 else y2)), (0, .ref h0), (1, .int x1)]) hx hb dX7_closeCycle_69 hl (k := 4) rfl rfl (by decide) rfl (fun ls hl => ?_)
        refine lv_goto (tgt := 7) hx hb dX7_closeCycle_72 (by decide) ?_
        exact ih (if y3 < y2 then y3 else y2) (s0_onward y3.toNatClampNeg) (y4 + 1) (if c0__loudest < (if 0 ≤ r2 then r2 else 0 - r2) then (if 0 ≤ r2 then r2 else 0 - r2) else c0__loudest) c0_tails c0_comesTo p0_0 p0_1 p0_2 _ _ _ hP hD hS (lv_sub hl [3, 4, 2, 1, 0] rfl) hok K
      refine lv_iload hx hb dX7_closeCycle_7 (lv_at hl 4 rfl) ?_
      refine lv_aload_n hx hb dX7_closeCycle_9 rfl (lv_at hl 0 rfl) ?_
      refine va_get (ci := 7) (v := .int s0__size) (C := RX7) (T := TX7) (N := 9) hx hb hts hinX7 hown hK hP 0 rfl rfl 4 (by decide) (hts _ (List.mem_of_getElem? (i := 1) rfl)) (fun _ h9 => h9) rfl dX7_closeCycle_10 ?_
      refine lv_icmp_ge (tgt := 75) hx hb dX7_closeCycle_13 (by decide) (fun c => ?_) (fun c => ?_)
      · replace hok := g_pos hok c
        cases hok
        exact K _ _ _ hP hD hS (lv_sub hl [0, 2, 3] rfl)
      replace hok := g_neg hok c
      refine lv_aload_n hx hb dX7_closeCycle_16 rfl (lv_at hl 0 rfl) ?_
      refine lv_iload_n hx hb dX7_closeCycle_17 rfl (lv_at hl 3 rfl) ?_
      obtain ⟨r1, hq, hok⟩ := g_bnd1 hok
      refine cG (is := [0]) (wc := (wm_X7_is cA h0 h0_by h0_onward h0_tails h0_comesTo s0__size s0__told s0__whole s0__anyStuck c0__loudest)) (w1 := (wm_X7_is cA h0 h0_by h0_onward h0_tails h0_comesTo s0__size s0__told s0__whole s0__anyStuck c0__loudest)) (rv := (some (.int r1))) (st1 := [.int r1]) (va_runV (Ts := wsX7_closeCycle) (As := [.int y3]) (rest := []) ⟨hx, hb, hml, hown, hts⟩ (c_X7_is l G cA ts h0 h0_by h0_onward h0_tails h0_comesTo y3 s0__size s0__told s0__whole s0__anyStuck c0__loudest r1 hq H.size) (cwV 1 hts gX7_closeCycle_X7_is rfl rfl rfl (by decide +kernel) ⟨Nat.le_of_ble_eq_true rfl, Nat.le_of_ble_eq_true rfl⟩) (pre_V (ci := 7) (q0 := 0) (is := [0]) rfl rfl hP hD hS hA hK hZ (by decide +kernel) (by rfl)) rfl rfl hl.1 rfl (by exact lv_room (Nat.le_of_ble_eq_true rfl)) dX7_closeCycle_18 ⟨Nat.le_refl _, Nat.le_refl _⟩) hP hD hS hA (by decide +kernel) (by rfl) (by rfl) rfl (fun H locs hP hD hS => ?_)
      have hP : va_P G vwCl (wm_X7_closeCycle cA h0 h0_by h0_by_numbers h0_onward h0_tails h0_comesTo h0_by_words s0__size s0__told s0__whole s0__anyStuck c0__loudest s0_by__all s0_by__v s0_by__loss s0_by__result s0_by__over s0_by__heldAll s0_by__heldRounded s0_by_numbers s0_onward c0_tails c0_comesTo) H := hP
      have hD : va_D A (wm_X7_closeCycle cA h0 h0_by h0_by_numbers h0_onward h0_tails h0_comesTo h0_by_words s0__size s0__told s0__whole s0__anyStuck c0__loudest s0_by__all s0_by__v s0_by__loss s0_by__result s0_by__over s0_by__heldAll s0_by__heldRounded s0_by_numbers s0_onward c0_tails c0_comesTo) := hD
      refine lv_if_eq (tgt := 75) hx hb dX7_closeCycle_21 (by decide) (fun c => ?_) (fun c => ?_)
      · replace hok := g_pos hok c
        cases hok
        exact K _ _ _ hP hD hS (lv_sub hl [0, 2, 3] rfl)
      replace hok := g_neg hok c
      refine lv_iload hx hb dX7_closeCycle_24 (lv_at hl 4 rfl) ?_
      refine lv_if_eq (tgt := 34) hx hb dX7_closeCycle_26 (by decide) (fun c => ?_) (fun c => ?_)
      · replace hok := g_pos hok c
        exact J_34 y2 y3 y4 c0__loudest _ _ _ hP hD hS (lv_sub hl [0, 1, 2, 3, 4] rfl) hok
      replace hok := g_neg hok c
      refine lv_iload_n hx hb dX7_closeCycle_29 rfl (lv_at hl 3 rfl) ?_
      refine lv_iload_n hx hb dX7_closeCycle_30 rfl (lv_at hl 1 rfl) ?_
      refine lv_icmp_eq (tgt := 75) hx hb dX7_closeCycle_31 (by decide) (fun c => ?_) (fun c => ?_)
      · replace hok := g_pos hok c
        cases hok
        exact K _ _ _ hP hD hS (lv_sub hl [0, 2, 3] rfl)
      replace hok := g_neg hok c
      exact J_34 y2 y3 y4 c0__loudest _ _ _ hP hD hS (lv_sub hl [0, 1, 2, 3, 4] rfl) hok
  have L_78 : ∀ (n : Nat) (y2 : Int32) (y3 : Int32) (y4 : Int32) (c0__loudest : Int32) (c0_tails : Nat → Int32) (c0_comesTo : Nat → Int32) (p0_0 : Nat → Int32) (p0_1 : Nat → Int32) (H : Heap) (locs : List Loc) (ls : Array Slot), va_P G vwCl (wm_X7_closeCycle cA h0 h0_by h0_by_numbers h0_onward h0_tails h0_comesTo h0_by_words s0__size s0__told s0__whole s0__anyStuck c0__loudest s0_by__all s0_by__v s0_by__loss s0_by__result s0_by__over s0_by__heldAll s0_by__heldRounded s0_by_numbers s0_onward c0_tails c0_comesTo) H → va_D A (wm_X7_closeCycle cA h0 h0_by h0_by_numbers h0_onward h0_tails h0_comesTo h0_by_words s0__size s0__told s0__whole s0__anyStuck c0__loudest s0_by__all s0_by__v s0_by__loss s0_by__result s0_by__over s0_by__heldAll s0_by__heldRounded s0_by_numbers s0_onward c0_tails c0_comesTo) → va_S A s.heap H locs → lv_has ls 5 [(0, .ref h0), (2, .int y2), (3, .int y3), (4, .int y4)] → fX7_closeCycle_L78 x1 s0__size s0_by_numbers s0_onward n y2 y3 y4 c0__loudest c0_tails c0_comesTo = some (p0_0, p0_1) → (∀ (H : Heap) (locs : List Loc) (ls : Array Slot), va_P G vwCl (wm_X7_closeCycle cA h0 h0_by h0_by_numbers h0_onward h0_tails h0_comesTo h0_by_words s0__size s0__told s0__whole s0__anyStuck c0__loudest s0_by__all s0_by__v s0_by__loss s0_by__result s0_by__over s0_by__heldAll s0_by__heldRounded s0_by_numbers s0_onward p0_0 p0_1) H → va_D A (wm_X7_closeCycle cA h0 h0_by h0_by_numbers h0_onward h0_tails h0_comesTo h0_by_words s0__size s0__told s0__whole s0__anyStuck c0__loudest s0_by__all s0_by__v s0_by__loss s0_by__result s0_by__over s0_by__heldAll s0_by__heldRounded s0_by_numbers s0_onward p0_0 p0_1) → va_S A s.heap H locs → lv_has ls 5 [] → W p l e (rmX 3 81) s m ar below meth c H locs 0 0 Q (F0 m 133 ls [])) → W p l e (rmX 3 81) s m ar below meth c H locs 0 0 Q (F0 m 78 ls []) := by
    intro n
    induction n with
    | zero =>
      intro y2 y3 y4 c0__loudest c0_tails c0_comesTo p0_0 p0_1 H locs ls hP hD hS hl hok
      rw [fX7_closeCycle_L78] at hok
      cases hok
    | succ n ih =>
      intro y2 y3 y4 c0__loudest c0_tails c0_comesTo p0_0 p0_1 H locs ls hP hD hS hl hok K
      rw [fX7_closeCycle_L78] at hok
      refine lv_iload hx hb dX7_closeCycle_78 (lv_at hl 3 rfl) ?_
      refine lv_aload_n hx hb dX7_closeCycle_80 rfl (lv_at hl 0 rfl) ?_
      refine va_get (ci := 7) (v := .int s0__size) (C := RX7) (T := TX7) (N := 9) hx hb hts hinX7 hown hK hP 0 rfl rfl 4 (by decide) (hts _ (List.mem_of_getElem? (i := 1) rfl)) (fun _ h9 => h9) rfl dX7_closeCycle_81 ?_
      refine lv_icmp_ge (tgt := 133) hx hb dX7_closeCycle_84 (by decide) (fun c => ?_) (fun c => ?_)
      · replace hok := g_pos hok c
        cases hok
        exact K _ _ _ hP hD hS (lv_sub hl [] rfl)
      replace hok := g_neg hok c
      refine lv_aload_n hx hb dX7_closeCycle_87 rfl (lv_at hl 0 rfl) ?_
      refine lv_iload_n hx hb dX7_closeCycle_88 rfl (lv_at hl 2 rfl) ?_
      obtain ⟨r6, hq, hok⟩ := g_bnd1 hok
      refine cG (is := [0]) (wc := (wm_X7_is cA h0 h0_by h0_onward h0_tails h0_comesTo s0__size s0__told s0__whole s0__anyStuck c0__loudest)) (w1 := (wm_X7_is cA h0 h0_by h0_onward h0_tails h0_comesTo s0__size s0__told s0__whole s0__anyStuck c0__loudest)) (rv := (some (.int r6))) (st1 := [.int r6]) (va_runV (Ts := wsX7_closeCycle) (As := [.int y3]) (rest := []) ⟨hx, hb, hml, hown, hts⟩ (c_X7_is l G cA ts h0 h0_by h0_onward h0_tails h0_comesTo y3 s0__size s0__told s0__whole s0__anyStuck c0__loudest r6 hq H.size) (cwV 1 hts gX7_closeCycle_X7_is rfl rfl rfl (by decide +kernel) ⟨Nat.le_of_ble_eq_true rfl, Nat.le_of_ble_eq_true rfl⟩) (pre_V (ci := 7) (q0 := 0) (is := [0]) rfl rfl hP hD hS hA hK hZ (by decide +kernel) (by rfl)) rfl rfl hl.1 rfl (by exact lv_room (Nat.le_of_ble_eq_true rfl)) dX7_closeCycle_89 ⟨Nat.le_refl _, Nat.le_refl _⟩) hP hD hS hA (by decide +kernel) (by rfl) (by rfl) rfl (fun H locs hP hD hS => ?_)
      have hP : va_P G vwCl (wm_X7_closeCycle cA h0 h0_by h0_by_numbers h0_onward h0_tails h0_comesTo h0_by_words s0__size s0__told s0__whole s0__anyStuck c0__loudest s0_by__all s0_by__v s0_by__loss s0_by__result s0_by__over s0_by__heldAll s0_by__heldRounded s0_by_numbers s0_onward c0_tails c0_comesTo) H := hP
      have hD : va_D A (wm_X7_closeCycle cA h0 h0_by h0_by_numbers h0_onward h0_tails h0_comesTo h0_by_words s0__size s0__told s0__whole s0__anyStuck c0__loudest s0_by__all s0_by__v s0_by__loss s0_by__result s0_by__over s0_by__heldAll s0_by__heldRounded s0_by_numbers s0_onward c0_tails c0_comesTo) := hD
      refine lv_if_eq (tgt := 133) hx hb dX7_closeCycle_92 (by decide) (fun c => ?_) (fun c => ?_)
      · replace hok := g_pos hok c
        cases hok
        exact K _ _ _ hP hD hS (lv_sub hl [] rfl)
      replace hok := g_neg hok c
      refine lv_aload_n hx hb dX7_closeCycle_95 rfl (lv_at hl 0 rfl) ?_
      refine va_get (ci := 7) (v := .ref h0_tails) (C := RX7) (T := TX7) (N := 9) hx hb hts hinX7 hown hK hP 0 rfl rfl 2 (by decide) (hts _ (List.mem_of_getElem? (i := 15) rfl)) (fun _ h9 => h9) rfl dX7_closeCycle_96 ?_
      refine lv_iload_n hx hb dX7_closeCycle_99 rfl (lv_at hl 2 rfl) ?_
      obtain ⟨hin, hok⟩ := g_no hok
      refine x_iald (k := y3.toNatClampNeg) hx hb hK hP 4 0 rfl rfl hin rfl dX7_closeCycle_100 ?_
      refine lv_bipush (v := -2) hx hb dX7_closeCycle_101 (by decide) ?_
      refine lv_icmp_ne (tgt := 133) hx hb dX7_closeCycle_103 (by decide) (fun c => ?_) (fun c => ?_)
      · replace hok := g_neg hok c
        cases hok
        exact K _ _ _ hP hD hS (lv_sub hl [] rfl)
      replace hok := g_pos hok c
      refine lv_aload_n hx hb dX7_closeCycle_106 rfl (lv_at hl 0 rfl) ?_
      refine va_get (ci := 7) (v := .ref h0_tails) (C := RX7) (T := TX7) (N := 9) hx hb hts hinX7 hown hK hP 0 rfl rfl 2 (by decide) (hts _ (List.mem_of_getElem? (i := 15) rfl)) (fun _ h9 => h9) rfl dX7_closeCycle_107 ?_
      refine lv_iload_n hx hb dX7_closeCycle_110 rfl (lv_at hl 2 rfl) ?_
      refine lv_iconst (v := 0) hx hb dX7_closeCycle_111 (by decide) ?_
      obtain ⟨hin, hok⟩ := g_no hok
      refine x_iast (k := y3.toNatClampNeg) hx hb hK hP hD hS 4 0 rfl rfl hin rfl dX7_closeCycle_112 (fun H locs hP hD hS => ?_)
      have hP : va_P G vwCl (wm_X7_closeCycle cA h0 h0_by h0_by_numbers h0_onward h0_tails h0_comesTo h0_by_words s0__size s0__told s0__whole s0__anyStuck c0__loudest s0_by__all s0_by__v s0_by__loss s0_by__result s0_by__over s0_by__heldAll s0_by__heldRounded s0_by_numbers s0_onward (upd c0_tails y3.toNatClampNeg (0:Int32)) c0_comesTo) H := hP
      have hD : va_D A (wm_X7_closeCycle cA h0 h0_by h0_by_numbers h0_onward h0_tails h0_comesTo h0_by_words s0__size s0__told s0__whole s0__anyStuck c0__loudest s0_by__all s0_by__v s0_by__loss s0_by__result s0_by__over s0_by__heldAll s0_by__heldRounded s0_by_numbers s0_onward (upd c0_tails y3.toNatClampNeg (0:Int32)) c0_comesTo) := hD
      refine lv_aload_n hx hb dX7_closeCycle_113 rfl (lv_at hl 0 rfl) ?_
      refine va_get (ci := 7) (v := .ref h0_comesTo) (C := RX7) (T := TX7) (N := 9) hx hb hts hinX7 hown hK hP 0 rfl rfl 3 (by decide) (hts _ (List.mem_of_getElem? (i := 16) rfl)) (fun _ h9 => h9) rfl dX7_closeCycle_114 ?_
      refine lv_iload_n hx hb dX7_closeCycle_117 rfl (lv_at hl 2 rfl) ?_
      refine lv_iload_n hx hb dX7_closeCycle_118 rfl (lv_at hl 1 rfl) ?_
      obtain ⟨hin, hok⟩ := g_no hok
      refine x_iast (k := y3.toNatClampNeg) hx hb hK hP hD hS 5 0 rfl rfl hin rfl dX7_closeCycle_119 (fun H locs hP hD hS => ?_)
      have hP : va_P G vwCl (wm_X7_closeCycle cA h0 h0_by h0_by_numbers h0_onward h0_tails h0_comesTo h0_by_words s0__size s0__told s0__whole s0__anyStuck c0__loudest s0_by__all s0_by__v s0_by__loss s0_by__result s0_by__over s0_by__heldAll s0_by__heldRounded s0_by_numbers s0_onward (upd c0_tails y3.toNatClampNeg (0:Int32)) (upd c0_comesTo y3.toNatClampNeg y2)) H := hP
      have hD : va_D A (wm_X7_closeCycle cA h0 h0_by h0_by_numbers h0_onward h0_tails h0_comesTo h0_by_words s0__size s0__told s0__whole s0__anyStuck c0__loudest s0_by__all s0_by__v s0_by__loss s0_by__result s0_by__over s0_by__heldAll s0_by__heldRounded s0_by_numbers s0_onward (upd c0_tails y3.toNatClampNeg (0:Int32)) (upd c0_comesTo y3.toNatClampNeg y2)) := hD
      refine lv_aload_n hx hb dX7_closeCycle_120 rfl (lv_at hl 0 rfl) ?_
      refine va_get (ci := 7) (v := .ref h0_onward) (C := RX7) (T := TX7) (N := 9) hx hb hts hinX7 hown hK hP 0 rfl rfl 1 (by decide) (hts _ (List.mem_of_getElem? (i := 14) rfl)) (fun _ h9 => h9) rfl dX7_closeCycle_121 ?_
      refine lv_iload_n hx hb dX7_closeCycle_124 rfl (lv_at hl 2 rfl) ?_
      obtain ⟨hin, hok⟩ := g_no hok
      refine x_iald (k := y3.toNatClampNeg) hx hb hK hP 3 0 rfl rfl hin rfl dX7_closeCycle_125 ?_
      refine lv_istore_n (lv' := [(3, .int (s0_onward y3.toNatClampNeg)), (0, .ref h0), (2, .int y2), (4, .int y4)]) hx hb dX7_closeCycle_126 rfl hl (by decide) rfl (fun ls hl => ?_)
      refine lv_iinc (v := (y4 + 1)) (lv' := [(4, .int (y4 + 1)), (3, .int (s0_onward y3.toNatClampNeg)), (0, .ref h0), (2, .int y2)]) hx hb dX7_closeCycle_127 hl (k := 3) rfl rfl (by decide) rfl (fun ls hl => ?_)
      refine lv_goto (tgt := 78) hx hb dX7_closeCycle_130 (by decide) ?_
      exact ih y2 (s0_onward y3.toNatClampNeg) (y4 + 1) c0__loudest (upd c0_tails y3.toNatClampNeg (0:Int32)) (upd c0_comesTo y3.toNatClampNeg y2) p0_0 p0_1 _ _ _ hP hD hS (lv_sub hl [2, 3, 1, 0] rfl) hok K
  have J_75 : ∀ (y2 : Int32) (y3 : Int32) (c0__loudest : Int32) (c0_tails : Nat → Int32) (c0_comesTo : Nat → Int32) (H : Heap) (locs : List Loc) (ls : Array Slot), va_P G vwCl (wm_X7_closeCycle cA h0 h0_by h0_by_numbers h0_onward h0_tails h0_comesTo h0_by_words s0__size s0__told s0__whole s0__anyStuck c0__loudest s0_by__all s0_by__v s0_by__loss s0_by__result s0_by__over s0_by__heldAll s0_by__heldRounded s0_by_numbers s0_onward c0_tails c0_comesTo) H → va_D A (wm_X7_closeCycle cA h0 h0_by h0_by_numbers h0_onward h0_tails h0_comesTo h0_by_words s0__size s0__told s0__whole s0__anyStuck c0__loudest s0_by__all s0_by__v s0_by__loss s0_by__result s0_by__over s0_by__heldAll s0_by__heldRounded s0_by_numbers s0_onward c0_tails c0_comesTo) → va_S A s.heap H locs → lv_has ls 5 [(0, .ref h0), (2, .int y2), (3, .int y3)] → fX7_closeCycle_j75 x1 s0__size s0_by_numbers s0_onward y2 y3 c0__loudest c0_tails c0_comesTo = some (o0__loudest, o0_tails, o0_comesTo) → W p l e (rmX 3 81) s m ar below meth c H locs 0 0 Q (F0 m 75 ls []) := by
    intro y2 y3 c0__loudest c0_tails c0_comesTo H locs ls hP hD hS hl hok
    unfold fX7_closeCycle_j75 at hok
    refine lv_iconst (v := 0) hx hb dX7_closeCycle_75 (by decide) ?_
    refine lv_istore (lv' := [(4, .int (0:Int32)), (0, .ref h0), (2, .int y2), (3, .int y3)]) hx hb dX7_closeCycle_76 hl (by decide) rfl (fun ls hl => ?_)
    obtain ⟨o7, o8, hq, hok⟩ := g_bnd2 hok
    refine L_78 FUEL y2 y3 (0:Int32) c0__loudest c0_tails c0_comesTo o7 o8 _ _ _ hP hD hS (lv_sub hl [1, 2, 3, 0] rfl) hq (fun H locs ls hP hD hS hl => ?_)
    cases hok
    exact cr_v hx hb hr hlocks hQ dX7_closeCycle_133 hP hS
  unfold fX7_closeCycle at hok
  refine lv_iload_n hx hb dX7_closeCycle_0 rfl (lv_at hl 1 rfl) ?_
  refine lv_istore_n (lv' := [(2, .int x1), (0, .ref h0), (1, .int x1)]) hx hb dX7_closeCycle_1 rfl hl (by decide) rfl (fun ls hl => ?_)
  refine lv_iload_n hx hb dX7_closeCycle_2 rfl (lv_at hl 2 rfl) ?_
  refine lv_istore_n (lv' := [(3, .int x1), (2, .int x1), (0, .ref h0), (1, .int x1)]) hx hb dX7_closeCycle_3 rfl hl (by decide) rfl (fun ls hl => ?_)
  refine lv_iconst (v := 0) hx hb dX7_closeCycle_4 (by decide) ?_
  refine lv_istore (lv' := [(4, .int (0:Int32)), (3, .int x1), (2, .int x1), (0, .ref h0), (1, .int x1)]) hx hb dX7_closeCycle_5 hl (by decide) rfl (fun ls hl => ?_)
  obtain ⟨o3, o4, o5, hq, hok⟩ := g_bnd3 hok
  refine L_7 FUEL x1 x1 (0:Int32) s0__loudest s0_tails s0_comesTo o3 o4 o5 _ _ _ hP hD hS (lv_sub hl [3, 4, 2, 1, 0] rfl) hq (fun H locs ls hP hD hS hl => ?_)
  exact J_75 o3 o4 o5 s0_tails s0_comesTo _ _ _ hP hD hS (lv_sub hl [0, 1, 2] rfl) hok
set_option maxHeartbeats 40000000 in
set_option maxRecDepth 100000 in
theorem c_X7_joinWay (l : Launch) (G : va_G) (cA : Nat → ClassId) (ts : Nat → Nat) (h0 : Nat) (h0_onward : Nat) (h0_tails : Nat) (h0_comesTo : Nat) (h0_by : Nat) (x1 : Int32) (s0__size : Int32) (s0__told : Int32) (s0__whole : Int32) (s0__anyStuck : Int32) (s0__loudest : Int32) (s0_onward : Nat → Int32) (s0_tails : Nat → Int32) (s0_comesTo : Nat → Int32) (o0__anyStuck : Int32) (o0_tails : Nat → Int32) (o0_comesTo : Nat → Int32) (hok : fX7_joinWay x1 s0__size s0__anyStuck s0_onward s0_tails s0_comesTo = some (o0__anyStuck, o0_tails, o0_comesTo)) : Ct l G cA ts yX7_joinWay wsX7_joinWay 2 61 [.ref h0, .int x1] (wm_X7_joinWay cA h0 h0_onward h0_tails h0_comesTo h0_by s0__size s0__told s0__whole s0__anyStuck s0__loudest s0_onward s0_tails s0_comesTo) (wm_X7_joinWay cA h0 h0_onward h0_tails h0_comesTo h0_by s0__size s0__told s0__whole o0__anyStuck s0__loudest s0_onward o0_tails o0_comesTo) none := by
  refine Ct.intro (cc := cX7_joinWay) (maxL := 7) (ret := none) (by decide +kernel) rfl (Nat.le_of_ble_eq_true rfl) ?_
  intro p e s m ar below meth c A Q hx hb hr hml hown hlocks hts hK hZ hA hQ hP hD hS ls hl
  have hown : s.vm.findClass RX7 = some m.cls := hown
  have hinX7 : ∀ w ∈ wsX70, w ∈ wsX7_joinWay := fun _ h => List.mem_cons_of_mem _ (List.mem_append_right _ (h))
  have hl : lv_has ls 7 [(0, .ref h0), (1, .int x1)] := hl
  have hP : va_P G vwCl (wm_X7_joinWay cA h0 h0_onward h0_tails h0_comesTo h0_by s0__size s0__told s0__whole s0__anyStuck s0__loudest s0_onward s0_tails s0_comesTo) s.heap := hP
  have hD : va_D A (wm_X7_joinWay cA h0 h0_onward h0_tails h0_comesTo h0_by s0__size s0__told s0__whole s0__anyStuck s0__loudest s0_onward s0_tails s0_comesTo) := hD
  have L_7 : ∀ (n : Nat) (y2 : Int32) (y3 : Int32) (y4 : Int32) (c0__anyStuck : Int32) (c0_tails : Nat → Int32) (c0_comesTo : Nat → Int32) (p0_0 : Int32) (p0_1 : Int32) (H : Heap) (locs : List Loc) (ls : Array Slot), va_P G vwCl (wm_X7_joinWay cA h0 h0_onward h0_tails h0_comesTo h0_by s0__size s0__told s0__whole c0__anyStuck s0__loudest s0_onward c0_tails c0_comesTo) H → va_D A (wm_X7_joinWay cA h0 h0_onward h0_tails h0_comesTo h0_by s0__size s0__told s0__whole c0__anyStuck s0__loudest s0_onward c0_tails c0_comesTo) → va_S A s.heap H locs → lv_has ls 7 [(0, .ref h0), (1, .int x1), (2, .int y2), (3, .int y3), (4, .int y4)] → fX7_joinWay_L7 x1 s0__size s0_onward n y2 y3 y4 c0__anyStuck c0_tails c0_comesTo = some (p0_0, p0_1) → (∀ (H : Heap) (locs : List Loc) (ls : Array Slot), va_P G vwCl (wm_X7_joinWay cA h0 h0_onward h0_tails h0_comesTo h0_by s0__size s0__told s0__whole c0__anyStuck s0__loudest s0_onward c0_tails c0_comesTo) H → va_D A (wm_X7_joinWay cA h0 h0_onward h0_tails h0_comesTo h0_by s0__size s0__told s0__whole c0__anyStuck s0__loudest s0_onward c0_tails c0_comesTo) → va_S A s.heap H locs → lv_has ls 7 [(0, .ref h0), (1, .int x1), (2, .int p0_0), (3, .int p0_1)] → W p l e (rmX 2 61) s m ar below meth c H locs 0 0 Q (F0 m 51 ls [])) → W p l e (rmX 2 61) s m ar below meth c H locs 0 0 Q (F0 m 7 ls []) := by
    intro n
    induction n with
    | zero =>
      intro y2 y3 y4 c0__anyStuck c0_tails c0_comesTo p0_0 p0_1 H locs ls hP hD hS hl hok
      rw [fX7_joinWay_L7] at hok
      cases hok
    | succ n ih =>
      intro y2 y3 y4 c0__anyStuck c0_tails c0_comesTo p0_0 p0_1 H locs ls hP hD hS hl hok K
      rw [fX7_joinWay_L7] at hok
      refine lv_iload hx hb dX7_joinWay_7 (lv_at hl 4 rfl) ?_
      refine lv_aload_n hx hb dX7_joinWay_9 rfl (lv_at hl 0 rfl) ?_
      refine va_get (ci := 7) (v := .int s0__size) (C := RX7) (T := TX7) (N := 9) hx hb hts hinX7 hown hK hP 0 rfl rfl 4 (by decide) (hts _ (List.mem_of_getElem? (i := 1) rfl)) (fun _ h9 => h9) rfl dX7_joinWay_10 ?_
      refine lv_icmp_ge (tgt := 51) hx hb dX7_joinWay_13 (by decide) (fun c => ?_) (fun c => ?_)
      · replace hok := g_pos hok c
        cases hok
        exact K _ _ _ hP hD hS (lv_sub hl [0, 1, 2, 3] rfl)
      replace hok := g_neg hok c
      refine lv_aload_n hx hb dX7_joinWay_16 rfl (lv_at hl 0 rfl) ?_
      refine lv_iload_n hx hb dX7_joinWay_17 rfl (lv_at hl 3 rfl) ?_
      obtain ⟨r1, hq, hok⟩ := g_bnd1 hok
      refine cG (is := [0]) (wc := (wm_X7_is cA h0 h0_by h0_onward h0_tails h0_comesTo s0__size s0__told s0__whole c0__anyStuck s0__loudest)) (w1 := (wm_X7_is cA h0 h0_by h0_onward h0_tails h0_comesTo s0__size s0__told s0__whole c0__anyStuck s0__loudest)) (rv := (some (.int r1))) (st1 := [.int r1]) (va_runV (Ts := wsX7_joinWay) (As := [.int y3]) (rest := []) ⟨hx, hb, hml, hown, hts⟩ (c_X7_is l G cA ts h0 h0_by h0_onward h0_tails h0_comesTo y3 s0__size s0__told s0__whole c0__anyStuck s0__loudest r1 hq H.size) (cwV 1 hts gX7_joinWay_X7_is rfl rfl rfl (by decide +kernel) ⟨Nat.le_of_ble_eq_true rfl, Nat.le_of_ble_eq_true rfl⟩) (pre_V (ci := 7) (q0 := 0) (is := [0]) rfl rfl hP hD hS hA hK hZ (by decide +kernel) (by rfl)) rfl rfl hl.1 rfl (by exact lv_room (Nat.le_of_ble_eq_true rfl)) dX7_joinWay_18 ⟨Nat.le_refl _, Nat.le_refl _⟩) hP hD hS hA (by decide +kernel) (by rfl) (by rfl) rfl (fun H locs hP hD hS => ?_)
      have hP : va_P G vwCl (wm_X7_joinWay cA h0 h0_onward h0_tails h0_comesTo h0_by s0__size s0__told s0__whole c0__anyStuck s0__loudest s0_onward c0_tails c0_comesTo) H := hP
      have hD : va_D A (wm_X7_joinWay cA h0 h0_onward h0_tails h0_comesTo h0_by s0__size s0__told s0__whole c0__anyStuck s0__loudest s0_onward c0_tails c0_comesTo) := hD
      refine lv_if_eq (tgt := 51) hx hb dX7_joinWay_21 (by decide) (fun c => ?_) (fun c => ?_)
      · replace hok := g_pos hok c
        cases hok
        exact K _ _ _ hP hD hS (lv_sub hl [0, 1, 2, 3] rfl)
      replace hok := g_neg hok c
      refine lv_aload_n hx hb dX7_joinWay_24 rfl (lv_at hl 0 rfl) ?_
      refine va_get (ci := 7) (v := .ref h0_tails) (C := RX7) (T := TX7) (N := 9) hx hb hts hinX7 hown hK hP 0 rfl rfl 2 (by decide) (hts _ (List.mem_of_getElem? (i := 2) rfl)) (fun _ h9 => h9) rfl dX7_joinWay_25 ?_
      refine lv_iload_n hx hb dX7_joinWay_28 rfl (lv_at hl 3 rfl) ?_
      obtain ⟨hin, hok⟩ := g_no hok
      refine x_iald (k := y3.toNatClampNeg) hx hb hK hP 2 0 rfl rfl hin rfl dX7_joinWay_29 ?_
      refine lv_bipush (v := -2) hx hb dX7_joinWay_30 (by decide) ?_
      refine lv_icmp_ne (tgt := 51) hx hb dX7_joinWay_32 (by decide) (fun c => ?_) (fun c => ?_)
      · replace hok := g_neg hok c
        cases hok
        exact K _ _ _ hP hD hS (lv_sub hl [0, 1, 2, 3] rfl)
      replace hok := g_pos hok c
      refine lv_iinc (v := (y2 + 1)) (lv' := [(2, .int (y2 + 1)), (0, .ref h0), (1, .int x1), (3, .int y3), (4, .int y4)]) hx hb dX7_joinWay_35 hl (k := 2) rfl rfl (by decide) rfl (fun ls hl => ?_)
      refine lv_aload_n hx hb dX7_joinWay_38 rfl (lv_at hl 1 rfl) ?_
      refine va_get (ci := 7) (v := .ref h0_onward) (C := RX7) (T := TX7) (N := 9) hx hb hts hinX7 hown hK hP 0 rfl rfl 1 (by decide) (hts _ (List.mem_of_getElem? (i := 3) rfl)) (fun _ h9 => h9) rfl dX7_joinWay_39 ?_
      refine lv_iload_n hx hb dX7_joinWay_42 rfl (lv_at hl 3 rfl) ?_
      obtain ⟨hin, hok⟩ := g_no hok
      refine x_iald (k := y3.toNatClampNeg) hx hb hK hP 1 0 rfl rfl hin rfl dX7_joinWay_43 ?_
      refine lv_istore_n (lv' := [(3, .int (s0_onward y3.toNatClampNeg)), (2, .int (y2 + 1)), (0, .ref h0), (1, .int x1), (4, .int y4)]) hx hb dX7_joinWay_44 rfl hl (by decide) rfl (fun ls hl => ?_)
      refine lv_iinc (v := (y4 + 1)) (lv' := [(4, .int (y4 + 1)), (3, .int (s0_onward y3.toNatClampNeg)), (2, .int (y2 + 1)), (0, .ref h0), (1, .int x1)]) hx hb dX7_joinWay_45 hl (k := 4) rfl rfl (by decide) rfl (fun ls hl => ?_)
      refine lv_goto (tgt := 7) hx hb dX7_joinWay_48 (by decide) ?_
      exact ih (y2 + 1) (s0_onward y3.toNatClampNeg) (y4 + 1) c0__anyStuck c0_tails c0_comesTo p0_0 p0_1 _ _ _ hP hD hS (lv_sub hl [3, 4, 2, 1, 0] rfl) hok K
  have L_120 : ∀ (n : Nat) (y2 : Int32) (y3 : Int32) (y4 : Int32) (y5 : Int32) (y6 : Int32) (c0__anyStuck : Int32) (c0_tails : Nat → Int32) (c0_comesTo : Nat → Int32) (p0_0 : Nat → Int32) (p0_1 : Nat → Int32) (H : Heap) (locs : List Loc) (ls : Array Slot), va_P G vwCl (wm_X7_joinWay cA h0 h0_onward h0_tails h0_comesTo h0_by s0__size s0__told s0__whole c0__anyStuck s0__loudest s0_onward c0_tails c0_comesTo) H → va_D A (wm_X7_joinWay cA h0 h0_onward h0_tails h0_comesTo h0_by s0__size s0__told s0__whole c0__anyStuck s0__loudest s0_onward c0_tails c0_comesTo) → va_S A s.heap H locs → lv_has ls 7 [(0, .ref h0), (2, .int y2), (3, .int y3), (4, .int y4), (5, .int y5), (6, .int y6)] → fX7_joinWay_L120 x1 s0__size s0_onward n y2 y3 y4 y5 y6 c0__anyStuck c0_tails c0_comesTo = some (p0_0, p0_1) → (∀ (H : Heap) (locs : List Loc) (ls : Array Slot), va_P G vwCl (wm_X7_joinWay cA h0 h0_onward h0_tails h0_comesTo h0_by s0__size s0__told s0__whole c0__anyStuck s0__loudest s0_onward p0_0 p0_1) H → va_D A (wm_X7_joinWay cA h0 h0_onward h0_tails h0_comesTo h0_by s0__size s0__told s0__whole c0__anyStuck s0__loudest s0_onward p0_0 p0_1) → va_S A s.heap H locs → lv_has ls 7 [] → W p l e (rmX 2 61) s m ar below meth c H locs 0 0 Q (F0 m 166 ls [])) → W p l e (rmX 2 61) s m ar below meth c H locs 0 0 Q (F0 m 120 ls []) := by
    intro n
    induction n with
    | zero =>
      intro y2 y3 y4 y5 y6 c0__anyStuck c0_tails c0_comesTo p0_0 p0_1 H locs ls hP hD hS hl hok
      rw [fX7_joinWay_L120] at hok
      cases hok
    | succ n ih =>
      intro y2 y3 y4 y5 y6 c0__anyStuck c0_tails c0_comesTo p0_0 p0_1 H locs ls hP hD hS hl hok K
      rw [fX7_joinWay_L120] at hok
      refine lv_iload hx hb dX7_joinWay_120 (lv_at hl 5 rfl) ?_
      refine lv_iload_n hx hb dX7_joinWay_122 rfl (lv_at hl 1 rfl) ?_
      refine lv_icmp_ge (tgt := 166) hx hb dX7_joinWay_123 (by decide) (fun c => ?_) (fun c => ?_)
      · replace hok := g_pos hok c
        cases hok
        exact K _ _ _ hP hD hS (lv_sub hl [] rfl)
      replace hok := g_neg hok c
      refine lv_aload_n hx hb dX7_joinWay_126 rfl (lv_at hl 0 rfl) ?_
      refine lv_iload_n hx hb dX7_joinWay_127 rfl (lv_at hl 2 rfl) ?_
      obtain ⟨r6, hq, hok⟩ := g_bnd1 hok
      refine cG (is := [0]) (wc := (wm_X7_is cA h0 h0_by h0_onward h0_tails h0_comesTo s0__size s0__told s0__whole c0__anyStuck s0__loudest)) (w1 := (wm_X7_is cA h0 h0_by h0_onward h0_tails h0_comesTo s0__size s0__told s0__whole c0__anyStuck s0__loudest)) (rv := (some (.int r6))) (st1 := [.int r6]) (va_runV (Ts := wsX7_joinWay) (As := [.int y3]) (rest := []) ⟨hx, hb, hml, hown, hts⟩ (c_X7_is l G cA ts h0 h0_by h0_onward h0_tails h0_comesTo y3 s0__size s0__told s0__whole c0__anyStuck s0__loudest r6 hq H.size) (cwV 1 hts gX7_joinWay_X7_is rfl rfl rfl (by decide +kernel) ⟨Nat.le_of_ble_eq_true rfl, Nat.le_of_ble_eq_true rfl⟩) (pre_V (ci := 7) (q0 := 0) (is := [0]) rfl rfl hP hD hS hA hK hZ (by decide +kernel) (by rfl)) rfl rfl hl.1 rfl (by exact lv_room (Nat.le_of_ble_eq_true rfl)) dX7_joinWay_128 ⟨Nat.le_refl _, Nat.le_refl _⟩) hP hD hS hA (by decide +kernel) (by rfl) (by rfl) rfl (fun H locs hP hD hS => ?_)
      have hP : va_P G vwCl (wm_X7_joinWay cA h0 h0_onward h0_tails h0_comesTo h0_by s0__size s0__told s0__whole c0__anyStuck s0__loudest s0_onward c0_tails c0_comesTo) H := hP
      have hD : va_D A (wm_X7_joinWay cA h0 h0_onward h0_tails h0_comesTo h0_by s0__size s0__told s0__whole c0__anyStuck s0__loudest s0_onward c0_tails c0_comesTo) := hD
      refine lv_if_eq (tgt := 166) hx hb dX7_joinWay_131 (by decide) (fun c => ?_) (fun c => ?_)
      · replace hok := g_pos hok c
        cases hok
        exact K _ _ _ hP hD hS (lv_sub hl [] rfl)
      replace hok := g_neg hok c
      refine lv_aload_n hx hb dX7_joinWay_134 rfl (lv_at hl 0 rfl) ?_
      refine va_get (ci := 7) (v := .ref h0_comesTo) (C := RX7) (T := TX7) (N := 9) hx hb hts hinX7 hown hK hP 0 rfl rfl 3 (by decide) (hts _ (List.mem_of_getElem? (i := 4) rfl)) (fun _ h9 => h9) rfl dX7_joinWay_135 ?_
      refine lv_iload_n hx hb dX7_joinWay_138 rfl (lv_at hl 2 rfl) ?_
      refine lv_iload hx hb dX7_joinWay_139 (lv_at hl 3 rfl) ?_
      obtain ⟨hin, hok⟩ := g_no hok
      refine x_iast (k := y3.toNatClampNeg) hx hb hK hP hD hS 3 0 rfl rfl hin rfl dX7_joinWay_141 (fun H locs hP hD hS => ?_)
      have hP : va_P G vwCl (wm_X7_joinWay cA h0 h0_onward h0_tails h0_comesTo h0_by s0__size s0__told s0__whole c0__anyStuck s0__loudest s0_onward c0_tails (upd c0_comesTo y3.toNatClampNeg y4)) H := hP
      have hD : va_D A (wm_X7_joinWay cA h0 h0_onward h0_tails h0_comesTo h0_by s0__size s0__told s0__whole c0__anyStuck s0__loudest s0_onward c0_tails (upd c0_comesTo y3.toNatClampNeg y4)) := hD
      refine lv_aload_n hx hb dX7_joinWay_142 rfl (lv_at hl 0 rfl) ?_
      refine va_get (ci := 7) (v := .ref h0_tails) (C := RX7) (T := TX7) (N := 9) hx hb hts hinX7 hown hK hP 0 rfl rfl 2 (by decide) (hts _ (List.mem_of_getElem? (i := 2) rfl)) (fun _ h9 => h9) rfl dX7_joinWay_143 ?_
      refine lv_iload_n hx hb dX7_joinWay_146 rfl (lv_at hl 2 rfl) ?_
      refine lv_iload hx hb dX7_joinWay_147 (lv_at hl 4 rfl) ?_
      refine lv_iload hx hb dX7_joinWay_149 (lv_at hl 5 rfl) ?_
      refine lv_isub hx hb dX7_joinWay_151 ?_
      obtain ⟨hin, hok⟩ := g_no hok
      refine x_iast (k := y3.toNatClampNeg) hx hb hK hP hD hS 2 0 rfl rfl hin rfl dX7_joinWay_152 (fun H locs hP hD hS => ?_)
      have hP : va_P G vwCl (wm_X7_joinWay cA h0 h0_onward h0_tails h0_comesTo h0_by s0__size s0__told s0__whole c0__anyStuck s0__loudest s0_onward (upd c0_tails y3.toNatClampNeg (y5 - y6)) (upd c0_comesTo y3.toNatClampNeg y4)) H := hP
      have hD : va_D A (wm_X7_joinWay cA h0 h0_onward h0_tails h0_comesTo h0_by s0__size s0__told s0__whole c0__anyStuck s0__loudest s0_onward (upd c0_tails y3.toNatClampNeg (y5 - y6)) (upd c0_comesTo y3.toNatClampNeg y4)) := hD
      refine lv_aload_n hx hb dX7_joinWay_153 rfl (lv_at hl 0 rfl) ?_
      refine va_get (ci := 7) (v := .ref h0_onward) (C := RX7) (T := TX7) (N := 9) hx hb hts hinX7 hown hK hP 0 rfl rfl 1 (by decide) (hts _ (List.mem_of_getElem? (i := 3) rfl)) (fun _ h9 => h9) rfl dX7_joinWay_154 ?_
      refine lv_iload_n hx hb dX7_joinWay_157 rfl (lv_at hl 2 rfl) ?_
      obtain ⟨hin, hok⟩ := g_no hok
      refine x_iald (k := y3.toNatClampNeg) hx hb hK hP 1 0 rfl rfl hin rfl dX7_joinWay_158 ?_
      refine lv_istore_n (lv' := [(3, .int (s0_onward y3.toNatClampNeg)), (0, .ref h0), (2, .int y2), (4, .int y4), (5, .int y5), (6, .int y6)]) hx hb dX7_joinWay_159 rfl hl (by decide) rfl (fun ls hl => ?_)
      refine lv_iinc (v := (y6 + 1)) (lv' := [(6, .int (y6 + 1)), (3, .int (s0_onward y3.toNatClampNeg)), (0, .ref h0), (2, .int y2), (4, .int y4), (5, .int y5)]) hx hb dX7_joinWay_160 hl (k := 5) rfl rfl (by decide) rfl (fun ls hl => ?_)
      refine lv_goto (tgt := 120) hx hb dX7_joinWay_163 (by decide) ?_
      exact ih y2 (s0_onward y3.toNatClampNeg) y4 y5 (y6 + 1) c0__anyStuck (upd c0_tails y3.toNatClampNeg (y5 - y6)) (upd c0_comesTo y3.toNatClampNeg y4) p0_0 p0_1 _ _ _ hP hD hS (lv_sub hl [2, 3, 1, 4, 5, 0] rfl) hok K
  have J_112 : ∀ (y2 : Int32) (y4 : Int32) (y5 : Int32) (z1 : Int32) (c0__anyStuck : Int32) (c0_tails : Nat → Int32) (c0_comesTo : Nat → Int32) (H : Heap) (locs : List Loc) (ls : Array Slot), va_P G vwCl (wm_X7_joinWay cA h0 h0_onward h0_tails h0_comesTo h0_by s0__size s0__told s0__whole c0__anyStuck s0__loudest s0_onward c0_tails c0_comesTo) H → va_D A (wm_X7_joinWay cA h0 h0_onward h0_tails h0_comesTo h0_by s0__size s0__told s0__whole c0__anyStuck s0__loudest s0_onward c0_tails c0_comesTo) → va_S A s.heap H locs → lv_has ls 7 [(0, .ref h0), (1, .int x1), (2, .int y2), (4, .int y4), (5, .int y5)] → fX7_joinWay_j112 x1 s0__size s0_onward y2 y4 y5 z1 c0__anyStuck c0_tails c0_comesTo = some (o0__anyStuck, o0_tails, o0_comesTo) → W p l e (rmX 2 61) s m ar below meth c H locs 0 0 Q (F0 m 112 ls [.int z1, .ref h0]) := by
    intro y2 y4 y5 z1 c0__anyStuck c0_tails c0_comesTo H locs ls hP hD hS hl hok
    unfold fX7_joinWay_j112 at hok
    obtain ⟨hin, hok⟩ := g_no hok
    refine va_put (D := G) (ci := 7) (v := .int z1) (ty := .boolean) (C := RX7) (T := TX7) (N := 9) hx hb hts hinX7 tyX7 tyX7_ok nmX7 hown hK hP hD hS 0 rfl rfl 7 (by decide) (hts _ (List.mem_of_getElem? (i := 5) rfl)) (fun _ h9 => h9) rfl (by decide +kernel) (nar_z hin) (fit_z hin) (Nat.le_of_ble_eq_true rfl) dX7_joinWay_112 (fun H locs hP hD hS => ?_)
    have hP : va_P G vwCl (wm_X7_joinWay cA h0 h0_onward h0_tails h0_comesTo h0_by s0__size s0__told s0__whole z1 s0__loudest s0_onward c0_tails c0_comesTo) H := hP
    have hD : va_D A (wm_X7_joinWay cA h0 h0_onward h0_tails h0_comesTo h0_by s0__size s0__told s0__whole z1 s0__loudest s0_onward c0_tails c0_comesTo) := hD
    refine lv_iload_n hx hb dX7_joinWay_115 rfl (lv_at hl 1 rfl) ?_
    refine lv_istore_n (lv' := [(3, .int x1), (0, .ref h0), (1, .int x1), (2, .int y2), (4, .int y4), (5, .int y5)]) hx hb dX7_joinWay_116 rfl hl (by decide) rfl (fun ls hl => ?_)
    refine lv_iconst (v := 0) hx hb dX7_joinWay_117 (by decide) ?_
    refine lv_istore (lv' := [(6, .int (0:Int32)), (3, .int x1), (0, .ref h0), (1, .int x1), (2, .int y2), (4, .int y4), (5, .int y5)]) hx hb dX7_joinWay_118 hl (by decide) rfl (fun ls hl => ?_)
    obtain ⟨o7, o8, hq, hok⟩ := g_bnd2 hok
    refine L_120 FUEL y2 x1 y4 y5 (0:Int32) z1 c0_tails c0_comesTo o7 o8 _ _ _ hP hD hS (lv_sub hl [2, 4, 1, 5, 6, 0] rfl) hq (fun H locs ls hP hD hS hl => ?_)
    cases hok
    exact cr_v hx hb hr hlocks hQ dX7_joinWay_166 hP hS
  have J_107 : ∀ (y2 : Int32) (y4 : Int32) (y5 : Int32) (c0__anyStuck : Int32) (c0_tails : Nat → Int32) (c0_comesTo : Nat → Int32) (H : Heap) (locs : List Loc) (ls : Array Slot), va_P G vwCl (wm_X7_joinWay cA h0 h0_onward h0_tails h0_comesTo h0_by s0__size s0__told s0__whole c0__anyStuck s0__loudest s0_onward c0_tails c0_comesTo) H → va_D A (wm_X7_joinWay cA h0 h0_onward h0_tails h0_comesTo h0_by s0__size s0__told s0__whole c0__anyStuck s0__loudest s0_onward c0_tails c0_comesTo) → va_S A s.heap H locs → lv_has ls 7 [(0, .ref h0), (1, .int x1), (2, .int y2), (4, .int y4), (5, .int y5)] → fX7_joinWay_j107 x1 s0__size s0_onward y2 y4 y5 c0__anyStuck c0_tails c0_comesTo = some (o0__anyStuck, o0_tails, o0_comesTo) → W p l e (rmX 2 61) s m ar below meth c H locs 0 0 Q (F0 m 107 ls [.ref h0]) := by
    intro y2 y4 y5 c0__anyStuck c0_tails c0_comesTo H locs ls hP hD hS hl hok
    unfold fX7_joinWay_j107 at hok
    refine lv_iconst (v := 1) hx hb dX7_joinWay_107 (by decide) ?_
    refine lv_goto (tgt := 112) hx hb dX7_joinWay_108 (by decide) ?_
    exact J_112 y2 y4 y5 (1:Int32) c0__anyStuck c0_tails c0_comesTo _ _ _ hP hD hS (lv_sub hl [0, 1, 2, 3, 4] rfl) hok
  have J_91 : ∀ (y2 : Int32) (y4 : Int32) (z0 : Int32) (c0__anyStuck : Int32) (c0_tails : Nat → Int32) (c0_comesTo : Nat → Int32) (H : Heap) (locs : List Loc) (ls : Array Slot), va_P G vwCl (wm_X7_joinWay cA h0 h0_onward h0_tails h0_comesTo h0_by s0__size s0__told s0__whole c0__anyStuck s0__loudest s0_onward c0_tails c0_comesTo) H → va_D A (wm_X7_joinWay cA h0 h0_onward h0_tails h0_comesTo h0_by s0__size s0__told s0__whole c0__anyStuck s0__loudest s0_onward c0_tails c0_comesTo) → va_S A s.heap H locs → lv_has ls 7 [(0, .ref h0), (1, .int x1), (2, .int y2), (4, .int y4)] → fX7_joinWay_j91 x1 s0__size s0_onward y2 y4 z0 c0__anyStuck c0_tails c0_comesTo = some (o0__anyStuck, o0_tails, o0_comesTo) → W p l e (rmX 2 61) s m ar below meth c H locs 0 0 Q (F0 m 91 ls [.int z0]) := by
    intro y2 y4 z0 c0__anyStuck c0_tails c0_comesTo H locs ls hP hD hS hl hok
    unfold fX7_joinWay_j91 at hok
    refine lv_istore (lv' := [(5, .int z0), (0, .ref h0), (1, .int x1), (2, .int y2), (4, .int y4)]) hx hb dX7_joinWay_91 hl (by decide) rfl (fun ls hl => ?_)
    refine lv_aload_n hx hb dX7_joinWay_93 rfl (lv_at hl 1 rfl) ?_
    refine lv_aload_n hx hb dX7_joinWay_94 rfl (lv_at hl 1 rfl) ?_
    refine va_get (ci := 7) (v := .int c0__anyStuck) (C := RX7) (T := TX7) (N := 9) hx hb hts hinX7 hown hK hP 0 rfl rfl 7 (by decide) (hts _ (List.mem_of_getElem? (i := 5) rfl)) (fun _ h9 => h9) rfl dX7_joinWay_95 ?_
    refine lv_if_ne (tgt := 107) hx hb dX7_joinWay_98 (by decide) (fun c => ?_) (fun c => ?_)
    · replace hok := g_neg hok c
      exact J_107 y2 y4 z0 c0__anyStuck c0_tails c0_comesTo _ _ _ hP hD hS (lv_sub hl [1, 2, 3, 4, 0] rfl) hok
    replace hok := g_pos hok c
    refine lv_iload hx hb dX7_joinWay_101 (lv_at hl 4 rfl) ?_
    refine lv_iconst (v := -1) hx hb dX7_joinWay_103 (by decide) ?_
    refine lv_icmp_ne (tgt := 111) hx hb dX7_joinWay_104 (by decide) (fun c => ?_) (fun c => ?_)
    · replace hok := g_neg hok c
      refine lv_iconst (v := 0) hx hb dX7_joinWay_111 (by decide) ?_
      exact J_112 y2 y4 z0 (0:Int32) c0__anyStuck c0_tails c0_comesTo _ _ _ hP hD hS (lv_sub hl [1, 2, 3, 4, 0] rfl) hok
    replace hok := g_pos hok c
    exact J_107 y2 y4 z0 c0__anyStuck c0_tails c0_comesTo _ _ _ hP hD hS (lv_sub hl [1, 2, 3, 4, 0] rfl) hok
  have J_69 : ∀ (y2 : Int32) (y3 : Int32) (z0 : Int32) (c0__anyStuck : Int32) (c0_tails : Nat → Int32) (c0_comesTo : Nat → Int32) (H : Heap) (locs : List Loc) (ls : Array Slot), va_P G vwCl (wm_X7_joinWay cA h0 h0_onward h0_tails h0_comesTo h0_by s0__size s0__told s0__whole c0__anyStuck s0__loudest s0_onward c0_tails c0_comesTo) H → va_D A (wm_X7_joinWay cA h0 h0_onward h0_tails h0_comesTo h0_by s0__size s0__told s0__whole c0__anyStuck s0__loudest s0_onward c0_tails c0_comesTo) → va_S A s.heap H locs → lv_has ls 7 [(0, .ref h0), (1, .int x1), (2, .int y2), (3, .int y3)] → fX7_joinWay_j69 x1 s0__size s0_onward y2 y3 z0 c0__anyStuck c0_tails c0_comesTo = some (o0__anyStuck, o0_tails, o0_comesTo) → W p l e (rmX 2 61) s m ar below meth c H locs 0 0 Q (F0 m 69 ls [.int z0]) := by
    intro y2 y3 z0 c0__anyStuck c0_tails c0_comesTo H locs ls hP hD hS hl hok
    unfold fX7_joinWay_j69 at hok
    refine lv_istore (lv' := [(4, .int z0), (0, .ref h0), (1, .int x1), (2, .int y2), (3, .int y3)]) hx hb dX7_joinWay_69 hl (by decide) rfl (fun ls hl => ?_)
    refine lv_aload_n hx hb dX7_joinWay_71 rfl (lv_at hl 1 rfl) ?_
    refine lv_iload_n hx hb dX7_joinWay_72 rfl (lv_at hl 4 rfl) ?_
    obtain ⟨r5, hq, hok⟩ := g_bnd1 hok
    refine cG (is := [0]) (wc := (wm_X7_is cA h0 h0_by h0_onward h0_tails h0_comesTo s0__size s0__told s0__whole c0__anyStuck s0__loudest)) (w1 := (wm_X7_is cA h0 h0_by h0_onward h0_tails h0_comesTo s0__size s0__told s0__whole c0__anyStuck s0__loudest)) (rv := (some (.int r5))) (st1 := [.int r5]) (va_runV (Ts := wsX7_joinWay) (As := [.int y3]) (rest := []) ⟨hx, hb, hml, hown, hts⟩ (c_X7_is l G cA ts h0 h0_by h0_onward h0_tails h0_comesTo y3 s0__size s0__told s0__whole c0__anyStuck s0__loudest r5 hq H.size) (cwV 1 hts gX7_joinWay_X7_is rfl rfl rfl (by decide +kernel) ⟨Nat.le_of_ble_eq_true rfl, Nat.le_of_ble_eq_true rfl⟩) (pre_V (ci := 7) (q0 := 0) (is := [0]) rfl rfl hP hD hS hA hK hZ (by decide +kernel) (by rfl)) rfl rfl hl.1 rfl (by exact lv_room (Nat.le_of_ble_eq_true rfl)) dX7_joinWay_73 ⟨Nat.le_refl _, Nat.le_refl _⟩) hP hD hS hA (by decide +kernel) (by rfl) (by rfl) rfl (fun H locs hP hD hS => ?_)
    have hP : va_P G vwCl (wm_X7_joinWay cA h0 h0_onward h0_tails h0_comesTo h0_by s0__size s0__told s0__whole c0__anyStuck s0__loudest s0_onward c0_tails c0_comesTo) H := hP
    have hD : va_D A (wm_X7_joinWay cA h0 h0_onward h0_tails h0_comesTo h0_by s0__size s0__told s0__whole c0__anyStuck s0__loudest s0_onward c0_tails c0_comesTo) := hD
    refine lv_if_eq (tgt := 90) hx hb dX7_joinWay_76 (by decide) (fun c => ?_) (fun c => ?_)
    · replace hok := g_pos hok c
      refine lv_iload_n hx hb dX7_joinWay_90 rfl (lv_at hl 3 rfl) ?_
      exact J_91 y2 z0 y2 c0__anyStuck c0_tails c0_comesTo _ _ _ hP hD hS (lv_sub hl [1, 2, 3, 0] rfl) hok
    replace hok := g_neg hok c
    refine lv_aload_n hx hb dX7_joinWay_79 rfl (lv_at hl 1 rfl) ?_
    refine va_get (ci := 7) (v := .ref h0_tails) (C := RX7) (T := TX7) (N := 9) hx hb hts hinX7 hown hK hP 0 rfl rfl 2 (by decide) (hts _ (List.mem_of_getElem? (i := 2) rfl)) (fun _ h9 => h9) rfl dX7_joinWay_80 ?_
    refine lv_iload_n hx hb dX7_joinWay_83 rfl (lv_at hl 4 rfl) ?_
    obtain ⟨hin, hok⟩ := g_no hok
    refine x_iald (k := y3.toNatClampNeg) hx hb hK hP 2 0 rfl rfl hin rfl dX7_joinWay_84 ?_
    refine lv_iload_n hx hb dX7_joinWay_85 rfl (lv_at hl 3 rfl) ?_
    refine lv_iadd hx hb dX7_joinWay_86 ?_
    refine lv_goto (tgt := 91) hx hb dX7_joinWay_87 (by decide) ?_
    exact J_91 y2 z0 ((c0_tails y3.toNatClampNeg) + y2) c0__anyStuck c0_tails c0_comesTo _ _ _ hP hD hS (lv_sub hl [1, 2, 3, 0] rfl) hok
  have J_51 : ∀ (y2 : Int32) (y3 : Int32) (c0__anyStuck : Int32) (c0_tails : Nat → Int32) (c0_comesTo : Nat → Int32) (H : Heap) (locs : List Loc) (ls : Array Slot), va_P G vwCl (wm_X7_joinWay cA h0 h0_onward h0_tails h0_comesTo h0_by s0__size s0__told s0__whole c0__anyStuck s0__loudest s0_onward c0_tails c0_comesTo) H → va_D A (wm_X7_joinWay cA h0 h0_onward h0_tails h0_comesTo h0_by s0__size s0__told s0__whole c0__anyStuck s0__loudest s0_onward c0_tails c0_comesTo) → va_S A s.heap H locs → lv_has ls 7 [(0, .ref h0), (1, .int x1), (2, .int y2), (3, .int y3)] → fX7_joinWay_j51 x1 s0__size s0_onward y2 y3 c0__anyStuck c0_tails c0_comesTo = some (o0__anyStuck, o0_tails, o0_comesTo) → W p l e (rmX 2 61) s m ar below meth c H locs 0 0 Q (F0 m 51 ls []) := by
    intro y2 y3 c0__anyStuck c0_tails c0_comesTo H locs ls hP hD hS hl hok
    unfold fX7_joinWay_j51 at hok
    refine lv_aload_n hx hb dX7_joinWay_51 rfl (lv_at hl 0 rfl) ?_
    refine lv_iload_n hx hb dX7_joinWay_52 rfl (lv_at hl 3 rfl) ?_
    obtain ⟨r4, hq, hok⟩ := g_bnd1 hok
    refine cG (is := [0]) (wc := (wm_X7_is cA h0 h0_by h0_onward h0_tails h0_comesTo s0__size s0__told s0__whole c0__anyStuck s0__loudest)) (w1 := (wm_X7_is cA h0 h0_by h0_onward h0_tails h0_comesTo s0__size s0__told s0__whole c0__anyStuck s0__loudest)) (rv := (some (.int r4))) (st1 := [.int r4]) (va_runV (Ts := wsX7_joinWay) (As := [.int y3]) (rest := []) ⟨hx, hb, hml, hown, hts⟩ (c_X7_is l G cA ts h0 h0_by h0_onward h0_tails h0_comesTo y3 s0__size s0__told s0__whole c0__anyStuck s0__loudest r4 hq H.size) (cwV 1 hts gX7_joinWay_X7_is rfl rfl rfl (by decide +kernel) ⟨Nat.le_of_ble_eq_true rfl, Nat.le_of_ble_eq_true rfl⟩) (pre_V (ci := 7) (q0 := 0) (is := [0]) rfl rfl hP hD hS hA hK hZ (by decide +kernel) (by rfl)) rfl rfl hl.1 rfl (by exact lv_room (Nat.le_of_ble_eq_true rfl)) dX7_joinWay_53 ⟨Nat.le_refl _, Nat.le_refl _⟩) hP hD hS hA (by decide +kernel) (by rfl) (by rfl) rfl (fun H locs hP hD hS => ?_)
    have hP : va_P G vwCl (wm_X7_joinWay cA h0 h0_onward h0_tails h0_comesTo h0_by s0__size s0__told s0__whole c0__anyStuck s0__loudest s0_onward c0_tails c0_comesTo) H := hP
    have hD : va_D A (wm_X7_joinWay cA h0 h0_onward h0_tails h0_comesTo h0_by s0__size s0__told s0__whole c0__anyStuck s0__loudest s0_onward c0_tails c0_comesTo) := hD
    refine lv_if_eq (tgt := 68) hx hb dX7_joinWay_56 (by decide) (fun c => ?_) (fun c => ?_)
    · replace hok := g_pos hok c
      refine lv_iconst (v := -1) hx hb dX7_joinWay_68 (by decide) ?_
      exact J_69 y2 y3 (-1:Int32) c0__anyStuck c0_tails c0_comesTo _ _ _ hP hD hS (lv_sub hl [0, 1, 2, 3] rfl) hok
    replace hok := g_neg hok c
    refine lv_aload_n hx hb dX7_joinWay_59 rfl (lv_at hl 0 rfl) ?_
    refine va_get (ci := 7) (v := .ref h0_comesTo) (C := RX7) (T := TX7) (N := 9) hx hb hts hinX7 hown hK hP 0 rfl rfl 3 (by decide) (hts _ (List.mem_of_getElem? (i := 4) rfl)) (fun _ h9 => h9) rfl dX7_joinWay_60 ?_
    refine lv_iload_n hx hb dX7_joinWay_63 rfl (lv_at hl 3 rfl) ?_
    obtain ⟨hin, hok⟩ := g_no hok
    refine x_iald (k := y3.toNatClampNeg) hx hb hK hP 3 0 rfl rfl hin rfl dX7_joinWay_64 ?_
    refine lv_goto (tgt := 69) hx hb dX7_joinWay_65 (by decide) ?_
    exact J_69 y2 y3 (c0_comesTo y3.toNatClampNeg) c0__anyStuck c0_tails c0_comesTo _ _ _ hP hD hS (lv_sub hl [0, 1, 2, 3] rfl) hok
  unfold fX7_joinWay at hok
  refine lv_iconst (v := 0) hx hb dX7_joinWay_0 (by decide) ?_
  refine lv_istore_n (lv' := [(2, .int (0:Int32)), (0, .ref h0), (1, .int x1)]) hx hb dX7_joinWay_1 rfl hl (by decide) rfl (fun ls hl => ?_)
  refine lv_iload_n hx hb dX7_joinWay_2 rfl (lv_at hl 2 rfl) ?_
  refine lv_istore_n (lv' := [(3, .int x1), (2, .int (0:Int32)), (0, .ref h0), (1, .int x1)]) hx hb dX7_joinWay_3 rfl hl (by decide) rfl (fun ls hl => ?_)
  refine lv_iconst (v := 0) hx hb dX7_joinWay_4 (by decide) ?_
  refine lv_istore (lv' := [(4, .int (0:Int32)), (3, .int x1), (2, .int (0:Int32)), (0, .ref h0), (1, .int x1)]) hx hb dX7_joinWay_5 hl (by decide) rfl (fun ls hl => ?_)
  obtain ⟨o2, o3, hq, hok⟩ := g_bnd2 hok
  refine L_7 FUEL (0:Int32) x1 (0:Int32) s0__anyStuck s0_tails s0_comesTo o2 o3 _ _ _ hP hD hS (lv_sub hl [3, 4, 2, 1, 0] rfl) hq (fun H locs ls hP hD hS hl => ?_)
  exact J_51 o2 o3 s0__anyStuck s0_tails s0_comesTo _ _ _ hP hD hS (lv_sub hl [0, 1, 2, 3] rfl) hok
