set_option maxHeartbeats 40000000 in
set_option maxRecDepth 100000 in
theorem c_X7_settle (l : Launch) (G : va_G) (cA : Nat → ClassId) (ts : Nat → Nat) (h0 : Nat) (h0_by : Nat) (h0_by_numbers : Nat) (h0_by_words : Nat) (h0_onward : Nat) (h0_tails : Nat) (h0_comesTo : Nat) (x1 : Int32) (s0__size : Int32) (s0__told : Int32) (s0__whole : Int32) (s0__anyStuck : Int32) (s0__loudest : Int32) (s0_by__all : Int32) (s0_by__v : Int32) (s0_by__loss : Int32) (s0_by__result : Int32) (s0_by__over : Int32) (s0_by__heldAll : Int32) (s0_by__heldRounded : Int32) (s0_by_numbers : Nat → Int32) (s0_by_words : Nat → Int32) (s0_onward : Nat → Int32) (s0_tails : Nat → Int32) (s0_comesTo : Nat → Int32) (o0__anyStuck : Int32) (o0__loudest : Int32) (o0_by__all : Int32) (o0_by__v : Int32) (o0_by__loss : Int32) (o0_by__result : Int32) (o0_by__over : Int32) (o0_by__heldAll : Int32) (o0_by__heldRounded : Int32) (o0_by_words : Nat → Int32) (o0_onward : Nat → Int32) (o0_tails : Nat → Int32) (o0_comesTo : Nat → Int32) (hok : fX7_settle x1 s0__size s0__told s0__anyStuck s0__loudest s0_by__all s0_by__v s0_by__loss s0_by__result s0_by__over s0_by__heldAll s0_by__heldRounded s0_by_numbers s0_by_words s0_onward s0_tails s0_comesTo = some (o0__anyStuck, o0__loudest, o0_by__all, o0_by__v, o0_by__loss, o0_by__result, o0_by__over, o0_by__heldAll, o0_by__heldRounded, o0_by_words, o0_onward, o0_tails, o0_comesTo)) : Ct l G cA ts yX7_settle wsX7_settle 5 126 [.ref h0, .int x1] (wm_X7_settle cA h0 h0_by h0_by_numbers h0_by_words h0_onward h0_tails h0_comesTo s0__size s0__told s0__whole s0__anyStuck s0__loudest s0_by__all s0_by__v s0_by__loss s0_by__result s0_by__over s0_by__heldAll s0_by__heldRounded s0_by_numbers s0_by_words s0_onward s0_tails s0_comesTo) (wm_X7_settle cA h0 h0_by h0_by_numbers h0_by_words h0_onward h0_tails h0_comesTo s0__size s0__told s0__whole o0__anyStuck o0__loudest o0_by__all o0_by__v o0_by__loss o0_by__result o0_by__over o0_by__heldAll o0_by__heldRounded s0_by_numbers o0_by_words o0_onward o0_tails o0_comesTo) none := by
  refine Ct.intro (cc := cX7_settle) (maxL := 4) (ret := none) (by decide +kernel) rfl (Nat.le_of_ble_eq_true rfl) ?_
  intro p e s m ar below meth c A Q hx hb hr hml hown hlocks hts hK hZ hA hQ hP hD hS ls hl
  have hown : s.vm.findClass RX7 = some m.cls := hown
  have hinX3 : ∀ w ∈ wsX30, w ∈ wsX7_settle := fun _ h => List.mem_cons_of_mem _ (List.mem_append_right _ (h))
  have hinX7 : ∀ w ∈ wsX70, w ∈ wsX7_settle := fun _ h => List.mem_cons_of_mem _ (List.mem_append_left _ (List.mem_append_right _ (h)))
  have hl : lv_has ls 4 [(0, .ref h0), (1, .int x1)] := hl
  have hP : va_P G vwCl (wm_X7_settle cA h0 h0_by h0_by_numbers h0_by_words h0_onward h0_tails h0_comesTo s0__size s0__told s0__whole s0__anyStuck s0__loudest s0_by__all s0_by__v s0_by__loss s0_by__result s0_by__over s0_by__heldAll s0_by__heldRounded s0_by_numbers s0_by_words s0_onward s0_tails s0_comesTo) s.heap := hP
  have hD : va_D A (wm_X7_settle cA h0 h0_by h0_by_numbers h0_by_words h0_onward h0_tails h0_comesTo s0__size s0__told s0__whole s0__anyStuck s0__loudest s0_by__all s0_by__v s0_by__loss s0_by__result s0_by__over s0_by__heldAll s0_by__heldRounded s0_by_numbers s0_by_words s0_onward s0_tails s0_comesTo) := hD
  have L_4 : ∀ (n : Nat) (y2 : Int32) (y3 : Int32) (c0__anyStuck : Int32) (c0__loudest : Int32) (c0_by__all : Int32) (c0_by__v : Int32) (c0_by__loss : Int32) (c0_by__result : Int32) (c0_by__over : Int32) (c0_by__heldAll : Int32) (c0_by__heldRounded : Int32) (c0_by_words : Nat → Int32) (c0_onward : Nat → Int32) (c0_tails : Nat → Int32) (c0_comesTo : Nat → Int32) (p0_0 : Int32) (p0_1 : Int32) (p0_2 : Int32) (p0_3 : Int32) (p0_4 : Int32) (p0_5 : Int32) (p0_6 : Int32) (p0_7 : Int32) (p0_8 : Nat → Int32) (p0_9 : Nat → Int32) (p0_10 : Nat → Int32) (H : Heap) (locs : List Loc) (ls : Array Slot), va_P G vwCl (wm_X7_settle cA h0 h0_by h0_by_numbers h0_by_words h0_onward h0_tails h0_comesTo s0__size s0__told s0__whole c0__anyStuck c0__loudest c0_by__all c0_by__v c0_by__loss c0_by__result c0_by__over c0_by__heldAll c0_by__heldRounded s0_by_numbers c0_by_words c0_onward c0_tails c0_comesTo) H → va_D A (wm_X7_settle cA h0 h0_by h0_by_numbers h0_by_words h0_onward h0_tails h0_comesTo s0__size s0__told s0__whole c0__anyStuck c0__loudest c0_by__all c0_by__v c0_by__loss c0_by__result c0_by__over c0_by__heldAll c0_by__heldRounded s0_by_numbers c0_by_words c0_onward c0_tails c0_comesTo) → va_S A s.heap H locs → lv_has ls 4 [(0, .ref h0), (1, .int x1), (2, .int y2), (3, .int y3)] → fX7_settle_L4 x1 s0__size s0__told s0_by_numbers n y2 y3 c0__anyStuck c0__loudest c0_by__all c0_by__v c0_by__loss c0_by__result c0_by__over c0_by__heldAll c0_by__heldRounded c0_by_words c0_onward c0_tails c0_comesTo = some (p0_0, p0_1, p0_2, p0_3, p0_4, p0_5, p0_6, p0_7, p0_8, p0_9, p0_10) → (∀ (H : Heap) (locs : List Loc) (ls : Array Slot), va_P G vwCl (wm_X7_settle cA h0 h0_by h0_by_numbers h0_by_words h0_onward h0_tails h0_comesTo s0__size s0__told s0__whole c0__anyStuck c0__loudest p0_1 p0_2 p0_3 p0_4 p0_5 p0_6 p0_7 s0_by_numbers p0_8 p0_9 p0_10 c0_comesTo) H → va_D A (wm_X7_settle cA h0 h0_by h0_by_numbers h0_by_words h0_onward h0_tails h0_comesTo s0__size s0__told s0__whole c0__anyStuck c0__loudest p0_1 p0_2 p0_3 p0_4 p0_5 p0_6 p0_7 s0_by_numbers p0_8 p0_9 p0_10 c0_comesTo) → va_S A s.heap H locs → lv_has ls 4 [(0, .ref h0), (1, .int x1), (2, .int p0_0)] → W p l e (rmX 5 126) s m ar below meth c H locs 0 0 Q (F0 m 101 ls [])) → W p l e (rmX 5 126) s m ar below meth c H locs 0 0 Q (F0 m 4 ls []) := by
    intro n
    induction n with
    | zero =>
      intro y2 y3 c0__anyStuck c0__loudest c0_by__all c0_by__v c0_by__loss c0_by__result c0_by__over c0_by__heldAll c0_by__heldRounded c0_by_words c0_onward c0_tails c0_comesTo p0_0 p0_1 p0_2 p0_3 p0_4 p0_5 p0_6 p0_7 p0_8 p0_9 p0_10 H locs ls hP hD hS hl hok
      rw [fX7_settle_L4] at hok
      cases hok
    | succ n ih =>
      intro y2 y3 c0__anyStuck c0__loudest c0_by__all c0_by__v c0_by__loss c0_by__result c0_by__over c0_by__heldAll c0_by__heldRounded c0_by_words c0_onward c0_tails c0_comesTo p0_0 p0_1 p0_2 p0_3 p0_4 p0_5 p0_6 p0_7 p0_8 p0_9 p0_10 H locs ls hP hD hS hl hok K
      rw [fX7_settle_L4] at hok
      refine lv_iload_n hx hb dX7_settle_4 rfl (lv_at hl 3 rfl) ?_
      refine lv_aload_n hx hb dX7_settle_5 rfl (lv_at hl 0 rfl) ?_
      refine va_get (ci := 7) (v := .int s0__size) (C := RX7) (T := TX7) (N := 9) hx hb hts hinX7 hown hK hP 0 rfl rfl 4 (by decide) (hts _ (List.mem_of_getElem? (i := 1) rfl)) (fun _ h9 => h9) rfl dX7_settle_6 ?_
      refine lv_icmp_ge (tgt := 101) hx hb dX7_settle_9 (by decide) (fun c => ?_) (fun c => ?_)
      · replace hok := g_pos hok c
        cases hok
        exact K _ _ _ hP hD hS (lv_sub hl [0, 1, 2] rfl)
      replace hok := g_neg hok c
      refine lv_aload_n hx hb dX7_settle_12 rfl (lv_at hl 0 rfl) ?_
      refine lv_iload_n hx hb dX7_settle_13 rfl (lv_at hl 2 rfl) ?_
      obtain ⟨r1, hq, hok⟩ := g_bnd1 hok
      refine cG (is := [0]) (wc := (wm_X7_is cA h0 h0_by h0_onward h0_tails h0_comesTo s0__size s0__told s0__whole c0__anyStuck c0__loudest)) (w1 := (wm_X7_is cA h0 h0_by h0_onward h0_tails h0_comesTo s0__size s0__told s0__whole c0__anyStuck c0__loudest)) (rv := (some (.int r1))) (st1 := [.int r1]) (va_runV (Ts := wsX7_settle) (As := [.int y2]) (rest := []) ⟨hx, hb, hml, hown, hts⟩ (c_X7_is l G cA ts h0 h0_by h0_onward h0_tails h0_comesTo y2 s0__size s0__told s0__whole c0__anyStuck c0__loudest r1 hq H.size) (cwV 1 hts gX7_settle_X7_is rfl rfl rfl (by decide +kernel) ⟨Nat.le_of_ble_eq_true rfl, Nat.le_of_ble_eq_true rfl⟩) (pre_V (ci := 7) (q0 := 0) (is := [0]) rfl rfl hP hD hS hA hK hZ (by decide +kernel) (by rfl)) rfl rfl hl.1 rfl (by exact lv_room (Nat.le_of_ble_eq_true rfl)) dX7_settle_14 ⟨Nat.le_refl _, Nat.le_refl _⟩) hP hD hS hA (by decide +kernel) (by rfl) (by rfl) rfl (fun H locs hP hD hS => ?_)
      have hP : va_P G vwCl (wm_X7_settle cA h0 h0_by h0_by_numbers h0_by_words h0_onward h0_tails h0_comesTo s0__size s0__told s0__whole c0__anyStuck c0__loudest c0_by__all c0_by__v c0_by__loss c0_by__result c0_by__over c0_by__heldAll c0_by__heldRounded s0_by_numbers c0_by_words c0_onward c0_tails c0_comesTo) H := hP
      have hD : va_D A (wm_X7_settle cA h0 h0_by h0_by_numbers h0_by_words h0_onward h0_tails h0_comesTo s0__size s0__told s0__whole c0__anyStuck c0__loudest c0_by__all c0_by__v c0_by__loss c0_by__result c0_by__over c0_by__heldAll c0_by__heldRounded s0_by_numbers c0_by_words c0_onward c0_tails c0_comesTo) := hD
      refine lv_if_eq (tgt := 101) hx hb dX7_settle_17 (by decide) (fun c => ?_) (fun c => ?_)
      · replace hok := g_pos hok c
        cases hok
        exact K _ _ _ hP hD hS (lv_sub hl [0, 1, 2] rfl)
      replace hok := g_neg hok c
      refine lv_aload_n hx hb dX7_settle_20 rfl (lv_at hl 0 rfl) ?_
      refine va_get (ci := 7) (v := .ref h0_tails) (C := RX7) (T := TX7) (N := 9) hx hb hts hinX7 hown hK hP 0 rfl rfl 2 (by decide) (hts _ (List.mem_of_getElem? (i := 2) rfl)) (fun _ h9 => h9) rfl dX7_settle_21 ?_
      refine lv_iload_n hx hb dX7_settle_24 rfl (lv_at hl 2 rfl) ?_
      obtain ⟨hin, hok⟩ := g_no hok
      refine x_iald (k := y2.toNatClampNeg) hx hb hK hP 5 0 rfl rfl hin rfl dX7_settle_25 ?_
      refine lv_iconst (v := -1) hx hb dX7_settle_26 (by decide) ?_
      refine lv_icmp_ne (tgt := 101) hx hb dX7_settle_27 (by decide) (fun c => ?_) (fun c => ?_)
      · replace hok := g_neg hok c
        cases hok
        exact K _ _ _ hP hD hS (lv_sub hl [0, 1, 2] rfl)
      replace hok := g_pos hok c
      refine lv_aload_n hx hb dX7_settle_30 rfl (lv_at hl 0 rfl) ?_
      refine va_get (ci := 7) (v := .ref h0_tails) (C := RX7) (T := TX7) (N := 9) hx hb hts hinX7 hown hK hP 0 rfl rfl 2 (by decide) (hts _ (List.mem_of_getElem? (i := 2) rfl)) (fun _ h9 => h9) rfl dX7_settle_31 ?_
      refine lv_iload_n hx hb dX7_settle_34 rfl (lv_at hl 2 rfl) ?_
      refine lv_bipush (v := -2) hx hb dX7_settle_35 (by decide) ?_
      obtain ⟨hin, hok⟩ := g_no hok
      refine x_iast (k := y2.toNatClampNeg) hx hb hK hP hD hS 5 0 rfl rfl hin rfl dX7_settle_37 (fun H locs hP hD hS => ?_)
      have hP : va_P G vwCl (wm_X7_settle cA h0 h0_by h0_by_numbers h0_by_words h0_onward h0_tails h0_comesTo s0__size s0__told s0__whole c0__anyStuck c0__loudest c0_by__all c0_by__v c0_by__loss c0_by__result c0_by__over c0_by__heldAll c0_by__heldRounded s0_by_numbers c0_by_words c0_onward (upd c0_tails y2.toNatClampNeg (-2:Int32)) c0_comesTo) H := hP
      have hD : va_D A (wm_X7_settle cA h0 h0_by h0_by_numbers h0_by_words h0_onward h0_tails h0_comesTo s0__size s0__told s0__whole c0__anyStuck c0__loudest c0_by__all c0_by__v c0_by__loss c0_by__result c0_by__over c0_by__heldAll c0_by__heldRounded s0_by_numbers c0_by_words c0_onward (upd c0_tails y2.toNatClampNeg (-2:Int32)) c0_comesTo) := hD
      refine lv_aload_n hx hb dX7_settle_38 rfl (lv_at hl 0 rfl) ?_
      refine va_get (ci := 7) (v := .ref h0_by) (C := RX7) (T := TX7) (N := 9) hx hb hts hinX7 hown hK hP 0 rfl rfl 0 (by decide) (hts _ (List.mem_of_getElem? (i := 3) rfl)) (fun _ h9 => h9) rfl dX7_settle_39 ?_
      refine lv_iload_n hx hb dX7_settle_42 rfl (lv_at hl 2 rfl) ?_
      obtain ⟨o2, hq, hok⟩ := g_bnd1 hok
      refine cG (is := [1, 2, 3]) (wc := (wm_X3_gather cA h0_by h0_by_numbers h0_by_words c0_by__all c0_by__v c0_by__loss c0_by__result c0_by__over c0_by__heldAll c0_by__heldRounded s0_by_numbers c0_by_words)) (w1 := (wm_X3_gather cA h0_by h0_by_numbers h0_by_words c0_by__all c0_by__v c0_by__loss c0_by__result c0_by__over c0_by__heldAll c0_by__heldRounded s0_by_numbers o2)) (rv := none) (st1 := []) (va_runV (Ts := wsX7_settle) (As := [.int y2]) (rest := []) ⟨hx, hb, hml, hown, hts⟩ (c_X3_unpack l G cA ts h0_by h0_by_numbers h0_by_words y2 c0_by__all c0_by__v c0_by__loss c0_by__result c0_by__over c0_by__heldAll c0_by__heldRounded s0_by_numbers c0_by_words o2 hq H.size) (cwV 1 hts gX7_settle_X3_unpack rfl rfl rfl (by decide +kernel) ⟨Nat.le_of_ble_eq_true rfl, Nat.le_of_ble_eq_true rfl⟩) (pre_V (ci := 3) (q0 := 1) (is := [1, 2, 3]) rfl rfl hP hD hS hA hK hZ (by decide +kernel) (by rfl)) rfl rfl hl.1 rfl (by exact lv_room (Nat.le_of_ble_eq_true rfl)) dX7_settle_43 ⟨Nat.le_refl _, Nat.le_refl _⟩) hP hD hS hA (by decide +kernel) (by rfl) (by rfl) rfl (fun H locs hP hD hS => ?_)
      have hP : va_P G vwCl (wm_X7_settle cA h0 h0_by h0_by_numbers h0_by_words h0_onward h0_tails h0_comesTo s0__size s0__told s0__whole c0__anyStuck c0__loudest c0_by__all c0_by__v c0_by__loss c0_by__result c0_by__over c0_by__heldAll c0_by__heldRounded s0_by_numbers o2 c0_onward (upd c0_tails y2.toNatClampNeg (-2:Int32)) c0_comesTo) H := hP
      have hD : va_D A (wm_X7_settle cA h0 h0_by h0_by_numbers h0_by_words h0_onward h0_tails h0_comesTo s0__size s0__told s0__whole c0__anyStuck c0__loudest c0_by__all c0_by__v c0_by__loss c0_by__result c0_by__over c0_by__heldAll c0_by__heldRounded s0_by_numbers o2 c0_onward (upd c0_tails y2.toNatClampNeg (-2:Int32)) c0_comesTo) := hD
      refine lv_aload_n hx hb dX7_settle_46 rfl (lv_at hl 0 rfl) ?_
      refine va_get (ci := 7) (v := .ref h0_by) (C := RX7) (T := TX7) (N := 9) hx hb hts hinX7 hown hK hP 0 rfl rfl 0 (by decide) (hts _ (List.mem_of_getElem? (i := 3) rfl)) (fun _ h9 => h9) rfl dX7_settle_47 ?_
      refine lv_aload_n hx hb dX7_settle_50 rfl (lv_at hl 0 rfl) ?_
      refine va_get (ci := 7) (v := .int s0__told) (C := RX7) (T := TX7) (N := 9) hx hb hts hinX7 hown hK hP 0 rfl rfl 5 (by decide) (hts _ (List.mem_of_getElem? (i := 4) rfl)) (fun _ h9 => h9) rfl dX7_settle_51 ?_
      obtain ⟨o3, o4, o5, o6, o7, o8, o9, hq, hok⟩ := g_bnd7 hok
      refine cG (is := [1, 2, 3]) (wc := (wm_X3_gather cA h0_by h0_by_numbers h0_by_words c0_by__all c0_by__v c0_by__loss c0_by__result c0_by__over c0_by__heldAll c0_by__heldRounded s0_by_numbers o2)) (w1 := (wm_X3_gather cA h0_by h0_by_numbers h0_by_words o3 o4 o5 o6 o7 o8 o9 s0_by_numbers o2)) (rv := none) (st1 := []) (va_runV (Ts := wsX7_settle) (As := [.int s0__told]) (rest := []) ⟨hx, hb, hml, hown, hts⟩ (c_X3_weigh l G cA ts h0_by h0_by_numbers h0_by_words s0__told c0_by__all c0_by__v c0_by__loss c0_by__result c0_by__over c0_by__heldAll c0_by__heldRounded s0_by_numbers o2 o3 o4 o5 o6 o7 o8 o9 hq H.size) (cwV 1 hts gX7_settle_X3_weigh rfl rfl rfl (by decide +kernel) ⟨Nat.le_of_ble_eq_true rfl, Nat.le_of_ble_eq_true rfl⟩) (pre_V (ci := 3) (q0 := 1) (is := [1, 2, 3]) rfl rfl hP hD hS hA hK hZ (by decide +kernel) (by rfl)) rfl rfl hl.1 rfl (by exact lv_room (Nat.le_of_ble_eq_true rfl)) dX7_settle_54 ⟨Nat.le_refl _, Nat.le_refl _⟩) hP hD hS hA (by decide +kernel) (by rfl) (by rfl) rfl (fun H locs hP hD hS => ?_)
      have hP : va_P G vwCl (wm_X7_settle cA h0 h0_by h0_by_numbers h0_by_words h0_onward h0_tails h0_comesTo s0__size s0__told s0__whole c0__anyStuck c0__loudest o3 o4 o5 o6 o7 o8 o9 s0_by_numbers o2 c0_onward (upd c0_tails y2.toNatClampNeg (-2:Int32)) c0_comesTo) H := hP
      have hD : va_D A (wm_X7_settle cA h0 h0_by h0_by_numbers h0_by_words h0_onward h0_tails h0_comesTo s0__size s0__told s0__whole c0__anyStuck c0__loudest o3 o4 o5 o6 o7 o8 o9 s0_by_numbers o2 c0_onward (upd c0_tails y2.toNatClampNeg (-2:Int32)) c0_comesTo) := hD
      refine lv_aload_n hx hb dX7_settle_57 rfl (lv_at hl 0 rfl) ?_
      refine va_get (ci := 7) (v := .ref h0_onward) (C := RX7) (T := TX7) (N := 9) hx hb hts hinX7 hown hK hP 0 rfl rfl 1 (by decide) (hts _ (List.mem_of_getElem? (i := 5) rfl)) (fun _ h9 => h9) rfl dX7_settle_58 ?_
      refine lv_iload_n hx hb dX7_settle_61 rfl (lv_at hl 2 rfl) ?_
      refine lv_aload_n hx hb dX7_settle_62 rfl (lv_at hl 0 rfl) ?_
      refine va_get (ci := 7) (v := .ref h0_by) (C := RX7) (T := TX7) (N := 9) hx hb hts hinX7 hown hK hP 0 rfl rfl 0 (by decide) (hts _ (List.mem_of_getElem? (i := 3) rfl)) (fun _ h9 => h9) rfl dX7_settle_63 ?_
      refine va_get (ci := 3) (v := .int o6) (C := RX3) (T := TX3) (N := 9) hx hb hts hinX3 hown hK hP 1 rfl rfl 5 (by decide) (hts _ (List.mem_of_getElem? (i := 6) rfl)) (fun _ h9 => h9) rfl dX7_settle_66 ?_
      refine lv_sipush (v := -1005) hx hb dX7_settle_69 (by decide) ?_
      refine lv_icmp_ne (tgt := 79) hx hb dX7_settle_72 (by decide) (fun c => ?_) (fun c => ?_)
      · replace hok := g_neg hok c
        refine lv_aload_n hx hb dX7_settle_79 rfl (lv_at hl 0 rfl) ?_
        refine va_get (ci := 7) (v := .ref h0_by) (C := RX7) (T := TX7) (N := 9) hx hb hts hinX7 hown hK hP 0 rfl rfl 0 (by decide) (hts _ (List.mem_of_getElem? (i := 3) rfl)) (fun _ h9 => h9) rfl dX7_settle_80 ?_
        refine lv_iload_n hx hb dX7_settle_83 rfl (lv_at hl 2 rfl) ?_
        obtain ⟨r10, hq, hok⟩ := g_bnd1 hok
        refine cG (is := [1, 2]) (wc := (wm_X3_unit cA h0_by h0_by_numbers h0_by_words o3 o4 o5 o6 o7 o8 o9 s0_by_numbers)) (w1 := (wm_X3_unit cA h0_by h0_by_numbers h0_by_words o3 o4 o5 o6 o7 o8 o9 s0_by_numbers)) (rv := (some (.int r10))) (st1 := [.int r10, .int y2, .ref h0_onward]) (va_runV (Ts := wsX7_settle) (As := [.int y2]) (rest := [.int y2, .ref h0_onward]) ⟨hx, hb, hml, hown, hts⟩ (c_X3_codeBehind l G cA ts h0_by h0_by_numbers h0_by_words y2 o3 o4 o5 o6 o7 o8 o9 s0_by_numbers r10 hq H.size) (cwV 1 hts gX7_settle_X3_codeBehind rfl rfl rfl (by decide +kernel) ⟨Nat.le_of_ble_eq_true rfl, Nat.le_of_ble_eq_true rfl⟩) (pre_V (ci := 3) (q0 := 1) (is := [1, 2]) rfl rfl hP hD hS hA hK hZ (by decide +kernel) (by rfl)) rfl rfl hl.1 rfl (by exact lv_room (Nat.le_of_ble_eq_true rfl)) dX7_settle_84 ⟨Nat.le_refl _, Nat.le_refl _⟩) hP hD hS hA (by decide +kernel) (by rfl) (by rfl) rfl (fun H locs hP hD hS => ?_)
        have hP : va_P G vwCl (wm_X7_settle cA h0 h0_by h0_by_numbers h0_by_words h0_onward h0_tails h0_comesTo s0__size s0__told s0__whole c0__anyStuck c0__loudest o3 o4 o5 o6 o7 o8 o9 s0_by_numbers o2 c0_onward (upd c0_tails y2.toNatClampNeg (-2:Int32)) c0_comesTo) H := hP
        have hD : va_D A (wm_X7_settle cA h0 h0_by h0_by_numbers h0_by_words h0_onward h0_tails h0_comesTo s0__size s0__told s0__whole c0__anyStuck c0__loudest o3 o4 o5 o6 o7 o8 o9 s0_by_numbers o2 c0_onward (upd c0_tails y2.toNatClampNeg (-2:Int32)) c0_comesTo) := hD
        obtain ⟨hin, hok⟩ := g_no hok
        refine x_iast (k := y2.toNatClampNeg) hx hb hK hP hD hS 4 0 rfl rfl hin rfl dX7_settle_87 (fun H locs hP hD hS => ?_)
        have hP : va_P G vwCl (wm_X7_settle cA h0 h0_by h0_by_numbers h0_by_words h0_onward h0_tails h0_comesTo s0__size s0__told s0__whole c0__anyStuck c0__loudest o3 o4 o5 o6 o7 o8 o9 s0_by_numbers o2 (upd c0_onward y2.toNatClampNeg r10) (upd c0_tails y2.toNatClampNeg (-2:Int32)) c0_comesTo) H := hP
        have hD : va_D A (wm_X7_settle cA h0 h0_by h0_by_numbers h0_by_words h0_onward h0_tails h0_comesTo s0__size s0__told s0__whole c0__anyStuck c0__loudest o3 o4 o5 o6 o7 o8 o9 s0_by_numbers o2 (upd c0_onward y2.toNatClampNeg r10) (upd c0_tails y2.toNatClampNeg (-2:Int32)) c0_comesTo) := hD
        refine lv_aload_n hx hb dX7_settle_88 rfl (lv_at hl 0 rfl) ?_
        refine va_get (ci := 7) (v := .ref h0_onward) (C := RX7) (T := TX7) (N := 9) hx hb hts hinX7 hown hK hP 0 rfl rfl 1 (by decide) (hts _ (List.mem_of_getElem? (i := 5) rfl)) (fun _ h9 => h9) rfl dX7_settle_89 ?_
        refine lv_iload_n hx hb dX7_settle_92 rfl (lv_at hl 2 rfl) ?_
        obtain ⟨hin, hok⟩ := g_no hok
        refine x_iald (k := y2.toNatClampNeg) hx hb hK hP 4 0 rfl rfl hin rfl dX7_settle_93 ?_
        refine lv_istore_n (lv' := [(2, .int ((upd c0_onward y2.toNatClampNeg r10) y2.toNatClampNeg)), (0, .ref h0), (1, .int x1), (3, .int y3)]) hx hb dX7_settle_94 rfl hl (by decide) rfl (fun ls hl => ?_)
        refine lv_iinc (v := (y3 + 1)) (lv' := [(3, .int (y3 + 1)), (2, .int ((upd c0_onward y2.toNatClampNeg r10) y2.toNatClampNeg)), (0, .ref h0), (1, .int x1)]) hx hb dX7_settle_95 hl (k := 3) rfl rfl (by decide) rfl (fun ls hl => ?_)
        refine lv_goto (tgt := 4) hx hb dX7_settle_98 (by decide) ?_
        exact ih ((upd c0_onward y2.toNatClampNeg r10) y2.toNatClampNeg) (y3 + 1) c0__anyStuck c0__loudest o3 o4 o5 o6 o7 o8 o9 o2 (upd c0_onward y2.toNatClampNeg r10) (upd c0_tails y2.toNatClampNeg (-2:Int32)) c0_comesTo p0_0 p0_1 p0_2 p0_3 p0_4 p0_5 p0_6 p0_7 p0_8 p0_9 p0_10 _ _ _ hP hD hS (lv_sub hl [2, 3, 1, 0] rfl) hok K
      replace hok := g_pos hok c
      refine lv_iconst (v := -1) hx hb dX7_settle_75 (by decide) ?_
      refine lv_goto (tgt := 87) hx hb dX7_settle_76 (by decide) ?_
      obtain ⟨hin, hok⟩ := g_no hok
      refine x_iast (k := y2.toNatClampNeg) hx hb hK hP hD hS 4 0 rfl rfl hin rfl dX7_settle_87 (fun H locs hP hD hS => ?_)
      have hP : va_P G vwCl (wm_X7_settle cA h0 h0_by h0_by_numbers h0_by_words h0_onward h0_tails h0_comesTo s0__size s0__told s0__whole c0__anyStuck c0__loudest o3 o4 o5 o6 o7 o8 o9 s0_by_numbers o2 (upd c0_onward y2.toNatClampNeg (-1:Int32)) (upd c0_tails y2.toNatClampNeg (-2:Int32)) c0_comesTo) H := hP
      have hD : va_D A (wm_X7_settle cA h0 h0_by h0_by_numbers h0_by_words h0_onward h0_tails h0_comesTo s0__size s0__told s0__whole c0__anyStuck c0__loudest o3 o4 o5 o6 o7 o8 o9 s0_by_numbers o2 (upd c0_onward y2.toNatClampNeg (-1:Int32)) (upd c0_tails y2.toNatClampNeg (-2:Int32)) c0_comesTo) := hD
      refine lv_aload_n hx hb dX7_settle_88 rfl (lv_at hl 0 rfl) ?_
      refine va_get (ci := 7) (v := .ref h0_onward) (C := RX7) (T := TX7) (N := 9) hx hb hts hinX7 hown hK hP 0 rfl rfl 1 (by decide) (hts _ (List.mem_of_getElem? (i := 5) rfl)) (fun _ h9 => h9) rfl dX7_settle_89 ?_
      refine lv_iload_n hx hb dX7_settle_92 rfl (lv_at hl 2 rfl) ?_
      obtain ⟨hin, hok⟩ := g_no hok
      refine x_iald (k := y2.toNatClampNeg) hx hb hK hP 4 0 rfl rfl hin rfl dX7_settle_93 ?_
      refine lv_istore_n (lv' := [(2, .int ((upd c0_onward y2.toNatClampNeg (-1:Int32)) y2.toNatClampNeg)), (0, .ref h0), (1, .int x1), (3, .int y3)]) hx hb dX7_settle_94 rfl hl (by decide) rfl (fun ls hl => ?_)
      refine lv_iinc (v := (y3 + 1)) (lv' := [(3, .int (y3 + 1)), (2, .int ((upd c0_onward y2.toNatClampNeg (-1:Int32)) y2.toNatClampNeg)), (0, .ref h0), (1, .int x1)]) hx hb dX7_settle_95 hl (k := 3) rfl rfl (by decide) rfl (fun ls hl => ?_)
      refine lv_goto (tgt := 4) hx hb dX7_settle_98 (by decide) ?_
      exact ih ((upd c0_onward y2.toNatClampNeg (-1:Int32)) y2.toNatClampNeg) (y3 + 1) c0__anyStuck c0__loudest o3 o4 o5 o6 o7 o8 o9 o2 (upd c0_onward y2.toNatClampNeg (-1:Int32)) (upd c0_tails y2.toNatClampNeg (-2:Int32)) c0_comesTo p0_0 p0_1 p0_2 p0_3 p0_4 p0_5 p0_6 p0_7 p0_8 p0_9 p0_10 _ _ _ hP hD hS (lv_sub hl [2, 3, 1, 0] rfl) hok K
  have J_101 : ∀ (y2 : Int32) (c0__anyStuck : Int32) (c0__loudest : Int32) (c0_by__all : Int32) (c0_by__v : Int32) (c0_by__loss : Int32) (c0_by__result : Int32) (c0_by__over : Int32) (c0_by__heldAll : Int32) (c0_by__heldRounded : Int32) (c0_by_words : Nat → Int32) (c0_onward : Nat → Int32) (c0_tails : Nat → Int32) (c0_comesTo : Nat → Int32) (H : Heap) (locs : List Loc) (ls : Array Slot), va_P G vwCl (wm_X7_settle cA h0 h0_by h0_by_numbers h0_by_words h0_onward h0_tails h0_comesTo s0__size s0__told s0__whole c0__anyStuck c0__loudest c0_by__all c0_by__v c0_by__loss c0_by__result c0_by__over c0_by__heldAll c0_by__heldRounded s0_by_numbers c0_by_words c0_onward c0_tails c0_comesTo) H → va_D A (wm_X7_settle cA h0 h0_by h0_by_numbers h0_by_words h0_onward h0_tails h0_comesTo s0__size s0__told s0__whole c0__anyStuck c0__loudest c0_by__all c0_by__v c0_by__loss c0_by__result c0_by__over c0_by__heldAll c0_by__heldRounded s0_by_numbers c0_by_words c0_onward c0_tails c0_comesTo) → va_S A s.heap H locs → lv_has ls 4 [(0, .ref h0), (1, .int x1), (2, .int y2)] → fX7_settle_j101 x1 s0__size s0__told s0_by_numbers y2 c0__anyStuck c0__loudest c0_by__all c0_by__v c0_by__loss c0_by__result c0_by__over c0_by__heldAll c0_by__heldRounded c0_by_words c0_onward c0_tails c0_comesTo = some (o0__anyStuck, o0__loudest, o0_by__all, o0_by__v, o0_by__loss, o0_by__result, o0_by__over, o0_by__heldAll, o0_by__heldRounded, o0_by_words, o0_onward, o0_tails, o0_comesTo) → W p l e (rmX 5 126) s m ar below meth c H locs 0 0 Q (F0 m 101 ls []) := by
    intro y2 c0__anyStuck c0__loudest c0_by__all c0_by__v c0_by__loss c0_by__result c0_by__over c0_by__heldAll c0_by__heldRounded c0_by_words c0_onward c0_tails c0_comesTo H locs ls hP hD hS hl hok
    unfold fX7_settle_j101 at hok
    refine lv_aload_n hx hb dX7_settle_101 rfl (lv_at hl 0 rfl) ?_
    refine lv_iload_n hx hb dX7_settle_102 rfl (lv_at hl 2 rfl) ?_
    obtain ⟨r22, hq, hok⟩ := g_bnd1 hok
    refine cG (is := [0]) (wc := (wm_X7_is cA h0 h0_by h0_onward h0_tails h0_comesTo s0__size s0__told s0__whole c0__anyStuck c0__loudest)) (w1 := (wm_X7_is cA h0 h0_by h0_onward h0_tails h0_comesTo s0__size s0__told s0__whole c0__anyStuck c0__loudest)) (rv := (some (.int r22))) (st1 := [.int r22]) (va_runV (Ts := wsX7_settle) (As := [.int y2]) (rest := []) ⟨hx, hb, hml, hown, hts⟩ (c_X7_is l G cA ts h0 h0_by h0_onward h0_tails h0_comesTo y2 s0__size s0__told s0__whole c0__anyStuck c0__loudest r22 hq H.size) (cwV 1 hts gX7_settle_X7_is rfl rfl rfl (by decide +kernel) ⟨Nat.le_of_ble_eq_true rfl, Nat.le_of_ble_eq_true rfl⟩) (pre_V (ci := 7) (q0 := 0) (is := [0]) rfl rfl hP hD hS hA hK hZ (by decide +kernel) (by rfl)) rfl rfl hl.1 rfl (by exact lv_room (Nat.le_of_ble_eq_true rfl)) dX7_settle_103 ⟨Nat.le_refl _, Nat.le_refl _⟩) hP hD hS hA (by decide +kernel) (by rfl) (by rfl) rfl (fun H locs hP hD hS => ?_)
    have hP : va_P G vwCl (wm_X7_settle cA h0 h0_by h0_by_numbers h0_by_words h0_onward h0_tails h0_comesTo s0__size s0__told s0__whole c0__anyStuck c0__loudest c0_by__all c0_by__v c0_by__loss c0_by__result c0_by__over c0_by__heldAll c0_by__heldRounded s0_by_numbers c0_by_words c0_onward c0_tails c0_comesTo) H := hP
    have hD : va_D A (wm_X7_settle cA h0 h0_by h0_by_numbers h0_by_words h0_onward h0_tails h0_comesTo s0__size s0__told s0__whole c0__anyStuck c0__loudest c0_by__all c0_by__v c0_by__loss c0_by__result c0_by__over c0_by__heldAll c0_by__heldRounded s0_by_numbers c0_by_words c0_onward c0_tails c0_comesTo) := hD
    refine lv_if_eq (tgt := 125) hx hb dX7_settle_106 (by decide) (fun c => ?_) (fun c => ?_)
    · replace hok := g_pos hok c
      refine lv_aload_n hx hb dX7_settle_125 rfl (lv_at hl 0 rfl) ?_
      refine lv_iload_n hx hb dX7_settle_126 rfl (lv_at hl 1 rfl) ?_
      obtain ⟨o23, o24, o25, hq, hok⟩ := g_bnd3 hok
      refine cG (is := [0, 4, 5, 6]) (wc := (wm_X7_joinWay cA h0 h0_onward h0_tails h0_comesTo h0_by s0__size s0__told s0__whole c0__anyStuck c0__loudest c0_onward c0_tails c0_comesTo)) (w1 := (wm_X7_joinWay cA h0 h0_onward h0_tails h0_comesTo h0_by s0__size s0__told s0__whole o23 c0__loudest c0_onward o24 o25)) (rv := none) (st1 := []) (va_runV (Ts := wsX7_settle) (As := [.int x1]) (rest := []) ⟨hx, hb, hml, hown, hts⟩ (c_X7_joinWay l G cA ts h0 h0_onward h0_tails h0_comesTo h0_by x1 s0__size s0__told s0__whole c0__anyStuck c0__loudest c0_onward c0_tails c0_comesTo o23 o24 o25 hq H.size) (cwV 1 hts gX7_settle_X7_joinWay rfl rfl rfl (by decide +kernel) ⟨Nat.le_of_ble_eq_true rfl, Nat.le_of_ble_eq_true rfl⟩) (pre_V (ci := 7) (q0 := 0) (is := [0, 4, 5, 6]) rfl rfl hP hD hS hA hK hZ (by decide +kernel) (by rfl)) rfl rfl hl.1 rfl (by exact lv_room (Nat.le_of_ble_eq_true rfl)) dX7_settle_127 ⟨Nat.le_refl _, Nat.le_refl _⟩) hP hD hS hA (by decide +kernel) (by rfl) (by rfl) rfl (fun H locs hP hD hS => ?_)
      have hP : va_P G vwCl (wm_X7_settle cA h0 h0_by h0_by_numbers h0_by_words h0_onward h0_tails h0_comesTo s0__size s0__told s0__whole o23 c0__loudest c0_by__all c0_by__v c0_by__loss c0_by__result c0_by__over c0_by__heldAll c0_by__heldRounded s0_by_numbers c0_by_words c0_onward o24 o25) H := hP
      have hD : va_D A (wm_X7_settle cA h0 h0_by h0_by_numbers h0_by_words h0_onward h0_tails h0_comesTo s0__size s0__told s0__whole o23 c0__loudest c0_by__all c0_by__v c0_by__loss c0_by__result c0_by__over c0_by__heldAll c0_by__heldRounded s0_by_numbers c0_by_words c0_onward o24 o25) := hD
      obtain ⟨e, hok⟩ := g_pr hok
      try subst e
      obtain ⟨e, hok⟩ := g_pr hok
      try subst e
      obtain ⟨e, hok⟩ := g_pr hok
      try subst e
      obtain ⟨e, hok⟩ := g_pr hok
      try subst e
      obtain ⟨e, hok⟩ := g_pr hok
      try subst e
      obtain ⟨e, hok⟩ := g_pr hok
      try subst e
      obtain ⟨e, hok⟩ := g_pr hok
      try subst e
      obtain ⟨e, hok⟩ := g_pr hok
      try subst e
      obtain ⟨e, hok⟩ := g_pr hok
      try subst e
      obtain ⟨e, hok⟩ := g_pr hok
      try subst e
      obtain ⟨e, hok⟩ := g_pr hok
      try subst e
      obtain ⟨e, hok⟩ := g_pr hok
      try subst e
      cases hok
      exact cr_v hx hb hr hlocks hQ dX7_settle_130 hP hS
    replace hok := g_neg hok c
    refine lv_aload_n hx hb dX7_settle_109 rfl (lv_at hl 0 rfl) ?_
    refine va_get (ci := 7) (v := .ref h0_tails) (C := RX7) (T := TX7) (N := 9) hx hb hts hinX7 hown hK hP 0 rfl rfl 2 (by decide) (hts _ (List.mem_of_getElem? (i := 2) rfl)) (fun _ h9 => h9) rfl dX7_settle_110 ?_
    refine lv_iload_n hx hb dX7_settle_113 rfl (lv_at hl 2 rfl) ?_
    obtain ⟨hin, hok⟩ := g_no hok
    refine x_iald (k := y2.toNatClampNeg) hx hb hK hP 5 0 rfl rfl hin rfl dX7_settle_114 ?_
    refine lv_bipush (v := -2) hx hb dX7_settle_115 (by decide) ?_
    refine lv_icmp_ne (tgt := 125) hx hb dX7_settle_117 (by decide) (fun c => ?_) (fun c => ?_)
    · replace hok := g_neg hok c
      refine lv_aload_n hx hb dX7_settle_125 rfl (lv_at hl 0 rfl) ?_
      refine lv_iload_n hx hb dX7_settle_126 rfl (lv_at hl 1 rfl) ?_
      obtain ⟨o26, o27, o28, hq, hok⟩ := g_bnd3 hok
      refine cG (is := [0, 4, 5, 6]) (wc := (wm_X7_joinWay cA h0 h0_onward h0_tails h0_comesTo h0_by s0__size s0__told s0__whole c0__anyStuck c0__loudest c0_onward c0_tails c0_comesTo)) (w1 := (wm_X7_joinWay cA h0 h0_onward h0_tails h0_comesTo h0_by s0__size s0__told s0__whole o26 c0__loudest c0_onward o27 o28)) (rv := none) (st1 := []) (va_runV (Ts := wsX7_settle) (As := [.int x1]) (rest := []) ⟨hx, hb, hml, hown, hts⟩ (c_X7_joinWay l G cA ts h0 h0_onward h0_tails h0_comesTo h0_by x1 s0__size s0__told s0__whole c0__anyStuck c0__loudest c0_onward c0_tails c0_comesTo o26 o27 o28 hq H.size) (cwV 1 hts gX7_settle_X7_joinWay rfl rfl rfl (by decide +kernel) ⟨Nat.le_of_ble_eq_true rfl, Nat.le_of_ble_eq_true rfl⟩) (pre_V (ci := 7) (q0 := 0) (is := [0, 4, 5, 6]) rfl rfl hP hD hS hA hK hZ (by decide +kernel) (by rfl)) rfl rfl hl.1 rfl (by exact lv_room (Nat.le_of_ble_eq_true rfl)) dX7_settle_127 ⟨Nat.le_refl _, Nat.le_refl _⟩) hP hD hS hA (by decide +kernel) (by rfl) (by rfl) rfl (fun H locs hP hD hS => ?_)
      have hP : va_P G vwCl (wm_X7_settle cA h0 h0_by h0_by_numbers h0_by_words h0_onward h0_tails h0_comesTo s0__size s0__told s0__whole o26 c0__loudest c0_by__all c0_by__v c0_by__loss c0_by__result c0_by__over c0_by__heldAll c0_by__heldRounded s0_by_numbers c0_by_words c0_onward o27 o28) H := hP
      have hD : va_D A (wm_X7_settle cA h0 h0_by h0_by_numbers h0_by_words h0_onward h0_tails h0_comesTo s0__size s0__told s0__whole o26 c0__loudest c0_by__all c0_by__v c0_by__loss c0_by__result c0_by__over c0_by__heldAll c0_by__heldRounded s0_by_numbers c0_by_words c0_onward o27 o28) := hD
      obtain ⟨e, hok⟩ := g_pr hok
      try subst e
      obtain ⟨e, hok⟩ := g_pr hok
      try subst e
      obtain ⟨e, hok⟩ := g_pr hok
      try subst e
      obtain ⟨e, hok⟩ := g_pr hok
      try subst e
      obtain ⟨e, hok⟩ := g_pr hok
      try subst e
      obtain ⟨e, hok⟩ := g_pr hok
      try subst e
      obtain ⟨e, hok⟩ := g_pr hok
      try subst e
      obtain ⟨e, hok⟩ := g_pr hok
      try subst e
      obtain ⟨e, hok⟩ := g_pr hok
      try subst e
      obtain ⟨e, hok⟩ := g_pr hok
      try subst e
      obtain ⟨e, hok⟩ := g_pr hok
      try subst e
      obtain ⟨e, hok⟩ := g_pr hok
      try subst e
      cases hok
      exact cr_v hx hb hr hlocks hQ dX7_settle_130 hP hS
    replace hok := g_pos hok c
    refine lv_aload_n hx hb dX7_settle_120 rfl (lv_at hl 0 rfl) ?_
    refine lv_iload_n hx hb dX7_settle_121 rfl (lv_at hl 2 rfl) ?_
    obtain ⟨o29, o30, o31, hq, hok⟩ := g_bnd3 hok
    refine cG (is := [0, 1, 2, 4, 5, 6]) (wc := (wm_X7_closeCycle cA h0 h0_by h0_by_numbers h0_onward h0_tails h0_comesTo h0_by_words s0__size s0__told s0__whole c0__anyStuck c0__loudest c0_by__all c0_by__v c0_by__loss c0_by__result c0_by__over c0_by__heldAll c0_by__heldRounded s0_by_numbers c0_onward c0_tails c0_comesTo)) (w1 := (wm_X7_closeCycle cA h0 h0_by h0_by_numbers h0_onward h0_tails h0_comesTo h0_by_words s0__size s0__told s0__whole c0__anyStuck o29 c0_by__all c0_by__v c0_by__loss c0_by__result c0_by__over c0_by__heldAll c0_by__heldRounded s0_by_numbers c0_onward o30 o31)) (rv := none) (st1 := []) (va_runV (Ts := wsX7_settle) (As := [.int y2]) (rest := []) ⟨hx, hb, hml, hown, hts⟩ (c_X7_closeCycle l G cA ts h0 h0_by h0_by_numbers h0_onward h0_tails h0_comesTo h0_by_words y2 s0__size s0__told s0__whole c0__anyStuck c0__loudest c0_by__all c0_by__v c0_by__loss c0_by__result c0_by__over c0_by__heldAll c0_by__heldRounded s0_by_numbers c0_onward c0_tails c0_comesTo o29 o30 o31 hq H.size) (cwV 1 hts gX7_settle_X7_closeCycle rfl rfl rfl (by decide +kernel) ⟨Nat.le_of_ble_eq_true rfl, Nat.le_of_ble_eq_true rfl⟩) (pre_V (ci := 7) (q0 := 0) (is := [0, 1, 2, 4, 5, 6]) rfl rfl hP hD hS hA hK hZ (by decide +kernel) (by rfl)) rfl rfl hl.1 rfl (by exact lv_room (Nat.le_of_ble_eq_true rfl)) dX7_settle_122 ⟨Nat.le_refl _, Nat.le_refl _⟩) hP hD hS hA (by decide +kernel) (by rfl) (by rfl) rfl (fun H locs hP hD hS => ?_)
    have hP : va_P G vwCl (wm_X7_settle cA h0 h0_by h0_by_numbers h0_by_words h0_onward h0_tails h0_comesTo s0__size s0__told s0__whole c0__anyStuck o29 c0_by__all c0_by__v c0_by__loss c0_by__result c0_by__over c0_by__heldAll c0_by__heldRounded s0_by_numbers c0_by_words c0_onward o30 o31) H := hP
    have hD : va_D A (wm_X7_settle cA h0 h0_by h0_by_numbers h0_by_words h0_onward h0_tails h0_comesTo s0__size s0__told s0__whole c0__anyStuck o29 c0_by__all c0_by__v c0_by__loss c0_by__result c0_by__over c0_by__heldAll c0_by__heldRounded s0_by_numbers c0_by_words c0_onward o30 o31) := hD
    refine lv_aload_n hx hb dX7_settle_125 rfl (lv_at hl 0 rfl) ?_
    refine lv_iload_n hx hb dX7_settle_126 rfl (lv_at hl 1 rfl) ?_
    obtain ⟨o32, o33, o34, hq, hok⟩ := g_bnd3 hok
    refine cG (is := [0, 4, 5, 6]) (wc := (wm_X7_joinWay cA h0 h0_onward h0_tails h0_comesTo h0_by s0__size s0__told s0__whole c0__anyStuck o29 c0_onward o30 o31)) (w1 := (wm_X7_joinWay cA h0 h0_onward h0_tails h0_comesTo h0_by s0__size s0__told s0__whole o32 o29 c0_onward o33 o34)) (rv := none) (st1 := []) (va_runV (Ts := wsX7_settle) (As := [.int x1]) (rest := []) ⟨hx, hb, hml, hown, hts⟩ (c_X7_joinWay l G cA ts h0 h0_onward h0_tails h0_comesTo h0_by x1 s0__size s0__told s0__whole c0__anyStuck o29 c0_onward o30 o31 o32 o33 o34 hq H.size) (cwV 1 hts gX7_settle_X7_joinWay rfl rfl rfl (by decide +kernel) ⟨Nat.le_of_ble_eq_true rfl, Nat.le_of_ble_eq_true rfl⟩) (pre_V (ci := 7) (q0 := 0) (is := [0, 4, 5, 6]) rfl rfl hP hD hS hA hK hZ (by decide +kernel) (by rfl)) rfl rfl hl.1 rfl (by exact lv_room (Nat.le_of_ble_eq_true rfl)) dX7_settle_127 ⟨Nat.le_refl _, Nat.le_refl _⟩) hP hD hS hA (by decide +kernel) (by rfl) (by rfl) rfl (fun H locs hP hD hS => ?_)
    have hP : va_P G vwCl (wm_X7_settle cA h0 h0_by h0_by_numbers h0_by_words h0_onward h0_tails h0_comesTo s0__size s0__told s0__whole o32 o29 c0_by__all c0_by__v c0_by__loss c0_by__result c0_by__over c0_by__heldAll c0_by__heldRounded s0_by_numbers c0_by_words c0_onward o33 o34) H := hP
    have hD : va_D A (wm_X7_settle cA h0 h0_by h0_by_numbers h0_by_words h0_onward h0_tails h0_comesTo s0__size s0__told s0__whole o32 o29 c0_by__all c0_by__v c0_by__loss c0_by__result c0_by__over c0_by__heldAll c0_by__heldRounded s0_by_numbers c0_by_words c0_onward o33 o34) := hD
    obtain ⟨e, hok⟩ := g_pr hok
    try subst e
    obtain ⟨e, hok⟩ := g_pr hok
    try subst e
    obtain ⟨e, hok⟩ := g_pr hok
    try subst e
    obtain ⟨e, hok⟩ := g_pr hok
    try subst e
    obtain ⟨e, hok⟩ := g_pr hok
    try subst e
    obtain ⟨e, hok⟩ := g_pr hok
    try subst e
    obtain ⟨e, hok⟩ := g_pr hok
    try subst e
    obtain ⟨e, hok⟩ := g_pr hok
    try subst e
    obtain ⟨e, hok⟩ := g_pr hok
    try subst e
    obtain ⟨e, hok⟩ := g_pr hok
    try subst e
    obtain ⟨e, hok⟩ := g_pr hok
    try subst e
    obtain ⟨e, hok⟩ := g_pr hok
    try subst e
    cases hok
    exact cr_v hx hb hr hlocks hQ dX7_settle_130 hP hS
  unfold fX7_settle at hok
  refine lv_iload_n hx hb dX7_settle_0 rfl (lv_at hl 1 rfl) ?_
  refine lv_istore_n (lv' := [(2, .int x1), (0, .ref h0), (1, .int x1)]) hx hb dX7_settle_1 rfl hl (by decide) rfl (fun ls hl => ?_)
  refine lv_iconst (v := 0) hx hb dX7_settle_2 (by decide) ?_
  refine lv_istore_n (lv' := [(3, .int (0:Int32)), (2, .int x1), (0, .ref h0), (1, .int x1)]) hx hb dX7_settle_3 rfl hl (by decide) rfl (fun ls hl => ?_)
  obtain ⟨o11, o12, o13, o14, o15, o16, o17, o18, o19, o20, o21, hq, hok⟩ := g_bnd11 hok
  refine L_4 FUEL x1 (0:Int32) s0__anyStuck s0__loudest s0_by__all s0_by__v s0_by__loss s0_by__result s0_by__over s0_by__heldAll s0_by__heldRounded s0_by_words s0_onward s0_tails s0_comesTo o11 o12 o13 o14 o15 o16 o17 o18 o19 o20 o21 _ _ _ hP hD hS (lv_sub hl [2, 3, 1, 0] rfl) hq (fun H locs ls hP hD hS hl => ?_)
  exact J_101 o11 s0__anyStuck s0__loudest o12 o13 o14 o15 o16 o17 o18 o19 o20 o21 s0_comesTo _ _ _ hP hD hS (lv_sub hl [0, 1, 2] rfl) hok
set_option maxHeartbeats 40000000 in
set_option maxRecDepth 100000 in
theorem c_X7_draw (l : Launch) (G : va_G) (cA : Nat → ClassId) (ts : Nat → Nat) (h0 : Nat) (h0_by : Nat) (h0_by_numbers : Nat) (h0_by_words : Nat) (h0_onward : Nat) (h0_tails : Nat) (h0_comesTo : Nat) (h1 : Nat) (h1_numbers : Nat) (h1_words : Nat) (x2 : Int32) (s0__size : Int32) (s0__told : Int32) (s0__whole : Int32) (s0__anyStuck : Int32) (s0__loudest : Int32) (s0_by__all : Int32) (s0_by__v : Int32) (s0_by__loss : Int32) (s0_by__result : Int32) (s0_by__over : Int32) (s0_by__heldAll : Int32) (s0_by__heldRounded : Int32) (s0_by_numbers : Nat → Int32) (s0_by_words : Nat → Int32) (s0_onward : Nat → Int32) (s0_tails : Nat → Int32) (s0_comesTo : Nat → Int32) (s1__all : Int32) (s1__v : Int32) (s1__loss : Int32) (s1__result : Int32) (s1__over : Int32) (s1__heldAll : Int32) (s1__heldRounded : Int32) (s1_numbers : Nat → Int32) (s1_words : Nat → Int32) (o0__size : Int32) (o0__told : Int32) (o0__whole : Int32) (o0__anyStuck : Int32) (o0__loudest : Int32) (o0_by__all : Int32) (o0_by__v : Int32) (o0_by__loss : Int32) (o0_by__result : Int32) (o0_by__over : Int32) (o0_by__heldAll : Int32) (o0_by__heldRounded : Int32) (o0_by_numbers : Nat → Int32) (o0_by_words : Nat → Int32) (o0_onward : Nat → Int32) (o0_tails : Nat → Int32) (o0_comesTo : Nat → Int32) (hok : fX7_draw x2 s0__size s0__told s0__whole s0__anyStuck s0__loudest s0_by__all s0_by__v s0_by__loss s0_by__result s0_by__over s0_by__heldAll s0_by__heldRounded s0_by_numbers s0_by_words s0_onward s0_tails s0_comesTo s1_numbers s1_words = some (o0__size, o0__told, o0__whole, o0__anyStuck, o0__loudest, o0_by__all, o0_by__v, o0_by__loss, o0_by__result, o0_by__over, o0_by__heldAll, o0_by__heldRounded, o0_by_numbers, o0_by_words, o0_onward, o0_tails, o0_comesTo)) : Ct l G cA ts yX7_draw wsX7_draw 6 149 [.ref h0, .ref h1, .int x2] (wm_X7_draw cA h0 h0_by h0_by_numbers h0_by_words h0_onward h0_tails h0_comesTo h1 h1_numbers h1_words s0__size s0__told s0__whole s0__anyStuck s0__loudest s0_by__all s0_by__v s0_by__loss s0_by__result s0_by__over s0_by__heldAll s0_by__heldRounded s0_by_numbers s0_by_words s0_onward s0_tails s0_comesTo s1__all s1__v s1__loss s1__result s1__over s1__heldAll s1__heldRounded s1_numbers s1_words) (wm_X7_draw cA h0 h0_by h0_by_numbers h0_by_words h0_onward h0_tails h0_comesTo h1 h1_numbers h1_words o0__size o0__told o0__whole o0__anyStuck o0__loudest o0_by__all o0_by__v o0_by__loss o0_by__result o0_by__over o0_by__heldAll o0_by__heldRounded o0_by_numbers o0_by_words o0_onward o0_tails o0_comesTo s1__all s1__v s1__loss s1__result s1__over s1__heldAll s1__heldRounded s1_numbers s1_words) none := by
  refine Ct.intro (cc := cX7_draw) (maxL := 4) (ret := none) (by decide +kernel) rfl (Nat.le_of_ble_eq_true rfl) ?_
  intro p e s m ar below meth c A Q hx hb hr hml hown hlocks hts hK hZ hA hQ hP hD hS ls hl
  have hown : s.vm.findClass RX7 = some m.cls := hown
  have hinX7 : ∀ w ∈ wsX70, w ∈ wsX7_draw := fun _ h => List.mem_cons_of_mem _ (List.mem_append_left _ (List.mem_append_right _ (h)))
  have hl : lv_has ls 4 [(0, .ref h0), (1, .ref h1), (2, .int x2)] := hl
  have hP : va_P G vwCl (wm_X7_draw cA h0 h0_by h0_by_numbers h0_by_words h0_onward h0_tails h0_comesTo h1 h1_numbers h1_words s0__size s0__told s0__whole s0__anyStuck s0__loudest s0_by__all s0_by__v s0_by__loss s0_by__result s0_by__over s0_by__heldAll s0_by__heldRounded s0_by_numbers s0_by_words s0_onward s0_tails s0_comesTo s1__all s1__v s1__loss s1__result s1__over s1__heldAll s1__heldRounded s1_numbers s1_words) s.heap := hP
  have hD : va_D A (wm_X7_draw cA h0 h0_by h0_by_numbers h0_by_words h0_onward h0_tails h0_comesTo h1 h1_numbers h1_words s0__size s0__told s0__whole s0__anyStuck s0__loudest s0_by__all s0_by__v s0_by__loss s0_by__result s0_by__over s0_by__heldAll s0_by__heldRounded s0_by_numbers s0_by_words s0_onward s0_tails s0_comesTo s1__all s1__v s1__loss s1__result s1__over s1__heldAll s1__heldRounded s1_numbers s1_words) := hD
  have L_35 : ∀ (n : Nat) (y3 : Int32) (c0__size : Int32) (c0__told : Int32) (c0__whole : Int32) (c0__anyStuck : Int32) (c0__loudest : Int32) (c0_by__all : Int32) (c0_by__v : Int32) (c0_by__loss : Int32) (c0_by__result : Int32) (c0_by__over : Int32) (c0_by__heldAll : Int32) (c0_by__heldRounded : Int32) (c0_by_numbers : Nat → Int32) (c0_by_words : Nat → Int32) (c0_onward : Nat → Int32) (c0_tails : Nat → Int32) (c0_comesTo : Nat → Int32) (p0_0 : Int32) (p0_1 : Int32) (p0_2 : Int32) (p0_3 : Int32) (p0_4 : Int32) (p0_5 : Int32) (p0_6 : Int32) (p0_7 : Int32) (p0_8 : Int32) (p0_9 : Nat → Int32) (p0_10 : Nat → Int32) (p0_11 : Nat → Int32) (p0_12 : Nat → Int32) (H : Heap) (locs : List Loc) (ls : Array Slot), va_P G vwCl (wm_X7_draw cA h0 h0_by h0_by_numbers h0_by_words h0_onward h0_tails h0_comesTo h1 h1_numbers h1_words c0__size c0__told c0__whole c0__anyStuck c0__loudest c0_by__all c0_by__v c0_by__loss c0_by__result c0_by__over c0_by__heldAll c0_by__heldRounded c0_by_numbers c0_by_words c0_onward c0_tails c0_comesTo s1__all s1__v s1__loss s1__result s1__over s1__heldAll s1__heldRounded s1_numbers s1_words) H → va_D A (wm_X7_draw cA h0 h0_by h0_by_numbers h0_by_words h0_onward h0_tails h0_comesTo h1 h1_numbers h1_words c0__size c0__told c0__whole c0__anyStuck c0__loudest c0_by__all c0_by__v c0_by__loss c0_by__result c0_by__over c0_by__heldAll c0_by__heldRounded c0_by_numbers c0_by_words c0_onward c0_tails c0_comesTo s1__all s1__v s1__loss s1__result s1__over s1__heldAll s1__heldRounded s1_numbers s1_words) → va_S A s.heap H locs → lv_has ls 4 [(0, .ref h0), (3, .int y3)] → fX7_draw_L35 x2 s1_numbers s1_words n y3 c0__size c0__told c0__whole c0__anyStuck c0__loudest c0_by__all c0_by__v c0_by__loss c0_by__result c0_by__over c0_by__heldAll c0_by__heldRounded c0_by_numbers c0_by_words c0_onward c0_tails c0_comesTo = some (p0_0, p0_1, p0_2, p0_3, p0_4, p0_5, p0_6, p0_7, p0_8, p0_9, p0_10, p0_11, p0_12) → (∀ (H : Heap) (locs : List Loc) (ls : Array Slot), va_P G vwCl (wm_X7_draw cA h0 h0_by h0_by_numbers h0_by_words h0_onward h0_tails h0_comesTo h1 h1_numbers h1_words c0__size c0__told c0__whole p0_0 p0_1 p0_2 p0_3 p0_4 p0_5 p0_6 p0_7 p0_8 c0_by_numbers p0_9 p0_10 p0_11 p0_12 s1__all s1__v s1__loss s1__result s1__over s1__heldAll s1__heldRounded s1_numbers s1_words) H → va_D A (wm_X7_draw cA h0 h0_by h0_by_numbers h0_by_words h0_onward h0_tails h0_comesTo h1 h1_numbers h1_words c0__size c0__told c0__whole p0_0 p0_1 p0_2 p0_3 p0_4 p0_5 p0_6 p0_7 p0_8 c0_by_numbers p0_9 p0_10 p0_11 p0_12 s1__all s1__v s1__loss s1__result s1__over s1__heldAll s1__heldRounded s1_numbers s1_words) → va_S A s.heap H locs → lv_has ls 4 [(0, .ref h0)] → W p l e (rmX 6 149) s m ar below meth c H locs 0 0 Q (F0 m 54 ls [])) → W p l e (rmX 6 149) s m ar below meth c H locs 0 0 Q (F0 m 35 ls []) := by
    intro n
    induction n with
    | zero =>
      intro y3 c0__size c0__told c0__whole c0__anyStuck c0__loudest c0_by__all c0_by__v c0_by__loss c0_by__result c0_by__over c0_by__heldAll c0_by__heldRounded c0_by_numbers c0_by_words c0_onward c0_tails c0_comesTo p0_0 p0_1 p0_2 p0_3 p0_4 p0_5 p0_6 p0_7 p0_8 p0_9 p0_10 p0_11 p0_12 H locs ls hP hD hS hl hok
      rw [fX7_draw_L35] at hok
      cases hok
    | succ n ih =>
      intro y3 c0__size c0__told c0__whole c0__anyStuck c0__loudest c0_by__all c0_by__v c0_by__loss c0_by__result c0_by__over c0_by__heldAll c0_by__heldRounded c0_by_numbers c0_by_words c0_onward c0_tails c0_comesTo p0_0 p0_1 p0_2 p0_3 p0_4 p0_5 p0_6 p0_7 p0_8 p0_9 p0_10 p0_11 p0_12 H locs ls hP hD hS hl hok K
      rw [fX7_draw_L35] at hok
      refine lv_iload_n hx hb dX7_draw_35 rfl (lv_at hl 1 rfl) ?_
      refine lv_aload_n hx hb dX7_draw_36 rfl (lv_at hl 0 rfl) ?_
      refine va_get (ci := 7) (v := .int c0__size) (C := RX7) (T := TX7) (N := 9) hx hb hts hinX7 hown hK hP 0 rfl rfl 4 (by decide) (hts _ (List.mem_of_getElem? (i := 4) rfl)) (fun _ h9 => h9) rfl dX7_draw_37 ?_
      refine lv_icmp_ge (tgt := 54) hx hb dX7_draw_40 (by decide) (fun c => ?_) (fun c => ?_)
      · replace hok := g_pos hok c
        cases hok
        exact K _ _ _ hP hD hS (lv_sub hl [0] rfl)
      replace hok := g_neg hok c
      refine lv_aload_n hx hb dX7_draw_43 rfl (lv_at hl 0 rfl) ?_
      refine lv_iload_n hx hb dX7_draw_44 rfl (lv_at hl 1 rfl) ?_
      obtain ⟨o9, o10, o11, o12, o13, o14, o15, o16, o17, o18, o19, o20, o21, hq, hok⟩ := g_bnd13 hok
      refine cG (is := [0, 1, 2, 3, 4, 5, 6]) (wc := (wm_X7_settle cA h0 h0_by h0_by_numbers h0_by_words h0_onward h0_tails h0_comesTo c0__size c0__told c0__whole c0__anyStuck c0__loudest c0_by__all c0_by__v c0_by__loss c0_by__result c0_by__over c0_by__heldAll c0_by__heldRounded c0_by_numbers c0_by_words c0_onward c0_tails c0_comesTo)) (w1 := (wm_X7_settle cA h0 h0_by h0_by_numbers h0_by_words h0_onward h0_tails h0_comesTo c0__size c0__told c0__whole o9 o10 o11 o12 o13 o14 o15 o16 o17 c0_by_numbers o18 o19 o20 o21)) (rv := none) (st1 := []) (va_runV (Ts := wsX7_draw) (As := [.int y3]) (rest := []) ⟨hx, hb, hml, hown, hts⟩ (c_X7_settle l G cA ts h0 h0_by h0_by_numbers h0_by_words h0_onward h0_tails h0_comesTo y3 c0__size c0__told c0__whole c0__anyStuck c0__loudest c0_by__all c0_by__v c0_by__loss c0_by__result c0_by__over c0_by__heldAll c0_by__heldRounded c0_by_numbers c0_by_words c0_onward c0_tails c0_comesTo o9 o10 o11 o12 o13 o14 o15 o16 o17 o18 o19 o20 o21 hq H.size) (cwV 1 hts gX7_draw_X7_settle rfl rfl rfl (by decide +kernel) ⟨Nat.le_of_ble_eq_true rfl, Nat.le_of_ble_eq_true rfl⟩) (pre_V (ci := 7) (q0 := 0) (is := [0, 1, 2, 3, 4, 5, 6]) rfl rfl hP hD hS hA hK hZ (by decide +kernel) (by rfl)) rfl rfl hl.1 rfl (by exact lv_room (Nat.le_of_ble_eq_true rfl)) dX7_draw_45 ⟨Nat.le_refl _, Nat.le_refl _⟩) hP hD hS hA (by decide +kernel) (by rfl) (by rfl) rfl (fun H locs hP hD hS => ?_)
      have hP : va_P G vwCl (wm_X7_draw cA h0 h0_by h0_by_numbers h0_by_words h0_onward h0_tails h0_comesTo h1 h1_numbers h1_words c0__size c0__told c0__whole o9 o10 o11 o12 o13 o14 o15 o16 o17 c0_by_numbers o18 o19 o20 o21 s1__all s1__v s1__loss s1__result s1__over s1__heldAll s1__heldRounded s1_numbers s1_words) H := hP
      have hD : va_D A (wm_X7_draw cA h0 h0_by h0_by_numbers h0_by_words h0_onward h0_tails h0_comesTo h1 h1_numbers h1_words c0__size c0__told c0__whole o9 o10 o11 o12 o13 o14 o15 o16 o17 c0_by_numbers o18 o19 o20 o21 s1__all s1__v s1__loss s1__result s1__over s1__heldAll s1__heldRounded s1_numbers s1_words) := hD
      refine lv_iinc (v := (y3 + 1)) (lv' := [(3, .int (y3 + 1)), (0, .ref h0)]) hx hb dX7_draw_48 hl (k := 1) rfl rfl (by decide) rfl (fun ls hl => ?_)
      refine lv_goto (tgt := 35) hx hb dX7_draw_51 (by decide) ?_
      exact ih (y3 + 1) c0__size c0__told c0__whole o9 o10 o11 o12 o13 o14 o15 o16 o17 c0_by_numbers o18 o19 o20 o21 p0_0 p0_1 p0_2 p0_3 p0_4 p0_5 p0_6 p0_7 p0_8 p0_9 p0_10 p0_11 p0_12 _ _ _ hP hD hS (lv_sub hl [1, 0] rfl) hok K
  have J_27 : ∀ (c0__size : Int32) (c0__told : Int32) (c0__whole : Int32) (c0__anyStuck : Int32) (c0__loudest : Int32) (c0_by__all : Int32) (c0_by__v : Int32) (c0_by__loss : Int32) (c0_by__result : Int32) (c0_by__over : Int32) (c0_by__heldAll : Int32) (c0_by__heldRounded : Int32) (c0_by_numbers : Nat → Int32) (c0_by_words : Nat → Int32) (c0_onward : Nat → Int32) (c0_tails : Nat → Int32) (c0_comesTo : Nat → Int32) (H : Heap) (locs : List Loc) (ls : Array Slot), va_P G vwCl (wm_X7_draw cA h0 h0_by h0_by_numbers h0_by_words h0_onward h0_tails h0_comesTo h1 h1_numbers h1_words c0__size c0__told c0__whole c0__anyStuck c0__loudest c0_by__all c0_by__v c0_by__loss c0_by__result c0_by__over c0_by__heldAll c0_by__heldRounded c0_by_numbers c0_by_words c0_onward c0_tails c0_comesTo s1__all s1__v s1__loss s1__result s1__over s1__heldAll s1__heldRounded s1_numbers s1_words) H → va_D A (wm_X7_draw cA h0 h0_by h0_by_numbers h0_by_words h0_onward h0_tails h0_comesTo h1 h1_numbers h1_words c0__size c0__told c0__whole c0__anyStuck c0__loudest c0_by__all c0_by__v c0_by__loss c0_by__result c0_by__over c0_by__heldAll c0_by__heldRounded c0_by_numbers c0_by_words c0_onward c0_tails c0_comesTo s1__all s1__v s1__loss s1__result s1__over s1__heldAll s1__heldRounded s1_numbers s1_words) → va_S A s.heap H locs → lv_has ls 4 [(0, .ref h0), (1, .ref h1), (2, .int x2)] → fX7_draw_j27 x2 s1_numbers s1_words c0__size c0__told c0__whole c0__anyStuck c0__loudest c0_by__all c0_by__v c0_by__loss c0_by__result c0_by__over c0_by__heldAll c0_by__heldRounded c0_by_numbers c0_by_words c0_onward c0_tails c0_comesTo = some (o0__size, o0__told, o0__whole, o0__anyStuck, o0__loudest, o0_by__all, o0_by__v, o0_by__loss, o0_by__result, o0_by__over, o0_by__heldAll, o0_by__heldRounded, o0_by_numbers, o0_by_words, o0_onward, o0_tails, o0_comesTo) → W p l e (rmX 6 149) s m ar below meth c H locs 0 0 Q (F0 m 27 ls []) := by
    intro c0__size c0__told c0__whole c0__anyStuck c0__loudest c0_by__all c0_by__v c0_by__loss c0_by__result c0_by__over c0_by__heldAll c0_by__heldRounded c0_by_numbers c0_by_words c0_onward c0_tails c0_comesTo H locs ls hP hD hS hl hok
    unfold fX7_draw_j27 at hok
    refine lv_aload_n hx hb dX7_draw_27 rfl (lv_at hl 0 rfl) ?_
    refine lv_aload_n hx hb dX7_draw_28 rfl (lv_at hl 1 rfl) ?_
    refine lv_iload_n hx hb dX7_draw_29 rfl (lv_at hl 2 rfl) ?_
    obtain ⟨o1, o2, o3, o4, o5, o6, o7, o8, hq, hok⟩ := g_bnd8 hok
    refine cG (is := [0, 1, 2, 3, 5, 7, 8, 9]) (wc := (wm_X7_begin cA h0 h0_by h0_by_numbers h0_by_words h0_tails h1 h1_numbers h1_words h0_onward h0_comesTo c0__size c0__told c0__whole c0__anyStuck c0__loudest c0_by__all c0_by__v c0_by__loss c0_by__result c0_by__over c0_by__heldAll c0_by__heldRounded c0_by_numbers c0_by_words c0_tails s1__all s1__v s1__loss s1__result s1__over s1__heldAll s1__heldRounded s1_numbers s1_words)) (w1 := (wm_X7_begin cA h0 h0_by h0_by_numbers h0_by_words h0_tails h1 h1_numbers h1_words h0_onward h0_comesTo o1 o2 o3 o4 o5 c0_by__all c0_by__v c0_by__loss c0_by__result c0_by__over c0_by__heldAll c0_by__heldRounded o6 o7 o8 s1__all s1__v s1__loss s1__result s1__over s1__heldAll s1__heldRounded s1_numbers s1_words)) (rv := none) (st1 := []) (va_runV (Ts := wsX7_draw) (As := [.ref h1, .int x2]) (rest := []) ⟨hx, hb, hml, hown, hts⟩ (c_X7_begin l G cA ts h0 h0_by h0_by_numbers h0_by_words h0_tails h1 h1_numbers h1_words h0_onward h0_comesTo x2 c0__size c0__told c0__whole c0__anyStuck c0__loudest c0_by__all c0_by__v c0_by__loss c0_by__result c0_by__over c0_by__heldAll c0_by__heldRounded c0_by_numbers c0_by_words c0_tails s1__all s1__v s1__loss s1__result s1__over s1__heldAll s1__heldRounded s1_numbers s1_words o1 o2 o3 o4 o5 o6 o7 o8 hq H.size) (cwV 2 hts gX7_draw_X7_begin rfl rfl rfl (by decide +kernel) ⟨Nat.le_of_ble_eq_true rfl, Nat.le_of_ble_eq_true rfl⟩) (pre_V (ci := 7) (q0 := 0) (is := [0, 1, 2, 3, 5, 7, 8, 9]) rfl rfl hP hD hS hA hK hZ (by decide +kernel) (by rfl)) rfl rfl hl.1 rfl (by exact lv_room (Nat.le_of_ble_eq_true rfl)) dX7_draw_30 ⟨Nat.le_refl _, Nat.le_refl _⟩) hP hD hS hA (by decide +kernel) (by rfl) (by rfl) rfl (fun H locs hP hD hS => ?_)
    have hP : va_P G vwCl (wm_X7_draw cA h0 h0_by h0_by_numbers h0_by_words h0_onward h0_tails h0_comesTo h1 h1_numbers h1_words o1 o2 o3 o4 o5 c0_by__all c0_by__v c0_by__loss c0_by__result c0_by__over c0_by__heldAll c0_by__heldRounded o6 o7 c0_onward o8 c0_comesTo s1__all s1__v s1__loss s1__result s1__over s1__heldAll s1__heldRounded s1_numbers s1_words) H := hP
    have hD : va_D A (wm_X7_draw cA h0 h0_by h0_by_numbers h0_by_words h0_onward h0_tails h0_comesTo h1 h1_numbers h1_words o1 o2 o3 o4 o5 c0_by__all c0_by__v c0_by__loss c0_by__result c0_by__over c0_by__heldAll c0_by__heldRounded o6 o7 c0_onward o8 c0_comesTo s1__all s1__v s1__loss s1__result s1__over s1__heldAll s1__heldRounded s1_numbers s1_words) := hD
    refine lv_iconst (v := 0) hx hb dX7_draw_33 (by decide) ?_
    refine lv_istore_n (lv' := [(3, .int (0:Int32)), (0, .ref h0), (1, .ref h1), (2, .int x2)]) hx hb dX7_draw_34 rfl hl (by decide) rfl (fun ls hl => ?_)
    obtain ⟨o22, o23, o24, o25, o26, o27, o28, o29, o30, o31, o32, o33, o34, hq, hok⟩ := g_bnd13 hok
    refine L_35 FUEL (0:Int32) o1 o2 o3 o4 o5 c0_by__all c0_by__v c0_by__loss c0_by__result c0_by__over c0_by__heldAll c0_by__heldRounded o6 o7 c0_onward o8 c0_comesTo o22 o23 o24 o25 o26 o27 o28 o29 o30 o31 o32 o33 o34 _ _ _ hP hD hS (lv_sub hl [1, 0] rfl) hq (fun H locs ls hP hD hS hl => ?_)
    refine lv_aload_n hx hb dX7_draw_54 rfl (lv_at hl 0 rfl) ?_
    refine lv_iconst (v := 1) hx hb dX7_draw_55 (by decide) ?_
    refine va_put (D := G) (ci := 7) (v := .int (1:Int32)) (ty := .boolean) (C := RX7) (T := TX7) (N := 9) hx hb hts hinX7 tyX7 tyX7_ok nmX7 hown hK hP hD hS 0 rfl rfl 6 (by decide) (hts _ (List.mem_of_getElem? (i := 1) rfl)) (fun _ h9 => h9) rfl (by decide +kernel) (by decide +kernel) (by decide +kernel) (Nat.le_of_ble_eq_true rfl) dX7_draw_56 (fun H locs hP hD hS => ?_)
    have hP : va_P G vwCl (wm_X7_draw cA h0 h0_by h0_by_numbers h0_by_words h0_onward h0_tails h0_comesTo h1 h1_numbers h1_words o1 o2 (1:Int32) o22 o23 o24 o25 o26 o27 o28 o29 o30 o6 o31 o32 o33 o34 s1__all s1__v s1__loss s1__result s1__over s1__heldAll s1__heldRounded s1_numbers s1_words) H := hP
    have hD : va_D A (wm_X7_draw cA h0 h0_by h0_by_numbers h0_by_words h0_onward h0_tails h0_comesTo h1 h1_numbers h1_words o1 o2 (1:Int32) o22 o23 o24 o25 o26 o27 o28 o29 o30 o6 o31 o32 o33 o34 s1__all s1__v s1__loss s1__result s1__over s1__heldAll s1__heldRounded s1_numbers s1_words) := hD
    obtain ⟨e, hok⟩ := g_pr hok
    try subst e
    obtain ⟨e, hok⟩ := g_pr hok
    try subst e
    obtain ⟨e, hok⟩ := g_pr hok
    try subst e
    obtain ⟨e, hok⟩ := g_pr hok
    try subst e
    obtain ⟨e, hok⟩ := g_pr hok
    try subst e
    obtain ⟨e, hok⟩ := g_pr hok
    try subst e
    obtain ⟨e, hok⟩ := g_pr hok
    try subst e
    obtain ⟨e, hok⟩ := g_pr hok
    try subst e
    obtain ⟨e, hok⟩ := g_pr hok
    try subst e
    obtain ⟨e, hok⟩ := g_pr hok
    try subst e
    obtain ⟨e, hok⟩ := g_pr hok
    try subst e
    obtain ⟨e, hok⟩ := g_pr hok
    try subst e
    obtain ⟨e, hok⟩ := g_pr hok
    try subst e
    obtain ⟨e, hok⟩ := g_pr hok
    try subst e
    obtain ⟨e, hok⟩ := g_pr hok
    try subst e
    obtain ⟨e, hok⟩ := g_pr hok
    try subst e
    cases hok
    exact cr_v hx hb hr hlocks hQ dX7_draw_59 hP hS
  unfold fX7_draw at hok
  refine lv_aload_n hx hb dX7_draw_0 rfl (lv_at hl 0 rfl) ?_
  refine va_get (ci := 7) (v := .int s0__whole) (C := RX7) (T := TX7) (N := 9) hx hb hts hinX7 hown hK hP 0 rfl rfl 6 (by decide) (hts _ (List.mem_of_getElem? (i := 1) rfl)) (fun _ h9 => h9) rfl dX7_draw_1 ?_
  refine lv_if_eq (tgt := 27) hx hb dX7_draw_4 (by decide) (fun c => ?_) (fun c => ?_)
  · replace hok := g_pos hok c
    exact J_27 s0__size s0__told s0__whole s0__anyStuck s0__loudest s0_by__all s0_by__v s0_by__loss s0_by__result s0_by__over s0_by__heldAll s0_by__heldRounded s0_by_numbers s0_by_words s0_onward s0_tails s0_comesTo _ _ _ hP hD hS (lv_sub hl [0, 1, 2] rfl) hok
  replace hok := g_neg hok c
  refine lv_aload_n hx hb dX7_draw_7 rfl (lv_at hl 0 rfl) ?_
  refine va_get (ci := 7) (v := .int s0__told) (C := RX7) (T := TX7) (N := 9) hx hb hts hinX7 hown hK hP 0 rfl rfl 5 (by decide) (hts _ (List.mem_of_getElem? (i := 2) rfl)) (fun _ h9 => h9) rfl dX7_draw_8 ?_
  refine lv_iload_n hx hb dX7_draw_11 rfl (lv_at hl 2 rfl) ?_
  refine lv_icmp_ne (tgt := 27) hx hb dX7_draw_12 (by decide) (fun c => ?_) (fun c => ?_)
  · replace hok := g_neg hok c
    exact J_27 s0__size s0__told s0__whole s0__anyStuck s0__loudest s0_by__all s0_by__v s0_by__loss s0_by__result s0_by__over s0_by__heldAll s0_by__heldRounded s0_by_numbers s0_by_words s0_onward s0_tails s0_comesTo _ _ _ hP hD hS (lv_sub hl [0, 1, 2] rfl) hok
  replace hok := g_pos hok c
  refine lv_aload_n hx hb dX7_draw_15 rfl (lv_at hl 0 rfl) ?_
  refine va_get (ci := 7) (v := .ref h0_by) (C := RX7) (T := TX7) (N := 9) hx hb hts hinX7 hown hK hP 0 rfl rfl 0 (by decide) (hts _ (List.mem_of_getElem? (i := 3) rfl)) (fun _ h9 => h9) rfl dX7_draw_16 ?_
  refine lv_aload_n hx hb dX7_draw_19 rfl (lv_at hl 1 rfl) ?_
  obtain ⟨r35, hq, hok⟩ := g_bnd1 hok
  refine cG (is := [1, 2, 7, 8]) (wc := (wm_X3_hasNumbersOf cA h0_by h0_by_numbers h1 h1_numbers h0_by_words h1_words s0_by__all s0_by__v s0_by__loss s0_by__result s0_by__over s0_by__heldAll s0_by__heldRounded s0_by_numbers s1__all s1__v s1__loss s1__result s1__over s1__heldAll s1__heldRounded s1_numbers)) (w1 := (wm_X3_hasNumbersOf cA h0_by h0_by_numbers h1 h1_numbers h0_by_words h1_words s0_by__all s0_by__v s0_by__loss s0_by__result s0_by__over s0_by__heldAll s0_by__heldRounded s0_by_numbers s1__all s1__v s1__loss s1__result s1__over s1__heldAll s1__heldRounded s1_numbers)) (rv := (some (.int r35))) (st1 := [.int r35]) (va_runV (Ts := wsX7_draw) (As := [.ref h1]) (rest := []) ⟨hx, hb, hml, hown, hts⟩ (c_X3_hasNumbersOf l G cA ts h0_by h0_by_numbers h1 h1_numbers h0_by_words h1_words s0_by__all s0_by__v s0_by__loss s0_by__result s0_by__over s0_by__heldAll s0_by__heldRounded s0_by_numbers s1__all s1__v s1__loss s1__result s1__over s1__heldAll s1__heldRounded s1_numbers r35 hq s.heap.size) (cwV 1 hts gX7_draw_X3_hasNumbersOf rfl rfl rfl (by decide +kernel) ⟨Nat.le_of_ble_eq_true rfl, Nat.le_of_ble_eq_true rfl⟩) (pre_V (ci := 3) (q0 := 1) (is := [1, 2, 7, 8]) rfl rfl hP hD hS hA hK hZ (by decide +kernel) (by rfl)) rfl rfl hl.1 rfl (by exact lv_room (Nat.le_of_ble_eq_true rfl)) dX7_draw_20 ⟨Nat.le_refl _, Nat.le_refl _⟩) hP hD hS hA (by decide +kernel) (by rfl) (by rfl) rfl (fun H locs hP hD hS => ?_)
  have hP : va_P G vwCl (wm_X7_draw cA h0 h0_by h0_by_numbers h0_by_words h0_onward h0_tails h0_comesTo h1 h1_numbers h1_words s0__size s0__told s0__whole s0__anyStuck s0__loudest s0_by__all s0_by__v s0_by__loss s0_by__result s0_by__over s0_by__heldAll s0_by__heldRounded s0_by_numbers s0_by_words s0_onward s0_tails s0_comesTo s1__all s1__v s1__loss s1__result s1__over s1__heldAll s1__heldRounded s1_numbers s1_words) H := hP
  have hD : va_D A (wm_X7_draw cA h0 h0_by h0_by_numbers h0_by_words h0_onward h0_tails h0_comesTo h1 h1_numbers h1_words s0__size s0__told s0__whole s0__anyStuck s0__loudest s0_by__all s0_by__v s0_by__loss s0_by__result s0_by__over s0_by__heldAll s0_by__heldRounded s0_by_numbers s0_by_words s0_onward s0_tails s0_comesTo s1__all s1__v s1__loss s1__result s1__over s1__heldAll s1__heldRounded s1_numbers s1_words) := hD
  refine lv_if_eq (tgt := 27) hx hb dX7_draw_23 (by decide) (fun c => ?_) (fun c => ?_)
  · replace hok := g_pos hok c
    exact J_27 s0__size s0__told s0__whole s0__anyStuck s0__loudest s0_by__all s0_by__v s0_by__loss s0_by__result s0_by__over s0_by__heldAll s0_by__heldRounded s0_by_numbers s0_by_words s0_onward s0_tails s0_comesTo _ _ _ hP hD hS (lv_sub hl [0, 1, 2] rfl) hok
  replace hok := g_neg hok c
  obtain ⟨e, hok⟩ := g_pr hok
  try subst e
  obtain ⟨e, hok⟩ := g_pr hok
  try subst e
  obtain ⟨e, hok⟩ := g_pr hok
  try subst e
  obtain ⟨e, hok⟩ := g_pr hok
  try subst e
  obtain ⟨e, hok⟩ := g_pr hok
  try subst e
  obtain ⟨e, hok⟩ := g_pr hok
  try subst e
  obtain ⟨e, hok⟩ := g_pr hok
  try subst e
  obtain ⟨e, hok⟩ := g_pr hok
  try subst e
  obtain ⟨e, hok⟩ := g_pr hok
  try subst e
  obtain ⟨e, hok⟩ := g_pr hok
  try subst e
  obtain ⟨e, hok⟩ := g_pr hok
  try subst e
  obtain ⟨e, hok⟩ := g_pr hok
  try subst e
  obtain ⟨e, hok⟩ := g_pr hok
  try subst e
  obtain ⟨e, hok⟩ := g_pr hok
  try subst e
  obtain ⟨e, hok⟩ := g_pr hok
  try subst e
  obtain ⟨e, hok⟩ := g_pr hok
  try subst e
  cases hok
  exact cr_v hx hb hr hlocks hQ dX7_draw_26 hP hS
set_option maxHeartbeats 40000000 in
set_option maxRecDepth 100000 in
theorem c_X7_staysWithin (l : Launch) (G : va_G) (cA : Nat → ClassId) (ts : Nat → Nat) (h0 : Nat) (h0_by : Nat) (h0_by_numbers : Nat) (h0_by_words : Nat) (h0_onward : Nat) (h0_tails : Nat) (h0_comesTo : Nat) (h1 : Nat) (h1_numbers : Nat) (h1_words : Nat) (x2 : Int32) (x3 : Int32) (s0__size : Int32) (s0__told : Int32) (s0__whole : Int32) (s0__anyStuck : Int32) (s0__loudest : Int32) (s0_by__all : Int32) (s0_by__v : Int32) (s0_by__loss : Int32) (s0_by__result : Int32) (s0_by__over : Int32) (s0_by__heldAll : Int32) (s0_by__heldRounded : Int32) (s0_by_numbers : Nat → Int32) (s0_by_words : Nat → Int32) (s0_onward : Nat → Int32) (s0_tails : Nat → Int32) (s0_comesTo : Nat → Int32) (s1__all : Int32) (s1__v : Int32) (s1__loss : Int32) (s1__result : Int32) (s1__over : Int32) (s1__heldAll : Int32) (s1__heldRounded : Int32) (s1_numbers : Nat → Int32) (s1_words : Nat → Int32) (r : Int32) (o0__size : Int32) (o0__told : Int32) (o0__whole : Int32) (o0__anyStuck : Int32) (o0__loudest : Int32) (o0_by__all : Int32) (o0_by__v : Int32) (o0_by__loss : Int32) (o0_by__result : Int32) (o0_by__over : Int32) (o0_by__heldAll : Int32) (o0_by__heldRounded : Int32) (o0_by_numbers : Nat → Int32) (o0_by_words : Nat → Int32) (o0_onward : Nat → Int32) (o0_tails : Nat → Int32) (o0_comesTo : Nat → Int32) (hok : fX7_staysWithin x2 x3 s0__size s0__told s0__whole s0__anyStuck s0__loudest s0_by__all s0_by__v s0_by__loss s0_by__result s0_by__over s0_by__heldAll s0_by__heldRounded s0_by_numbers s0_by_words s0_onward s0_tails s0_comesTo s1_numbers s1_words = some (r, o0__size, o0__told, o0__whole, o0__anyStuck, o0__loudest, o0_by__all, o0_by__v, o0_by__loss, o0_by__result, o0_by__over, o0_by__heldAll, o0_by__heldRounded, o0_by_numbers, o0_by_words, o0_onward, o0_tails, o0_comesTo)) : Ct l G cA ts yX7_staysWithin wsX7_staysWithin 6 149 [.ref h0, .ref h1, .int x2, .int x3] (wm_X7_draw cA h0 h0_by h0_by_numbers h0_by_words h0_onward h0_tails h0_comesTo h1 h1_numbers h1_words s0__size s0__told s0__whole s0__anyStuck s0__loudest s0_by__all s0_by__v s0_by__loss s0_by__result s0_by__over s0_by__heldAll s0_by__heldRounded s0_by_numbers s0_by_words s0_onward s0_tails s0_comesTo s1__all s1__v s1__loss s1__result s1__over s1__heldAll s1__heldRounded s1_numbers s1_words) (wm_X7_draw cA h0 h0_by h0_by_numbers h0_by_words h0_onward h0_tails h0_comesTo h1 h1_numbers h1_words o0__size o0__told o0__whole o0__anyStuck o0__loudest o0_by__all o0_by__v o0_by__loss o0_by__result o0_by__over o0_by__heldAll o0_by__heldRounded o0_by_numbers o0_by_words o0_onward o0_tails o0_comesTo s1__all s1__v s1__loss s1__result s1__over s1__heldAll s1__heldRounded s1_numbers s1_words) (some (.int r)) := by
  refine Ct.intro (cc := cX7_staysWithin) (maxL := 5) (ret := some .boolean) (by decide +kernel) rfl (Nat.le_of_ble_eq_true rfl) ?_
  intro p e s m ar below meth c A Q hx hb hr hml hown hlocks hts hK hZ hA hQ hP hD hS ls hl
  have hown : s.vm.findClass RX7 = some m.cls := hown
  have hinX7 : ∀ w ∈ wsX70, w ∈ wsX7_staysWithin := fun _ h => List.mem_cons_of_mem _ (List.mem_append_left _ (List.mem_append_right _ (h)))
  have hl : lv_has ls 5 [(0, .ref h0), (1, .ref h1), (2, .int x2), (3, .int x3)] := hl
  have hP : va_P G vwCl (wm_X7_draw cA h0 h0_by h0_by_numbers h0_by_words h0_onward h0_tails h0_comesTo h1 h1_numbers h1_words s0__size s0__told s0__whole s0__anyStuck s0__loudest s0_by__all s0_by__v s0_by__loss s0_by__result s0_by__over s0_by__heldAll s0_by__heldRounded s0_by_numbers s0_by_words s0_onward s0_tails s0_comesTo s1__all s1__v s1__loss s1__result s1__over s1__heldAll s1__heldRounded s1_numbers s1_words) s.heap := hP
  have hD : va_D A (wm_X7_draw cA h0 h0_by h0_by_numbers h0_by_words h0_onward h0_tails h0_comesTo h1 h1_numbers h1_words s0__size s0__told s0__whole s0__anyStuck s0__loudest s0_by__all s0_by__v s0_by__loss s0_by__result s0_by__over s0_by__heldAll s0_by__heldRounded s0_by_numbers s0_by_words s0_onward s0_tails s0_comesTo s1__all s1__v s1__loss s1__result s1__over s1__heldAll s1__heldRounded s1_numbers s1_words) := hD
  have L_9 : ∀ (n : Nat) (y4 : Int32) (c0__size : Int32) (c0__told : Int32) (c0__whole : Int32) (c0__anyStuck : Int32) (c0__loudest : Int32) (c0_by__all : Int32) (c0_by__v : Int32) (c0_by__loss : Int32) (c0_by__result : Int32) (c0_by__over : Int32) (c0_by__heldAll : Int32) (c0_by__heldRounded : Int32) (c0_by_numbers : Nat → Int32) (c0_by_words : Nat → Int32) (c0_onward : Nat → Int32) (c0_tails : Nat → Int32) (c0_comesTo : Nat → Int32) (oE : ((Int32) × (Int32) × (Int32) × (Int32) × (Int32) × (Int32) × (Int32) × (Int32) × (Int32) × (Nat → Int32) × (Nat → Int32) × (Nat → Int32) × (Nat → Int32)) ⊕ ((Int32) × (Int32) × (Int32) × (Int32) × (Int32) × (Int32) × (Int32) × (Int32) × (Int32) × (Nat → Int32) × (Nat → Int32) × (Nat → Int32) × (Nat → Int32))) (H : Heap) (locs : List Loc) (ls : Array Slot), va_P G vwCl (wm_X7_draw cA h0 h0_by h0_by_numbers h0_by_words h0_onward h0_tails h0_comesTo h1 h1_numbers h1_words c0__size c0__told c0__whole c0__anyStuck c0__loudest c0_by__all c0_by__v c0_by__loss c0_by__result c0_by__over c0_by__heldAll c0_by__heldRounded c0_by_numbers c0_by_words c0_onward c0_tails c0_comesTo s1__all s1__v s1__loss s1__result s1__over s1__heldAll s1__heldRounded s1_numbers s1_words) H → va_D A (wm_X7_draw cA h0 h0_by h0_by_numbers h0_by_words h0_onward h0_tails h0_comesTo h1 h1_numbers h1_words c0__size c0__told c0__whole c0__anyStuck c0__loudest c0_by__all c0_by__v c0_by__loss c0_by__result c0_by__over c0_by__heldAll c0_by__heldRounded c0_by_numbers c0_by_words c0_onward c0_tails c0_comesTo s1__all s1__v s1__loss s1__result s1__over s1__heldAll s1__heldRounded s1_numbers s1_words) → va_S A s.heap H locs → lv_has ls 5 [(0, .ref h0), (3, .int x3), (4, .int y4)] → fX7_staysWithin_L9 x2 x3 s1_numbers s1_words n y4 c0__size c0__told c0__whole c0__anyStuck c0__loudest c0_by__all c0_by__v c0_by__loss c0_by__result c0_by__over c0_by__heldAll c0_by__heldRounded c0_by_numbers c0_by_words c0_onward c0_tails c0_comesTo = some oE → (∀ (p0_0 : Int32) (p0_1 : Int32) (p0_2 : Int32) (p0_3 : Int32) (p0_4 : Int32) (p0_5 : Int32) (p0_6 : Int32) (p0_7 : Int32) (p0_8 : Int32) (p0_9 : Nat → Int32) (p0_10 : Nat → Int32) (p0_11 : Nat → Int32) (p0_12 : Nat → Int32), oE = .inl (p0_0, p0_1, p0_2, p0_3, p0_4, p0_5, p0_6, p0_7, p0_8, p0_9, p0_10, p0_11, p0_12) → ∀ (H : Heap) (locs : List Loc) (ls : Array Slot), va_P G vwCl (wm_X7_draw cA h0 h0_by h0_by_numbers h0_by_words h0_onward h0_tails h0_comesTo h1 h1_numbers h1_words c0__size c0__told c0__whole p0_0 p0_1 p0_2 p0_3 p0_4 p0_5 p0_6 p0_7 p0_8 c0_by_numbers p0_9 p0_10 p0_11 p0_12 s1__all s1__v s1__loss s1__result s1__over s1__heldAll s1__heldRounded s1_numbers s1_words) H → va_D A (wm_X7_draw cA h0 h0_by h0_by_numbers h0_by_words h0_onward h0_tails h0_comesTo h1 h1_numbers h1_words c0__size c0__told c0__whole p0_0 p0_1 p0_2 p0_3 p0_4 p0_5 p0_6 p0_7 p0_8 c0_by_numbers p0_9 p0_10 p0_11 p0_12 s1__all s1__v s1__loss s1__result s1__over s1__heldAll s1__heldRounded s1_numbers s1_words) → va_S A s.heap H locs → lv_has ls 5 [] → W p l e (rmX 6 149) s m ar below meth c H locs 0 0 Q (F0 m 39 ls [])) → (∀ (p1_0 : Int32) (p1_1 : Int32) (p1_2 : Int32) (p1_3 : Int32) (p1_4 : Int32) (p1_5 : Int32) (p1_6 : Int32) (p1_7 : Int32) (p1_8 : Int32) (p1_9 : Nat → Int32) (p1_10 : Nat → Int32) (p1_11 : Nat → Int32) (p1_12 : Nat → Int32), oE = .inr ((p1_0, p1_1, p1_2, p1_3, p1_4, p1_5, p1_6, p1_7, p1_8, p1_9, p1_10, p1_11, p1_12)) → ∀ (H : Heap) (locs : List Loc) (ls : Array Slot), va_P G vwCl (wm_X7_draw cA h0 h0_by h0_by_numbers h0_by_words h0_onward h0_tails h0_comesTo h1 h1_numbers h1_words c0__size c0__told c0__whole p1_0 p1_1 p1_2 p1_3 p1_4 p1_5 p1_6 p1_7 p1_8 c0_by_numbers p1_9 p1_10 p1_11 p1_12 s1__all s1__v s1__loss s1__result s1__over s1__heldAll s1__heldRounded s1_numbers s1_words) H → va_D A (wm_X7_draw cA h0 h0_by h0_by_numbers h0_by_words h0_onward h0_tails h0_comesTo h1 h1_numbers h1_words c0__size c0__told c0__whole p1_0 p1_1 p1_2 p1_3 p1_4 p1_5 p1_6 p1_7 p1_8 c0_by_numbers p1_9 p1_10 p1_11 p1_12 s1__all s1__v s1__loss s1__result s1__over s1__heldAll s1__heldRounded s1_numbers s1_words) → va_S A s.heap H locs → lv_has ls 5 [(0, .ref h0)] → W p l e (rmX 6 149) s m ar below meth c H locs 0 0 Q (F0 m 47 ls [])) → W p l e (rmX 6 149) s m ar below meth c H locs 0 0 Q (F0 m 9 ls []) := by
    intro n
    induction n with
    | zero =>
      intro y4 c0__size c0__told c0__whole c0__anyStuck c0__loudest c0_by__all c0_by__v c0_by__loss c0_by__result c0_by__over c0_by__heldAll c0_by__heldRounded c0_by_numbers c0_by_words c0_onward c0_tails c0_comesTo oE H locs ls hP hD hS hl hok
      rw [fX7_staysWithin_L9] at hok
      cases hok
    | succ n ih =>
      intro y4 c0__size c0__told c0__whole c0__anyStuck c0__loudest c0_by__all c0_by__v c0_by__loss c0_by__result c0_by__over c0_by__heldAll c0_by__heldRounded c0_by_numbers c0_by_words c0_onward c0_tails c0_comesTo oE H locs ls hP hD hS hl hok  K0 K1
      rw [fX7_staysWithin_L9] at hok
      refine lv_iload hx hb dX7_staysWithin_9 (lv_at hl 2 rfl) ?_
      refine lv_aload_n hx hb dX7_staysWithin_11 rfl (lv_at hl 0 rfl) ?_
      refine va_get (ci := 7) (v := .int c0__size) (C := RX7) (T := TX7) (N := 9) hx hb hts hinX7 hown hK hP 0 rfl rfl 4 (by decide) (hts _ (List.mem_of_getElem? (i := 1) rfl)) (fun _ h9 => h9) rfl dX7_staysWithin_12 ?_
      refine lv_icmp_ge (tgt := 47) hx hb dX7_staysWithin_15 (by decide) (fun c => ?_) (fun c => ?_)
      · replace hok := g_pos hok c
        cases hok
        exact K1 _ _ _ _ _ _ _ _ _ _ _ _ _ rfl _ _ _ hP hD hS (lv_sub hl [0] rfl)
      replace hok := g_neg hok c
      refine lv_aload_n hx hb dX7_staysWithin_18 rfl (lv_at hl 0 rfl) ?_
      refine lv_iload hx hb dX7_staysWithin_19 (lv_at hl 2 rfl) ?_
      obtain ⟨o9, o10, o11, o12, o13, o14, o15, o16, o17, o18, o19, o20, o21, hq, hok⟩ := g_bnd13 hok
      refine cG (is := [0, 1, 2, 3, 4, 5, 6]) (wc := (wm_X7_settle cA h0 h0_by h0_by_numbers h0_by_words h0_onward h0_tails h0_comesTo c0__size c0__told c0__whole c0__anyStuck c0__loudest c0_by__all c0_by__v c0_by__loss c0_by__result c0_by__over c0_by__heldAll c0_by__heldRounded c0_by_numbers c0_by_words c0_onward c0_tails c0_comesTo)) (w1 := (wm_X7_settle cA h0 h0_by h0_by_numbers h0_by_words h0_onward h0_tails h0_comesTo c0__size c0__told c0__whole o9 o10 o11 o12 o13 o14 o15 o16 o17 c0_by_numbers o18 o19 o20 o21)) (rv := none) (st1 := []) (va_runV (Ts := wsX7_staysWithin) (As := [.int y4]) (rest := []) ⟨hx, hb, hml, hown, hts⟩ (c_X7_settle l G cA ts h0 h0_by h0_by_numbers h0_by_words h0_onward h0_tails h0_comesTo y4 c0__size c0__told c0__whole c0__anyStuck c0__loudest c0_by__all c0_by__v c0_by__loss c0_by__result c0_by__over c0_by__heldAll c0_by__heldRounded c0_by_numbers c0_by_words c0_onward c0_tails c0_comesTo o9 o10 o11 o12 o13 o14 o15 o16 o17 o18 o19 o20 o21 hq H.size) (cwV 1 hts gX7_staysWithin_X7_settle rfl rfl rfl (by decide +kernel) ⟨Nat.le_of_ble_eq_true rfl, Nat.le_of_ble_eq_true rfl⟩) (pre_V (ci := 7) (q0 := 0) (is := [0, 1, 2, 3, 4, 5, 6]) rfl rfl hP hD hS hA hK hZ (by decide +kernel) (by rfl)) rfl rfl hl.1 rfl (by exact lv_room (Nat.le_of_ble_eq_true rfl)) dX7_staysWithin_21 ⟨Nat.le_refl _, Nat.le_refl _⟩) hP hD hS hA (by decide +kernel) (by rfl) (by rfl) rfl (fun H locs hP hD hS => ?_)
      have hP : va_P G vwCl (wm_X7_draw cA h0 h0_by h0_by_numbers h0_by_words h0_onward h0_tails h0_comesTo h1 h1_numbers h1_words c0__size c0__told c0__whole o9 o10 o11 o12 o13 o14 o15 o16 o17 c0_by_numbers o18 o19 o20 o21 s1__all s1__v s1__loss s1__result s1__over s1__heldAll s1__heldRounded s1_numbers s1_words) H := hP
      have hD : va_D A (wm_X7_draw cA h0 h0_by h0_by_numbers h0_by_words h0_onward h0_tails h0_comesTo h1 h1_numbers h1_words c0__size c0__told c0__whole o9 o10 o11 o12 o13 o14 o15 o16 o17 c0_by_numbers o18 o19 o20 o21 s1__all s1__v s1__loss s1__result s1__over s1__heldAll s1__heldRounded s1_numbers s1_words) := hD
      refine lv_aload_n hx hb dX7_staysWithin_24 rfl (lv_at hl 0 rfl) ?_
      refine va_get (ci := 7) (v := .int o9) (C := RX7) (T := TX7) (N := 9) hx hb hts hinX7 hown hK hP 0 rfl rfl 7 (by decide) (hts _ (List.mem_of_getElem? (i := 2) rfl)) (fun _ h9 => h9) rfl dX7_staysWithin_25 ?_
      refine lv_if_ne (tgt := 39) hx hb dX7_staysWithin_28 (by decide) (fun c => ?_) (fun c => ?_)
      · replace hok := g_neg hok c
        cases hok
        exact K0 _ _ _ _ _ _ _ _ _ _ _ _ _ rfl _ _ _ hP hD hS (lv_sub hl [] rfl)
      replace hok := g_pos hok c
      refine lv_aload_n hx hb dX7_staysWithin_31 rfl (lv_at hl 0 rfl) ?_
      refine va_get (ci := 7) (v := .int o10) (C := RX7) (T := TX7) (N := 9) hx hb hts hinX7 hown hK hP 0 rfl rfl 8 (by decide) (hts _ (List.mem_of_getElem? (i := 3) rfl)) (fun _ h9 => h9) rfl dX7_staysWithin_32 ?_
      refine lv_iload_n hx hb dX7_staysWithin_35 rfl (lv_at hl 1 rfl) ?_
      refine lv_icmp_le (tgt := 41) hx hb dX7_staysWithin_36 (by decide) (fun c => ?_) (fun c => ?_)
      · replace hok := g_pos hok c
        refine lv_iinc (v := (y4 + 1)) (lv' := [(4, .int (y4 + 1)), (0, .ref h0), (3, .int x3)]) hx hb dX7_staysWithin_41 hl (k := 2) rfl rfl (by decide) rfl (fun ls hl => ?_)
        refine lv_goto (tgt := 9) hx hb dX7_staysWithin_44 (by decide) ?_
        exact ih (y4 + 1) c0__size c0__told c0__whole o9 o10 o11 o12 o13 o14 o15 o16 o17 c0_by_numbers o18 o19 o20 o21 oE _ _ _ hP hD hS (lv_sub hl [1, 2, 0] rfl) hok K0 K1
      replace hok := g_neg hok c
      cases hok
      exact K0 _ _ _ _ _ _ _ _ _ _ _ _ _ rfl _ _ _ hP hD hS (lv_sub hl [] rfl)
  unfold fX7_staysWithin at hok
  refine lv_aload_n hx hb dX7_staysWithin_0 rfl (lv_at hl 0 rfl) ?_
  refine lv_aload_n hx hb dX7_staysWithin_1 rfl (lv_at hl 1 rfl) ?_
  refine lv_iload_n hx hb dX7_staysWithin_2 rfl (lv_at hl 2 rfl) ?_
  obtain ⟨o1, o2, o3, o4, o5, o6, o7, o8, hq, hok⟩ := g_bnd8 hok
  refine cG (is := [0, 1, 2, 3, 5, 7, 8, 9]) (wc := (wm_X7_begin cA h0 h0_by h0_by_numbers h0_by_words h0_tails h1 h1_numbers h1_words h0_onward h0_comesTo s0__size s0__told s0__whole s0__anyStuck s0__loudest s0_by__all s0_by__v s0_by__loss s0_by__result s0_by__over s0_by__heldAll s0_by__heldRounded s0_by_numbers s0_by_words s0_tails s1__all s1__v s1__loss s1__result s1__over s1__heldAll s1__heldRounded s1_numbers s1_words)) (w1 := (wm_X7_begin cA h0 h0_by h0_by_numbers h0_by_words h0_tails h1 h1_numbers h1_words h0_onward h0_comesTo o1 o2 o3 o4 o5 s0_by__all s0_by__v s0_by__loss s0_by__result s0_by__over s0_by__heldAll s0_by__heldRounded o6 o7 o8 s1__all s1__v s1__loss s1__result s1__over s1__heldAll s1__heldRounded s1_numbers s1_words)) (rv := none) (st1 := []) (va_runV (Ts := wsX7_staysWithin) (As := [.ref h1, .int x2]) (rest := []) ⟨hx, hb, hml, hown, hts⟩ (c_X7_begin l G cA ts h0 h0_by h0_by_numbers h0_by_words h0_tails h1 h1_numbers h1_words h0_onward h0_comesTo x2 s0__size s0__told s0__whole s0__anyStuck s0__loudest s0_by__all s0_by__v s0_by__loss s0_by__result s0_by__over s0_by__heldAll s0_by__heldRounded s0_by_numbers s0_by_words s0_tails s1__all s1__v s1__loss s1__result s1__over s1__heldAll s1__heldRounded s1_numbers s1_words o1 o2 o3 o4 o5 o6 o7 o8 hq s.heap.size) (cwV 2 hts gX7_staysWithin_X7_begin rfl rfl rfl (by decide +kernel) ⟨Nat.le_of_ble_eq_true rfl, Nat.le_of_ble_eq_true rfl⟩) (pre_V (ci := 7) (q0 := 0) (is := [0, 1, 2, 3, 5, 7, 8, 9]) rfl rfl hP hD hS hA hK hZ (by decide +kernel) (by rfl)) rfl rfl hl.1 rfl (by exact lv_room (Nat.le_of_ble_eq_true rfl)) dX7_staysWithin_3 ⟨Nat.le_refl _, Nat.le_refl _⟩) hP hD hS hA (by decide +kernel) (by rfl) (by rfl) rfl (fun H locs hP hD hS => ?_)
  have hP : va_P G vwCl (wm_X7_draw cA h0 h0_by h0_by_numbers h0_by_words h0_onward h0_tails h0_comesTo h1 h1_numbers h1_words o1 o2 o3 o4 o5 s0_by__all s0_by__v s0_by__loss s0_by__result s0_by__over s0_by__heldAll s0_by__heldRounded o6 o7 s0_onward o8 s0_comesTo s1__all s1__v s1__loss s1__result s1__over s1__heldAll s1__heldRounded s1_numbers s1_words) H := hP
  have hD : va_D A (wm_X7_draw cA h0 h0_by h0_by_numbers h0_by_words h0_onward h0_tails h0_comesTo h1 h1_numbers h1_words o1 o2 o3 o4 o5 s0_by__all s0_by__v s0_by__loss s0_by__result s0_by__over s0_by__heldAll s0_by__heldRounded o6 o7 s0_onward o8 s0_comesTo s1__all s1__v s1__loss s1__result s1__over s1__heldAll s1__heldRounded s1_numbers s1_words) := hD
  refine lv_iconst (v := 0) hx hb dX7_staysWithin_6 (by decide) ?_
  refine lv_istore (lv' := [(4, .int (0:Int32)), (0, .ref h0), (1, .ref h1), (2, .int x2), (3, .int x3)]) hx hb dX7_staysWithin_7 hl (by decide) rfl (fun ls hl => ?_)
  obtain ⟨o22, hq, hok⟩ := g_bnd1 hok
  refine L_9 FUEL (0:Int32) o1 o2 o3 o4 o5 s0_by__all s0_by__v s0_by__loss s0_by__result s0_by__over s0_by__heldAll s0_by__heldRounded o6 o7 s0_onward o8 s0_comesTo o22 _ _ _ hP hD hS (lv_sub hl [1, 4, 0] rfl) hq (fun p0_0 p0_1 p0_2 p0_3 p0_4 p0_5 p0_6 p0_7 p0_8 p0_9 p0_10 p0_11 p0_12 ho H locs ls hP hD hS hl => ?_) (fun p1_0 p1_1 p1_2 p1_3 p1_4 p1_5 p1_6 p1_7 p1_8 p1_9 p1_10 p1_11 p1_12 ho H locs ls hP hD hS hl => ?_)
  · subst ho
    replace hok := g_inl hok
    replace hok := g_c13 hok
    refine lv_iconst (v := 0) hx hb dX7_staysWithin_39 (by decide) ?_
    obtain ⟨e, hok⟩ := g_pr hok
    try subst e
    obtain ⟨e, hok⟩ := g_pr hok
    try subst e
    obtain ⟨e, hok⟩ := g_pr hok
    try subst e
    obtain ⟨e, hok⟩ := g_pr hok
    try subst e
    obtain ⟨e, hok⟩ := g_pr hok
    try subst e
    obtain ⟨e, hok⟩ := g_pr hok
    try subst e
    obtain ⟨e, hok⟩ := g_pr hok
    try subst e
    obtain ⟨e, hok⟩ := g_pr hok
    try subst e
    obtain ⟨e, hok⟩ := g_pr hok
    try subst e
    obtain ⟨e, hok⟩ := g_pr hok
    try subst e
    obtain ⟨e, hok⟩ := g_pr hok
    try subst e
    obtain ⟨e, hok⟩ := g_pr hok
    try subst e
    obtain ⟨e, hok⟩ := g_pr hok
    try subst e
    obtain ⟨e, hok⟩ := g_pr hok
    try subst e
    obtain ⟨e, hok⟩ := g_pr hok
    try subst e
    obtain ⟨e, hok⟩ := g_pr hok
    try subst e
    obtain ⟨e, hok⟩ := g_pr hok
    try subst e
    cases hok
    exact cr_z (ty := .boolean) (by decide +kernel) hx hb hr hlocks hQ dX7_staysWithin_40 hP hS
  subst ho
  replace hok := g_inr hok
  replace hok := g_c13 hok
  refine lv_aload_n hx hb dX7_staysWithin_47 rfl (lv_at hl 0 rfl) ?_
  refine lv_iconst (v := 1) hx hb dX7_staysWithin_48 (by decide) ?_
  refine va_put (D := G) (ci := 7) (v := .int (1:Int32)) (ty := .boolean) (C := RX7) (T := TX7) (N := 9) hx hb hts hinX7 tyX7 tyX7_ok nmX7 hown hK hP hD hS 0 rfl rfl 6 (by decide) (hts _ (List.mem_of_getElem? (i := 4) rfl)) (fun _ h9 => h9) rfl (by decide +kernel) (by decide +kernel) (by decide +kernel) (Nat.le_of_ble_eq_true rfl) dX7_staysWithin_49 (fun H locs hP hD hS => ?_)
  have hP : va_P G vwCl (wm_X7_draw cA h0 h0_by h0_by_numbers h0_by_words h0_onward h0_tails h0_comesTo h1 h1_numbers h1_words o1 o2 (1:Int32) p1_0 p1_1 p1_2 p1_3 p1_4 p1_5 p1_6 p1_7 p1_8 o6 p1_9 p1_10 p1_11 p1_12 s1__all s1__v s1__loss s1__result s1__over s1__heldAll s1__heldRounded s1_numbers s1_words) H := hP
  have hD : va_D A (wm_X7_draw cA h0 h0_by h0_by_numbers h0_by_words h0_onward h0_tails h0_comesTo h1 h1_numbers h1_words o1 o2 (1:Int32) p1_0 p1_1 p1_2 p1_3 p1_4 p1_5 p1_6 p1_7 p1_8 o6 p1_9 p1_10 p1_11 p1_12 s1__all s1__v s1__loss s1__result s1__over s1__heldAll s1__heldRounded s1_numbers s1_words) := hD
  refine lv_iconst (v := 1) hx hb dX7_staysWithin_52 (by decide) ?_
  obtain ⟨e, hok⟩ := g_pr hok
  try subst e
  obtain ⟨e, hok⟩ := g_pr hok
  try subst e
  obtain ⟨e, hok⟩ := g_pr hok
  try subst e
  obtain ⟨e, hok⟩ := g_pr hok
  try subst e
  obtain ⟨e, hok⟩ := g_pr hok
  try subst e
  obtain ⟨e, hok⟩ := g_pr hok
  try subst e
  obtain ⟨e, hok⟩ := g_pr hok
  try subst e
  obtain ⟨e, hok⟩ := g_pr hok
  try subst e
  obtain ⟨e, hok⟩ := g_pr hok
  try subst e
  obtain ⟨e, hok⟩ := g_pr hok
  try subst e
  obtain ⟨e, hok⟩ := g_pr hok
  try subst e
  obtain ⟨e, hok⟩ := g_pr hok
  try subst e
  obtain ⟨e, hok⟩ := g_pr hok
  try subst e
  obtain ⟨e, hok⟩ := g_pr hok
  try subst e
  obtain ⟨e, hok⟩ := g_pr hok
  try subst e
  obtain ⟨e, hok⟩ := g_pr hok
  try subst e
  obtain ⟨e, hok⟩ := g_pr hok
  try subst e
  cases hok
  exact cr_z (ty := .boolean) (by decide +kernel) hx hb hr hlocks hQ dX7_staysWithin_53 hP hS
