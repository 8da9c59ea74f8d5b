set_option maxHeartbeats 40000000 in
set_option maxRecDepth 100000 in
theorem c_X6_endsNumber (l : Launch) (G : va_G) (cA : Nat → ClassId) (ts : Nat → Nat) (h0 : Nat) (h0_bytes : Nat) (h0_letters : Nat) (h0_firsts : Nat) (h0_seconds : Nat) (s0__size : Int32) (s0__acts : Int32) (s0__state : Int32) (s0__numbersLeft : Int32) (s0__inSecond : Int32) (s0__isBelow : Int32) (r : Int32) (hok : fX6_endsNumber s0__state = some r) : Ct l G cA ts yX6_endsNumber wsX6_endsNumber 1 40 [.ref h0] (wm_X6_endsNumberWith cA h0 h0_bytes h0_letters h0_firsts h0_seconds s0__size s0__acts s0__state s0__numbersLeft s0__inSecond s0__isBelow) (wm_X6_endsNumberWith cA h0 h0_bytes h0_letters h0_firsts h0_seconds s0__size s0__acts s0__state s0__numbersLeft s0__inSecond s0__isBelow) (some (.int r)) := by
  refine Ct.intro (cc := cX6_endsNumber) (maxL := 1) (ret := some .boolean) (by decide +kernel) rfl (Nat.le_of_ble_eq_true rfl) ?_
  intro p e s m ar below meth c A Q hx hb hr hml hown hlocks hts hK hZ hA hQ hP hD hS ls hl
  have hown : s.vm.findClass RX6 = some m.cls := hown
  have hinX6 : ∀ w ∈ wsX60, w ∈ wsX6_endsNumber := fun _ h => List.mem_cons_of_mem _ (List.mem_append_right _ (h))
  have hl : lv_has ls 1 [(0, .ref h0)] := hl
  have hP : va_P G vwCl (wm_X6_endsNumberWith cA h0 h0_bytes h0_letters h0_firsts h0_seconds s0__size s0__acts s0__state s0__numbersLeft s0__inSecond s0__isBelow) s.heap := hP
  have hD : va_D A (wm_X6_endsNumberWith cA h0 h0_bytes h0_letters h0_firsts h0_seconds s0__size s0__acts s0__state s0__numbersLeft s0__inSecond s0__isBelow) := hD
  unfold fX6_endsNumber at hok
  refine lv_aload_n hx hb dX6_endsNumber_0 rfl (lv_at hl 0 rfl) ?_
  refine va_get (ci := 6) (v := .int s0__state) (C := RX6) (T := TX6) (N := 10) hx hb hts hinX6 hown hK hP 0 rfl rfl 6 (by decide) (hts _ (List.mem_of_getElem? (i := 1) rfl)) (fun _ h9 => h9) rfl dX6_endsNumber_1 ?_
  refine lv_iconst (v := 3) hx hb dX6_endsNumber_4 (by decide) ?_
  refine lv_icmp_eq (tgt := 16) hx hb dX6_endsNumber_5 (by decide) (fun c => ?_) (fun c => ?_)
  · replace hok := g_pos hok c
    refine lv_iconst (v := 1) hx hb dX6_endsNumber_16 (by decide) ?_
    refine lv_goto (tgt := 21) hx hb dX6_endsNumber_17 (by decide) ?_
    cases hok
    exact cr_z (ty := .boolean) (by decide +kernel) hx hb hr hlocks hQ dX6_endsNumber_21 hP hS
  replace hok := g_neg hok c
  refine lv_aload_n hx hb dX6_endsNumber_8 rfl (lv_at hl 0 rfl) ?_
  refine va_get (ci := 6) (v := .int s0__state) (C := RX6) (T := TX6) (N := 10) hx hb hts hinX6 hown hK hP 0 rfl rfl 6 (by decide) (hts _ (List.mem_of_getElem? (i := 1) rfl)) (fun _ h9 => h9) rfl dX6_endsNumber_9 ?_
  refine lv_iconst (v := 4) hx hb dX6_endsNumber_12 (by decide) ?_
  refine lv_icmp_ne (tgt := 20) hx hb dX6_endsNumber_13 (by decide) (fun c => ?_) (fun c => ?_)
  · replace hok := g_neg hok c
    refine lv_iconst (v := 0) hx hb dX6_endsNumber_20 (by decide) ?_
    cases hok
    exact cr_z (ty := .boolean) (by decide +kernel) hx hb hr hlocks hQ dX6_endsNumber_21 hP hS
  replace hok := g_pos hok c
  refine lv_iconst (v := 1) hx hb dX6_endsNumber_16 (by decide) ?_
  refine lv_goto (tgt := 21) hx hb dX6_endsNumber_17 (by decide) ?_
  cases hok
  exact cr_z (ty := .boolean) (by decide +kernel) hx hb hr hlocks hQ dX6_endsNumber_21 hP hS
set_option maxHeartbeats 40000000 in
set_option maxRecDepth 100000 in
theorem c_X6_findFault (l : Launch) (G : va_G) (cA : Nat → ClassId) (ts : Nat → Nat) (h0 : Nat) (h0_bytes : Nat) (h0_letters : Nat) (h0_firsts : Nat) (h0_seconds : Nat) (s0__size : Int32) (s0__acts : Int32) (s0__state : Int32) (s0__numbersLeft : Int32) (s0__inSecond : Int32) (s0__isBelow : Int32) (s0_bytes : Nat → Int32) (s0_letters : Nat → Int32) (s0_firsts : Nat → Int32) (s0_seconds : Nat → Int32) (r : Int32) (o0__acts : Int32) (o0__state : Int32) (o0__numbersLeft : Int32) (o0__inSecond : Int32) (o0__isBelow : Int32) (o0_letters : Nat → Int32) (o0_firsts : Nat → Int32) (o0_seconds : Nat → Int32) (hok : fX6_findFault s0__size s0__acts s0__state s0__numbersLeft s0__inSecond s0__isBelow s0_bytes s0_letters s0_firsts s0_seconds = some (r, o0__acts, o0__state, o0__numbersLeft, o0__inSecond, o0__isBelow, o0_letters, o0_firsts, o0_seconds)) : Ct l G cA ts yX6_findFault wsX6_findFault 7 189 [.ref h0] (wm_X6_findFault cA h0 h0_bytes h0_letters h0_firsts h0_seconds s0__size s0__acts s0__state s0__numbersLeft s0__inSecond s0__isBelow s0_bytes s0_letters s0_firsts s0_seconds) (wm_X6_findFault cA h0 h0_bytes h0_letters h0_firsts h0_seconds s0__size o0__acts o0__state o0__numbersLeft o0__inSecond o0__isBelow s0_bytes o0_letters o0_firsts o0_seconds) (some (.int r)) := by
  refine Ct.intro (cc := cX6_findFault) (maxL := 2) (ret := some .int) (by decide +kernel) rfl (Nat.le_of_ble_eq_true rfl) ?_
  intro p e s m ar below meth c A Q hx hb hr hml hown hlocks hts hK hZ hA hQ hP hD hS ls hl
  have hown : s.vm.findClass RX6 = some m.cls := hown
  have hinX6 : ∀ w ∈ wsX60, w ∈ wsX6_findFault := fun _ h => List.mem_cons_of_mem _ (List.mem_append_right _ (h))
  have hl : lv_has ls 2 [(0, .ref h0)] := hl
  have hP : va_P G vwCl (wm_X6_findFault cA h0 h0_bytes h0_letters h0_firsts h0_seconds s0__size s0__acts s0__state s0__numbersLeft s0__inSecond s0__isBelow s0_bytes s0_letters s0_firsts s0_seconds) s.heap := hP
  have hD : va_D A (wm_X6_findFault cA h0 h0_bytes h0_letters h0_firsts h0_seconds s0__size s0__acts s0__state s0__numbersLeft s0__inSecond s0__isBelow s0_bytes s0_letters s0_firsts s0_seconds) := hD
  have L_12 : ∀ (n : Nat) (y1 : Int32) (c0__acts : Int32) (c0__state : Int32) (c0__numbersLeft : Int32) (c0__inSecond : Int32) (c0__isBelow : Int32) (c0_letters : Nat → Int32) (c0_firsts : Nat → Int32) (c0_seconds : Nat → Int32) (oE : ((Int32) × (Int32) × (Int32) × (Int32) × (Int32) × (Int32) × (Nat → Int32) × (Nat → Int32) × (Nat → Int32)) ⊕ ((Int32) × (Int32) × (Int32) × (Int32) × (Int32) × (Nat → Int32) × (Nat → Int32) × (Nat → Int32))) (H : Heap) (locs : List Loc) (ls : Array Slot), va_P G vwCl (wm_X6_findFault cA h0 h0_bytes h0_letters h0_firsts h0_seconds s0__size c0__acts c0__state c0__numbersLeft c0__inSecond c0__isBelow s0_bytes c0_letters c0_firsts c0_seconds) H → va_D A (wm_X6_findFault cA h0 h0_bytes h0_letters h0_firsts h0_seconds s0__size c0__acts c0__state c0__numbersLeft c0__inSecond c0__isBelow s0_bytes c0_letters c0_firsts c0_seconds) → va_S A s.heap H locs → lv_has ls 2 [(0, .ref h0), (1, .int y1)] → fX6_findFault_L12 s0__size s0_bytes n y1 c0__acts c0__state c0__numbersLeft c0__inSecond c0__isBelow c0_letters c0_firsts c0_seconds = some oE → (∀ (p0_0 : Int32) (p0_1 : Int32) (p0_2 : Int32) (p0_3 : Int32) (p0_4 : Int32) (p0_5 : Int32) (p0_6 : Nat → Int32) (p0_7 : Nat → Int32) (p0_8 : Nat → Int32), oE = .inl (p0_0, p0_1, p0_2, p0_3, p0_4, p0_5, p0_6, p0_7, p0_8) → ∀ (H : Heap) (locs : List Loc) (ls : Array Slot), va_P G vwCl (wm_X6_findFault cA h0 h0_bytes h0_letters h0_firsts h0_seconds s0__size p0_1 p0_2 p0_3 p0_4 p0_5 s0_bytes p0_6 p0_7 p0_8) H → va_D A (wm_X6_findFault cA h0 h0_bytes h0_letters h0_firsts h0_seconds s0__size p0_1 p0_2 p0_3 p0_4 p0_5 s0_bytes p0_6 p0_7 p0_8) → va_S A s.heap H locs → lv_has ls 2 [(1, .int p0_0)] → W p l e (rmX 7 189) s m ar below meth c H locs 0 0 Q (F0 m 39 ls [])) → (∀ (p1_0 : Int32) (p1_1 : Int32) (p1_2 : Int32) (p1_3 : Int32) (p1_4 : Int32) (p1_5 : Nat → Int32) (p1_6 : Nat → Int32) (p1_7 : Nat → Int32), oE = .inr ((p1_0, p1_1, p1_2, p1_3, p1_4, p1_5, p1_6, p1_7)) → ∀ (H : Heap) (locs : List Loc) (ls : Array Slot), va_P G vwCl (wm_X6_findFault cA h0 h0_bytes h0_letters h0_firsts h0_seconds s0__size p1_0 p1_1 p1_2 p1_3 p1_4 s0_bytes p1_5 p1_6 p1_7) H → va_D A (wm_X6_findFault cA h0 h0_bytes h0_letters h0_firsts h0_seconds s0__size p1_0 p1_1 p1_2 p1_3 p1_4 s0_bytes p1_5 p1_6 p1_7) → va_S A s.heap H locs → lv_has ls 2 [(0, .ref h0)] → W p l e (rmX 7 189) s m ar below meth c H locs 0 0 Q (F0 m 47 ls [])) → W p l e (rmX 7 189) s m ar below meth c H locs 0 0 Q (F0 m 12 ls []) := by
    intro n
    induction n with
    | zero =>
      intro y1 c0__acts c0__state c0__numbersLeft c0__inSecond c0__isBelow c0_letters c0_firsts c0_seconds oE H locs ls hP hD hS hl hok
      rw [fX6_findFault_L12] at hok
      cases hok
    | succ n ih =>
      intro y1 c0__acts c0__state c0__numbersLeft c0__inSecond c0__isBelow c0_letters c0_firsts c0_seconds oE H locs ls hP hD hS hl hok  K0 K1
      rw [fX6_findFault_L12] at hok
      refine lv_iload_n hx hb dX6_findFault_12 rfl (lv_at hl 1 rfl) ?_
      refine lv_aload_n hx hb dX6_findFault_13 rfl (lv_at hl 0 rfl) ?_
      refine va_get (ci := 6) (v := .int s0__size) (C := RX6) (T := TX6) (N := 10) hx hb hts hinX6 hown hK hP 0 rfl rfl 1 (by decide) (hts _ (List.mem_of_getElem? (i := 3) rfl)) (fun _ h9 => h9) rfl dX6_findFault_14 ?_
      refine lv_icmp_ge (tgt := 47) hx hb dX6_findFault_17 (by decide) (fun c => ?_) (fun c => ?_)
      · replace hok := g_pos hok c
        cases hok
        exact K1 _ _ _ _ _ _ _ _ rfl _ _ _ hP hD hS (lv_sub hl [0] rfl)
      replace hok := g_neg hok c
      refine lv_iload_n hx hb dX6_findFault_20 rfl (lv_at hl 1 rfl) ?_
      refine lv_bipush (v := 80) hx hb dX6_findFault_21 (by decide) ?_
      refine lv_icmp_ge (tgt := 47) hx hb dX6_findFault_23 (by decide) (fun c => ?_) (fun c => ?_)
      · replace hok := g_pos hok c
        cases hok
        exact K1 _ _ _ _ _ _ _ _ rfl _ _ _ hP hD hS (lv_sub hl [0] rfl)
      replace hok := g_neg hok c
      refine lv_aload_n hx hb dX6_findFault_26 rfl (lv_at hl 0 rfl) ?_
      refine lv_aload_n hx hb dX6_findFault_27 rfl (lv_at hl 0 rfl) ?_
      refine va_get (ci := 6) (v := .ref h0_bytes) (C := RX6) (T := TX6) (N := 10) hx hb hts hinX6 hown hK hP 0 rfl rfl 0 (by decide) (hts _ (List.mem_of_getElem? (i := 4) rfl)) (fun _ h9 => h9) rfl dX6_findFault_28 ?_
      refine lv_iload_n hx hb dX6_findFault_31 rfl (lv_at hl 1 rfl) ?_
      obtain ⟨hin, hok⟩ := g_no hok
      refine x_bald (k := y1.toNatClampNeg) hx hb hK hP 1 2 rfl rfl hin rfl dX6_findFault_32 ?_
      obtain ⟨r1, o2, o3, o4, o5, o6, o7, o8, o9, hq, hok⟩ := g_bnd9 hok
      refine cG (is := [0, 2, 3, 4]) (wc := (wm_X6_beginsAct cA h0 h0_letters h0_firsts h0_seconds h0_bytes s0__size c0__acts c0__state c0__numbersLeft c0__inSecond c0__isBelow c0_letters c0_firsts c0_seconds)) (w1 := (wm_X6_beginsAct cA h0 h0_letters h0_firsts h0_seconds h0_bytes s0__size o2 o3 o4 o5 o6 o7 o8 o9)) (rv := (some (.int r1))) (st1 := [.int r1]) (va_runV (Ts := wsX6_findFault) (As := [.int (s0_bytes y1.toNatClampNeg)]) (rest := []) ⟨hx, hb, hml, hown, hts⟩ (c_X6_goesOnWith l G cA ts h0 h0_letters h0_firsts h0_seconds h0_bytes (s0_bytes y1.toNatClampNeg) s0__size c0__acts c0__state c0__numbersLeft c0__inSecond c0__isBelow c0_letters c0_firsts c0_seconds r1 o2 o3 o4 o5 o6 o7 o8 o9 hq H.size) (cwV 1 hts gX6_findFault_X6_goesOnWith rfl rfl rfl (by decide +kernel) ⟨Nat.le_of_ble_eq_true rfl, Nat.le_of_ble_eq_true rfl⟩) (pre_V (ci := 6) (q0 := 0) (is := [0, 2, 3, 4]) rfl rfl hP hD hS hA hK hZ (by decide +kernel) (by rfl)) rfl rfl hl.1 rfl (by exact lv_room (Nat.le_of_ble_eq_true rfl)) dX6_findFault_33 ⟨Nat.le_refl _, Nat.le_refl _⟩) hP hD hS hA (by decide +kernel) (by rfl) (by rfl) rfl (fun H locs hP hD hS => ?_)
      have hP : va_P G vwCl (wm_X6_findFault cA h0 h0_bytes h0_letters h0_firsts h0_seconds s0__size o2 o3 o4 o5 o6 s0_bytes o7 o8 o9) H := hP
      have hD : va_D A (wm_X6_findFault cA h0 h0_bytes h0_letters h0_firsts h0_seconds s0__size o2 o3 o4 o5 o6 s0_bytes o7 o8 o9) := hD
      refine lv_if_ne (tgt := 41) hx hb dX6_findFault_36 (by decide) (fun c => ?_) (fun c => ?_)
      · replace hok := g_neg hok c
        refine lv_iinc (v := (y1 + 1)) (lv' := [(1, .int (y1 + 1)), (0, .ref h0)]) hx hb dX6_findFault_41 hl (k := 1) rfl rfl (by decide) rfl (fun ls hl => ?_)
        refine lv_goto (tgt := 12) hx hb dX6_findFault_44 (by decide) ?_
        exact ih (y1 + 1) o2 o3 o4 o5 o6 o7 o8 o9 oE _ _ _ hP hD hS (lv_sub hl [1, 0] rfl) hok K0 K1
      replace hok := g_pos hok c
      cases hok
      exact K0 _ _ _ _ _ _ _ _ _ rfl _ _ _ hP hD hS (lv_sub hl [1] rfl)
  have J_47 : ∀ (c0__acts : Int32) (c0__state : Int32) (c0__numbersLeft : Int32) (c0__inSecond : Int32) (c0__isBelow : Int32) (c0_letters : Nat → Int32) (c0_firsts : Nat → Int32) (c0_seconds : Nat → Int32) (H : Heap) (locs : List Loc) (ls : Array Slot), va_P G vwCl (wm_X6_findFault cA h0 h0_bytes h0_letters h0_firsts h0_seconds s0__size c0__acts c0__state c0__numbersLeft c0__inSecond c0__isBelow s0_bytes c0_letters c0_firsts c0_seconds) H → va_D A (wm_X6_findFault cA h0 h0_bytes h0_letters h0_firsts h0_seconds s0__size c0__acts c0__state c0__numbersLeft c0__inSecond c0__isBelow s0_bytes c0_letters c0_firsts c0_seconds) → va_S A s.heap H locs → lv_has ls 2 [(0, .ref h0)] → fX6_findFault_j47 s0__size s0_bytes c0__acts c0__state c0__numbersLeft c0__inSecond c0__isBelow c0_letters c0_firsts c0_seconds = some (r, o0__acts, o0__state, o0__numbersLeft, o0__inSecond, o0__isBelow, o0_letters, o0_firsts, o0_seconds) → W p l e (rmX 7 189) s m ar below meth c H locs 0 0 Q (F0 m 47 ls []) := by
    intro c0__acts c0__state c0__numbersLeft c0__inSecond c0__isBelow c0_letters c0_firsts c0_seconds H locs ls hP hD hS hl hok
    unfold fX6_findFault_j47 at hok
    refine lv_aload_n hx hb dX6_findFault_47 rfl (lv_at hl 0 rfl) ?_
    obtain ⟨r11, hq, hok⟩ := g_bnd1 hok
    refine cG (is := [0]) (wc := (wm_X6_endsNumberWith cA h0 h0_bytes h0_letters h0_firsts h0_seconds s0__size c0__acts c0__state c0__numbersLeft c0__inSecond c0__isBelow)) (w1 := (wm_X6_endsNumberWith cA h0 h0_bytes h0_letters h0_firsts h0_seconds s0__size c0__acts c0__state c0__numbersLeft c0__inSecond c0__isBelow)) (rv := (some (.int r11))) (st1 := [.int r11]) (va_runV (Ts := wsX6_findFault) (As := []) (rest := []) ⟨hx, hb, hml, hown, hts⟩ (c_X6_endsNumber l G cA ts h0 h0_bytes h0_letters h0_firsts h0_seconds s0__size c0__acts c0__state c0__numbersLeft c0__inSecond c0__isBelow r11 hq H.size) (cwV 0 hts gX6_findFault_X6_endsNumber rfl rfl rfl (by decide +kernel) ⟨Nat.le_of_ble_eq_true rfl, Nat.le_of_ble_eq_true rfl⟩) (pre_V (ci := 6) (q0 := 0) (is := [0]) rfl rfl hP hD hS hA hK hZ (by decide +kernel) (by rfl)) rfl rfl hl.1 rfl (by exact lv_room (Nat.le_of_ble_eq_true rfl)) dX6_findFault_48 ⟨Nat.le_refl _, Nat.le_refl _⟩) hP hD hS hA (by decide +kernel) (by rfl) (by rfl) rfl (fun H locs hP hD hS => ?_)
    have hP : va_P G vwCl (wm_X6_findFault cA h0 h0_bytes h0_letters h0_firsts h0_seconds s0__size c0__acts c0__state c0__numbersLeft c0__inSecond c0__isBelow s0_bytes c0_letters c0_firsts c0_seconds) H := hP
    have hD : va_D A (wm_X6_findFault cA h0 h0_bytes h0_letters h0_firsts h0_seconds s0__size c0__acts c0__state c0__numbersLeft c0__inSecond c0__isBelow s0_bytes c0_letters c0_firsts c0_seconds) := hD
    refine lv_if_eq (tgt := 65) hx hb dX6_findFault_51 (by decide) (fun c => ?_) (fun c => ?_)
    · replace hok := g_pos hok c
      refine lv_aload_n hx hb dX6_findFault_65 rfl (lv_at hl 0 rfl) ?_
      refine va_get (ci := 6) (v := .int s0__size) (C := RX6) (T := TX6) (N := 10) hx hb hts hinX6 hown hK hP 0 rfl rfl 1 (by decide) (hts _ (List.mem_of_getElem? (i := 3) rfl)) (fun _ h9 => h9) rfl dX6_findFault_66 ?_
      cases hok
      exact cr_i hx hb hr hlocks hQ dX6_findFault_69 hP hS
    replace hok := g_neg hok c
    refine lv_aload_n hx hb dX6_findFault_54 rfl (lv_at hl 0 rfl) ?_
    refine va_get (ci := 6) (v := .int c0__numbersLeft) (C := RX6) (T := TX6) (N := 10) hx hb hts hinX6 hown hK hP 0 rfl rfl 7 (by decide) (hts _ (List.mem_of_getElem? (i := 5) rfl)) (fun _ h9 => h9) rfl dX6_findFault_55 ?_
    refine lv_if_ne (tgt := 65) hx hb dX6_findFault_58 (by decide) (fun c => ?_) (fun c => ?_)
    · replace hok := g_neg hok c
      refine lv_aload_n hx hb dX6_findFault_65 rfl (lv_at hl 0 rfl) ?_
      refine va_get (ci := 6) (v := .int s0__size) (C := RX6) (T := TX6) (N := 10) hx hb hts hinX6 hown hK hP 0 rfl rfl 1 (by decide) (hts _ (List.mem_of_getElem? (i := 3) rfl)) (fun _ h9 => h9) rfl dX6_findFault_66 ?_
      cases hok
      exact cr_i hx hb hr hlocks hQ dX6_findFault_69 hP hS
    replace hok := g_pos hok c
    refine lv_iconst (v := -1) hx hb dX6_findFault_61 (by decide) ?_
    refine lv_goto (tgt := 69) hx hb dX6_findFault_62 (by decide) ?_
    cases hok
    exact cr_i hx hb hr hlocks hQ dX6_findFault_69 hP hS
  unfold fX6_findFault at hok
  refine lv_aload_n hx hb dX6_findFault_0 rfl (lv_at hl 0 rfl) ?_
  refine lv_iconst (v := 0) hx hb dX6_findFault_1 (by decide) ?_
  refine va_put (D := G) (ci := 6) (v := .int (0:Int32)) (ty := .int) (C := RX6) (T := TX6) (N := 10) hx hb hts hinX6 tyX6 tyX6_ok nmX6 hown hK hP hD hS 0 rfl rfl 5 (by decide) (hts _ (List.mem_of_getElem? (i := 1) rfl)) (fun _ h9 => h9) rfl (by decide +kernel) rfl rfl (Nat.le_of_ble_eq_true rfl) dX6_findFault_2 (fun H locs hP hD hS => ?_)
  have hP : va_P G vwCl (wm_X6_findFault cA h0 h0_bytes h0_letters h0_firsts h0_seconds s0__size (0:Int32) s0__state s0__numbersLeft s0__inSecond s0__isBelow s0_bytes s0_letters s0_firsts s0_seconds) H := hP
  have hD : va_D A (wm_X6_findFault cA h0 h0_bytes h0_letters h0_firsts h0_seconds s0__size (0:Int32) s0__state s0__numbersLeft s0__inSecond s0__isBelow s0_bytes s0_letters s0_firsts s0_seconds) := hD
  refine lv_aload_n hx hb dX6_findFault_5 rfl (lv_at hl 0 rfl) ?_
  refine lv_iconst (v := 0) hx hb dX6_findFault_6 (by decide) ?_
  refine va_put (D := G) (ci := 6) (v := .int (0:Int32)) (ty := .int) (C := RX6) (T := TX6) (N := 10) hx hb hts hinX6 tyX6 tyX6_ok nmX6 hown hK hP hD hS 0 rfl rfl 6 (by decide) (hts _ (List.mem_of_getElem? (i := 2) rfl)) (fun _ h9 => h9) rfl (by decide +kernel) rfl rfl (Nat.le_of_ble_eq_true rfl) dX6_findFault_7 (fun H locs hP hD hS => ?_)
  have hP : va_P G vwCl (wm_X6_findFault cA h0 h0_bytes h0_letters h0_firsts h0_seconds s0__size (0:Int32) (0:Int32) s0__numbersLeft s0__inSecond s0__isBelow s0_bytes s0_letters s0_firsts s0_seconds) H := hP
  have hD : va_D A (wm_X6_findFault cA h0 h0_bytes h0_letters h0_firsts h0_seconds s0__size (0:Int32) (0:Int32) s0__numbersLeft s0__inSecond s0__isBelow s0_bytes s0_letters s0_firsts s0_seconds) := hD
  refine lv_iconst (v := 0) hx hb dX6_findFault_10 (by decide) ?_
  refine lv_istore_n (lv' := [(1, .int (0:Int32)), (0, .ref h0)]) hx hb dX6_findFault_11 rfl hl (by decide) rfl (fun ls hl => ?_)
  obtain ⟨o10, hq, hok⟩ := g_bnd1 hok
  refine L_12 FUEL (0:Int32) (0:Int32) (0:Int32) s0__numbersLeft s0__inSecond s0__isBelow s0_letters s0_firsts s0_seconds o10 _ _ _ hP hD hS (lv_sub hl [1, 0] rfl) hq (fun p0_0 p0_1 p0_2 p0_3 p0_4 p0_5 p0_6 p0_7 p0_8 ho H locs ls hP hD hS hl => ?_) (fun p1_0 p1_1 p1_2 p1_3 p1_4 p1_5 p1_6 p1_7 ho H locs ls hP hD hS hl => ?_)
  · subst ho
    replace hok := g_inl hok
    replace hok := g_c9 hok
    refine lv_iload_n hx hb dX6_findFault_39 rfl (lv_at hl 0 rfl) ?_
    cases hok
    exact cr_i hx hb hr hlocks hQ dX6_findFault_40 hP hS
  subst ho
  replace hok := g_inr hok
  replace hok := g_c8 hok
  exact J_47 p1_0 p1_1 p1_2 p1_3 p1_4 p1_5 p1_6 p1_7 _ _ _ hP hD hS (lv_sub hl [0] rfl) hok
