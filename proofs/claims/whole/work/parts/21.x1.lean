set_option maxHeartbeats 40000000 in
set_option maxRecDepth 100000 in
theorem c_X1_dropEldest (l : Launch) (G : va_G) (cA : Nat → ClassId) (ts : Nat → Nat) (h0 : Nat) (h0_slots : Nat) (h0_olds : Nat) (h0_news : Nat) (s0__done : Int32) (s0__undone : Int32) (s0_slots : Nat → Int32) (s0_olds : Nat → Int32) (s0_news : Nat → Int32) (o0__done : Int32) (o0_slots : Nat → Int32) (o0_olds : Nat → Int32) (o0_news : Nat → Int32) (hok : fX1_dropEldest s0__done s0_slots s0_olds s0_news = some (o0__done, o0_slots, o0_olds, o0_news)) : Ct l G cA ts yX1_dropEldest wsX1_dropEldest 1 40 [.ref h0] (wm_X1_dropEldest cA h0 h0_slots h0_olds h0_news s0__done s0__undone s0_slots s0_olds s0_news) (wm_X1_dropEldest cA h0 h0_slots h0_olds h0_news o0__done s0__undone o0_slots o0_olds o0_news) none := by
  refine Ct.intro (cc := cX1_dropEldest) (maxL := 2) (ret := none) (by decide +kernel) rfl (Nat.le_of_ble_eq_true rfl) ?_
  intro p e s m ar below meth c A Q hx hb hr hml hown hlocks hts hK hZ hA hQ hP hD hS ls hl
  have hown : s.vm.findClass RX1 = some m.cls := hown
  have hinX1 : ∀ w ∈ wsX10, w ∈ wsX1_dropEldest := fun _ h => List.mem_cons_of_mem _ (List.mem_append_right _ (h))
  have hl : lv_has ls 2 [(0, .ref h0)] := hl
  have hP : va_P G vwCl (wm_X1_dropEldest cA h0 h0_slots h0_olds h0_news s0__done s0__undone s0_slots s0_olds s0_news) s.heap := hP
  have hD : va_D A (wm_X1_dropEldest cA h0 h0_slots h0_olds h0_news s0__done s0__undone s0_slots s0_olds s0_news) := hD
  have L_2 : ∀ (n : Nat) (y1 : Int32) (c0__done : Int32) (c0_slots : Nat → Int32) (c0_olds : Nat → Int32) (c0_news : Nat → Int32) (p0_0 : Nat → Int32) (p0_1 : Nat → Int32) (p0_2 : Nat → Int32) (H : Heap) (locs : List Loc) (ls : Array Slot), va_P G vwCl (wm_X1_dropEldest cA h0 h0_slots h0_olds h0_news c0__done s0__undone c0_slots c0_olds c0_news) H → va_D A (wm_X1_dropEldest cA h0 h0_slots h0_olds h0_news c0__done s0__undone c0_slots c0_olds c0_news) → va_S A s.heap H locs → lv_has ls 2 [(0, .ref h0), (1, .int y1)] → fX1_dropEldest_L2  n y1 c0__done c0_slots c0_olds c0_news = some (p0_0, p0_1, p0_2) → (∀ (H : Heap) (locs : List Loc) (ls : Array Slot), va_P G vwCl (wm_X1_dropEldest cA h0 h0_slots h0_olds h0_news c0__done s0__undone p0_0 p0_1 p0_2) H → va_D A (wm_X1_dropEldest cA h0 h0_slots h0_olds h0_news c0__done s0__undone p0_0 p0_1 p0_2) → va_S A s.heap H locs → lv_has ls 2 [(0, .ref h0)] → W p l e (rmX 1 40) s m ar below meth c H locs 0 0 Q (F0 m 56 ls [])) → W p l e (rmX 1 40) s m ar below meth c H locs 0 0 Q (F0 m 2 ls []) := by
    intro n
    induction n with
    | zero =>
      intro y1 c0__done c0_slots c0_olds c0_news p0_0 p0_1 p0_2 H locs ls hP hD hS hl hok
      rw [fX1_dropEldest_L2] at hok
      cases hok
    | succ n ih =>
      intro y1 c0__done c0_slots c0_olds c0_news p0_0 p0_1 p0_2 H locs ls hP hD hS hl hok K
      rw [fX1_dropEldest_L2] at hok
      refine lv_iload_n hx hb dX1_dropEldest_2 rfl (lv_at hl 1 rfl) ?_
      refine lv_bipush (v := 12) hx hb dX1_dropEldest_3 (by decide) ?_
      refine lv_icmp_ge (tgt := 56) hx hb dX1_dropEldest_5 (by decide) (fun c => ?_) (fun c => ?_)
      · replace hok := g_pos hok c
        cases hok
        exact K _ _ _ hP hD hS (lv_sub hl [0] rfl)
      replace hok := g_neg hok c
      refine lv_aload_n hx hb dX1_dropEldest_8 rfl (lv_at hl 0 rfl) ?_
      refine va_get (ci := 1) (v := .ref h0_slots) (C := RX1) (T := TX1) (N := 5) hx hb hts hinX1 hown hK hP 0 rfl rfl 0 (by decide) (hts _ (List.mem_of_getElem? (i := 1) rfl)) (fun _ h9 => h9) rfl dX1_dropEldest_9 ?_
      refine lv_iload_n hx hb dX1_dropEldest_12 rfl (lv_at hl 1 rfl) ?_
      refine lv_iconst (v := 1) hx hb dX1_dropEldest_13 (by decide) ?_
      refine lv_isub hx hb dX1_dropEldest_14 ?_
      refine lv_aload_n hx hb dX1_dropEldest_15 rfl (lv_at hl 0 rfl) ?_
      refine va_get (ci := 1) (v := .ref h0_slots) (C := RX1) (T := TX1) (N := 5) hx hb hts hinX1 hown hK hP 0 rfl rfl 0 (by decide) (hts _ (List.mem_of_getElem? (i := 1) rfl)) (fun _ h9 => h9) rfl dX1_dropEldest_16 ?_
      refine lv_iload_n hx hb dX1_dropEldest_19 rfl (lv_at hl 1 rfl) ?_
      obtain ⟨hin, hok⟩ := g_no hok
      refine x_iald (k := y1.toNatClampNeg) hx hb hK hP 1 0 rfl rfl hin rfl dX1_dropEldest_20 ?_
      obtain ⟨hin, hok⟩ := g_no hok
      refine x_iast (k := (y1 - (1:Int32)).toNatClampNeg) hx hb hK hP hD hS 1 0 rfl rfl hin rfl dX1_dropEldest_21 (fun H locs hP hD hS => ?_)
      have hP : va_P G vwCl (wm_X1_dropEldest cA h0 h0_slots h0_olds h0_news c0__done s0__undone (upd c0_slots (y1 - (1:Int32)).toNatClampNeg (c0_slots y1.toNatClampNeg)) c0_olds c0_news) H := hP
      have hD : va_D A (wm_X1_dropEldest cA h0 h0_slots h0_olds h0_news c0__done s0__undone (upd c0_slots (y1 - (1:Int32)).toNatClampNeg (c0_slots y1.toNatClampNeg)) c0_olds c0_news) := hD
      refine lv_aload_n hx hb dX1_dropEldest_22 rfl (lv_at hl 0 rfl) ?_
      refine va_get (ci := 1) (v := .ref h0_olds) (C := RX1) (T := TX1) (N := 5) hx hb hts hinX1 hown hK hP 0 rfl rfl 1 (by decide) (hts _ (List.mem_of_getElem? (i := 2) rfl)) (fun _ h9 => h9) rfl dX1_dropEldest_23 ?_
      refine lv_iload_n hx hb dX1_dropEldest_26 rfl (lv_at hl 1 rfl) ?_
      refine lv_iconst (v := 1) hx hb dX1_dropEldest_27 (by decide) ?_
      refine lv_isub hx hb dX1_dropEldest_28 ?_
      refine lv_aload_n hx hb dX1_dropEldest_29 rfl (lv_at hl 0 rfl) ?_
      refine va_get (ci := 1) (v := .ref h0_olds) (C := RX1) (T := TX1) (N := 5) hx hb hts hinX1 hown hK hP 0 rfl rfl 1 (by decide) (hts _ (List.mem_of_getElem? (i := 2) rfl)) (fun _ h9 => h9) rfl dX1_dropEldest_30 ?_
      refine lv_iload_n hx hb dX1_dropEldest_33 rfl (lv_at hl 1 rfl) ?_
      obtain ⟨hin, hok⟩ := g_no hok
      refine x_iald (k := y1.toNatClampNeg) hx hb hK hP 2 0 rfl rfl hin rfl dX1_dropEldest_34 ?_
      obtain ⟨hin, hok⟩ := g_no hok
      refine x_iast (k := (y1 - (1:Int32)).toNatClampNeg) hx hb hK hP hD hS 2 0 rfl rfl hin rfl dX1_dropEldest_35 (fun H locs hP hD hS => ?_)
      have hP : va_P G vwCl (wm_X1_dropEldest cA h0 h0_slots h0_olds h0_news c0__done s0__undone (upd c0_slots (y1 - (1:Int32)).toNatClampNeg (c0_slots y1.toNatClampNeg)) (upd c0_olds (y1 - (1:Int32)).toNatClampNeg (c0_olds y1.toNatClampNeg)) c0_news) H := hP
      have hD : va_D A (wm_X1_dropEldest cA h0 h0_slots h0_olds h0_news c0__done s0__undone (upd c0_slots (y1 - (1:Int32)).toNatClampNeg (c0_slots y1.toNatClampNeg)) (upd c0_olds (y1 - (1:Int32)).toNatClampNeg (c0_olds y1.toNatClampNeg)) c0_news) := hD
      refine lv_aload_n hx hb dX1_dropEldest_36 rfl (lv_at hl 0 rfl) ?_
      refine va_get (ci := 1) (v := .ref h0_news) (C := RX1) (T := TX1) (N := 5) hx hb hts hinX1 hown hK hP 0 rfl rfl 2 (by decide) (hts _ (List.mem_of_getElem? (i := 3) rfl)) (fun _ h9 => h9) rfl dX1_dropEldest_37 ?_
      refine lv_iload_n hx hb dX1_dropEldest_40 rfl (lv_at hl 1 rfl) ?_
      refine lv_iconst (v := 1) hx hb dX1_dropEldest_41 (by decide) ?_
      refine lv_isub hx hb dX1_dropEldest_42 ?_
      refine lv_aload_n hx hb dX1_dropEldest_43 rfl (lv_at hl 0 rfl) ?_
      refine va_get (ci := 1) (v := .ref h0_news) (C := RX1) (T := TX1) (N := 5) hx hb hts hinX1 hown hK hP 0 rfl rfl 2 (by decide) (hts _ (List.mem_of_getElem? (i := 3) rfl)) (fun _ h9 => h9) rfl dX1_dropEldest_44 ?_
      refine lv_iload_n hx hb dX1_dropEldest_47 rfl (lv_at hl 1 rfl) ?_
      obtain ⟨hin, hok⟩ := g_no hok
      refine x_iald (k := y1.toNatClampNeg) hx hb hK hP 3 0 rfl rfl hin rfl dX1_dropEldest_48 ?_
      obtain ⟨hin, hok⟩ := g_no hok
      refine x_iast (k := (y1 - (1:Int32)).toNatClampNeg) hx hb hK hP hD hS 3 0 rfl rfl hin rfl dX1_dropEldest_49 (fun H locs hP hD hS => ?_)
      have hP : va_P G vwCl (wm_X1_dropEldest cA h0 h0_slots h0_olds h0_news c0__done s0__undone (upd c0_slots (y1 - (1:Int32)).toNatClampNeg (c0_slots y1.toNatClampNeg)) (upd c0_olds (y1 - (1:Int32)).toNatClampNeg (c0_olds y1.toNatClampNeg)) (upd c0_news (y1 - (1:Int32)).toNatClampNeg (c0_news y1.toNatClampNeg))) H := hP
      have hD : va_D A (wm_X1_dropEldest cA h0 h0_slots h0_olds h0_news c0__done s0__undone (upd c0_slots (y1 - (1:Int32)).toNatClampNeg (c0_slots y1.toNatClampNeg)) (upd c0_olds (y1 - (1:Int32)).toNatClampNeg (c0_olds y1.toNatClampNeg)) (upd c0_news (y1 - (1:Int32)).toNatClampNeg (c0_news y1.toNatClampNeg))) := hD
      refine lv_iinc (v := (y1 + 1)) (lv' := [(1, .int (y1 + 1)), (0, .ref h0)]) hx hb dX1_dropEldest_50 hl (k := 1) rfl rfl (by decide) rfl (fun ls hl => ?_)
      refine lv_goto (tgt := 2) hx hb dX1_dropEldest_53 (by decide) ?_
      exact ih (y1 + 1) c0__done (upd c0_slots (y1 - (1:Int32)).toNatClampNeg (c0_slots y1.toNatClampNeg)) (upd c0_olds (y1 - (1:Int32)).toNatClampNeg (c0_olds y1.toNatClampNeg)) (upd c0_news (y1 - (1:Int32)).toNatClampNeg (c0_news y1.toNatClampNeg)) p0_0 p0_1 p0_2 _ _ _ hP hD hS (lv_sub hl [1, 0] rfl) hok K
  unfold fX1_dropEldest at hok
  refine lv_iconst (v := 1) hx hb dX1_dropEldest_0 (by decide) ?_
  refine lv_istore_n (lv' := [(1, .int (1:Int32)), (0, .ref h0)]) hx hb dX1_dropEldest_1 rfl hl (by decide) rfl (fun ls hl => ?_)
  obtain ⟨o1, o2, o3, hq, hok⟩ := g_bnd3 hok
  refine L_2 FUEL (1:Int32) s0__done s0_slots s0_olds s0_news o1 o2 o3 _ _ _ hP hD hS (lv_sub hl [1, 0] rfl) hq (fun H locs ls hP hD hS hl => ?_)
  refine lv_aload_n hx hb dX1_dropEldest_56 rfl (lv_at hl 0 rfl) ?_
  refine lv_bipush (v := 11) hx hb dX1_dropEldest_57 (by decide) ?_
  refine va_put (D := G) (ci := 1) (v := .int (11:Int32)) (ty := .int) (C := RX1) (T := TX1) (N := 5) hx hb hts hinX1 tyX1 tyX1_ok nmX1 hown hK hP hD hS 0 rfl rfl 3 (by decide) (hts _ (List.mem_of_getElem? (i := 4) rfl)) (fun _ h9 => h9) rfl (by decide +kernel) rfl rfl (Nat.le_of_ble_eq_true rfl) dX1_dropEldest_59 (fun H locs hP hD hS => ?_)
  have hP : va_P G vwCl (wm_X1_dropEldest cA h0 h0_slots h0_olds h0_news (11:Int32) s0__undone o1 o2 o3) H := hP
  have hD : va_D A (wm_X1_dropEldest cA h0 h0_slots h0_olds h0_news (11:Int32) s0__undone o1 o2 o3) := hD
  cases hok
  exact cr_v hx hb hr hlocks hQ dX1_dropEldest_62 hP hS
set_option maxHeartbeats 40000000 in
set_option maxRecDepth 100000 in
theorem c_X1_add (l : Launch) (G : va_G) (cA : Nat → ClassId) (ts : Nat → Nat) (h0 : Nat) (h0_slots : Nat) (h0_olds : Nat) (h0_news : Nat) (x1 : Int32) (x2 : Int32) (x3 : Int32) (s0__done : Int32) (s0__undone : Int32) (s0_slots : Nat → Int32) (s0_olds : Nat → Int32) (s0_news : Nat → Int32) (o0__done : Int32) (o0__undone : Int32) (o0_slots : Nat → Int32) (o0_olds : Nat → Int32) (o0_news : Nat → Int32) (hok : fX1_add x1 x2 x3 s0__done s0__undone s0_slots s0_olds s0_news = some (o0__done, o0__undone, o0_slots, o0_olds, o0_news)) : Ct l G cA ts yX1_add wsX1_add 2 61 [.ref h0, .int x1, .int x2, .int x3] (wm_X1_dropEldest cA h0 h0_slots h0_olds h0_news s0__done s0__undone s0_slots s0_olds s0_news) (wm_X1_dropEldest cA h0 h0_slots h0_olds h0_news o0__done o0__undone o0_slots o0_olds o0_news) none := by
  refine Ct.intro (cc := cX1_add) (maxL := 4) (ret := none) (by decide +kernel) rfl (Nat.le_of_ble_eq_true rfl) ?_
  intro p e s m ar below meth c A Q hx hb hr hml hown hlocks hts hK hZ hA hQ hP hD hS ls hl
  have hown : s.vm.findClass RX1 = some m.cls := hown
  have hinX1 : ∀ w ∈ wsX10, w ∈ wsX1_add := fun _ h => List.mem_cons_of_mem _ (List.mem_append_right _ (h))
  have hl : lv_has ls 4 [(0, .ref h0), (1, .int x1), (2, .int x2), (3, .int x3)] := hl
  have hP : va_P G vwCl (wm_X1_dropEldest cA h0 h0_slots h0_olds h0_news s0__done s0__undone s0_slots s0_olds s0_news) s.heap := hP
  have hD : va_D A (wm_X1_dropEldest cA h0 h0_slots h0_olds h0_news s0__done s0__undone s0_slots s0_olds s0_news) := hD
  have J_13 : ∀ (c0__done : Int32) (c0__undone : Int32) (c0_slots : Nat → Int32) (c0_olds : Nat → Int32) (c0_news : Nat → Int32) (H : Heap) (locs : List Loc) (ls : Array Slot), va_P G vwCl (wm_X1_dropEldest cA h0 h0_slots h0_olds h0_news c0__done c0__undone c0_slots c0_olds c0_news) H → va_D A (wm_X1_dropEldest cA h0 h0_slots h0_olds h0_news c0__done c0__undone c0_slots c0_olds c0_news) → va_S A s.heap H locs → lv_has ls 4 [(0, .ref h0), (1, .int x1), (2, .int x2), (3, .int x3)] → fX1_add_j13 x1 x2 x3 c0__done c0__undone c0_slots c0_olds c0_news = some (o0__done, o0__undone, o0_slots, o0_olds, o0_news) → W p l e (rmX 2 61) s m ar below meth c H locs 0 0 Q (F0 m 13 ls []) := by
    intro c0__done c0__undone c0_slots c0_olds c0_news H locs ls hP hD hS hl hok
    unfold fX1_add_j13 at hok
    refine lv_aload_n hx hb dX1_add_13 rfl (lv_at hl 0 rfl) ?_
    refine va_get (ci := 1) (v := .int c0__done) (C := RX1) (T := TX1) (N := 5) hx hb hts hinX1 hown hK hP 0 rfl rfl 3 (by decide) (hts _ (List.mem_of_getElem? (i := 1) rfl)) (fun _ h9 => h9) rfl dX1_add_14 ?_
    refine lv_if_lt (tgt := 69) hx hb dX1_add_17 (by decide) (fun c => ?_) (fun c => ?_)
    · replace hok := g_pos hok c
      refine lv_aload_n hx hb dX1_add_69 rfl (lv_at hl 0 rfl) ?_
      refine lv_iconst (v := 0) hx hb dX1_add_70 (by decide) ?_
      refine va_put (D := G) (ci := 1) (v := .int (0:Int32)) (ty := .int) (C := RX1) (T := TX1) (N := 5) hx hb hts hinX1 tyX1 tyX1_ok nmX1 hown hK hP hD hS 0 rfl rfl 4 (by decide) (hts _ (List.mem_of_getElem? (i := 5) rfl)) (fun _ h9 => h9) rfl (by decide +kernel) rfl rfl (Nat.le_of_ble_eq_true rfl) dX1_add_71 (fun H locs hP hD hS => ?_)
      have hP : va_P G vwCl (wm_X1_dropEldest cA h0 h0_slots h0_olds h0_news c0__done (0:Int32) c0_slots c0_olds c0_news) H := hP
      have hD : va_D A (wm_X1_dropEldest cA h0 h0_slots h0_olds h0_news c0__done (0:Int32) c0_slots c0_olds c0_news) := hD
      cases hok
      exact cr_v hx hb hr hlocks hQ dX1_add_74 hP hS
    replace hok := g_neg hok c
    refine lv_aload_n hx hb dX1_add_20 rfl (lv_at hl 0 rfl) ?_
    refine va_get (ci := 1) (v := .int c0__done) (C := RX1) (T := TX1) (N := 5) hx hb hts hinX1 hown hK hP 0 rfl rfl 3 (by decide) (hts _ (List.mem_of_getElem? (i := 1) rfl)) (fun _ h9 => h9) rfl dX1_add_21 ?_
    refine lv_bipush (v := 12) hx hb dX1_add_24 (by decide) ?_
    refine lv_icmp_ge (tgt := 69) hx hb dX1_add_26 (by decide) (fun c => ?_) (fun c => ?_)
    · replace hok := g_pos hok c
      refine lv_aload_n hx hb dX1_add_69 rfl (lv_at hl 0 rfl) ?_
      refine lv_iconst (v := 0) hx hb dX1_add_70 (by decide) ?_
      refine va_put (D := G) (ci := 1) (v := .int (0:Int32)) (ty := .int) (C := RX1) (T := TX1) (N := 5) hx hb hts hinX1 tyX1 tyX1_ok nmX1 hown hK hP hD hS 0 rfl rfl 4 (by decide) (hts _ (List.mem_of_getElem? (i := 5) rfl)) (fun _ h9 => h9) rfl (by decide +kernel) rfl rfl (Nat.le_of_ble_eq_true rfl) dX1_add_71 (fun H locs hP hD hS => ?_)
      have hP : va_P G vwCl (wm_X1_dropEldest cA h0 h0_slots h0_olds h0_news c0__done (0:Int32) c0_slots c0_olds c0_news) H := hP
      have hD : va_D A (wm_X1_dropEldest cA h0 h0_slots h0_olds h0_news c0__done (0:Int32) c0_slots c0_olds c0_news) := hD
      cases hok
      exact cr_v hx hb hr hlocks hQ dX1_add_74 hP hS
    replace hok := g_neg hok c
    refine lv_aload_n hx hb dX1_add_29 rfl (lv_at hl 0 rfl) ?_
    refine va_get (ci := 1) (v := .ref h0_slots) (C := RX1) (T := TX1) (N := 5) hx hb hts hinX1 hown hK hP 0 rfl rfl 0 (by decide) (hts _ (List.mem_of_getElem? (i := 2) rfl)) (fun _ h9 => h9) rfl dX1_add_30 ?_
    refine lv_aload_n hx hb dX1_add_33 rfl (lv_at hl 0 rfl) ?_
    refine va_get (ci := 1) (v := .int c0__done) (C := RX1) (T := TX1) (N := 5) hx hb hts hinX1 hown hK hP 0 rfl rfl 3 (by decide) (hts _ (List.mem_of_getElem? (i := 1) rfl)) (fun _ h9 => h9) rfl dX1_add_34 ?_
    refine lv_iload_n hx hb dX1_add_37 rfl (lv_at hl 1 rfl) ?_
    obtain ⟨hin, hok⟩ := g_no hok
    refine x_iast (k := c0__done.toNatClampNeg) hx hb hK hP hD hS 1 0 rfl rfl hin rfl dX1_add_38 (fun H locs hP hD hS => ?_)
    have hP : va_P G vwCl (wm_X1_dropEldest cA h0 h0_slots h0_olds h0_news c0__done c0__undone (upd c0_slots c0__done.toNatClampNeg x1) c0_olds c0_news) H := hP
    have hD : va_D A (wm_X1_dropEldest cA h0 h0_slots h0_olds h0_news c0__done c0__undone (upd c0_slots c0__done.toNatClampNeg x1) c0_olds c0_news) := hD
    refine lv_aload_n hx hb dX1_add_39 rfl (lv_at hl 0 rfl) ?_
    refine va_get (ci := 1) (v := .ref h0_olds) (C := RX1) (T := TX1) (N := 5) hx hb hts hinX1 hown hK hP 0 rfl rfl 1 (by decide) (hts _ (List.mem_of_getElem? (i := 3) rfl)) (fun _ h9 => h9) rfl dX1_add_40 ?_
    refine lv_aload_n hx hb dX1_add_43 rfl (lv_at hl 0 rfl) ?_
    refine va_get (ci := 1) (v := .int c0__done) (C := RX1) (T := TX1) (N := 5) hx hb hts hinX1 hown hK hP 0 rfl rfl 3 (by decide) (hts _ (List.mem_of_getElem? (i := 1) rfl)) (fun _ h9 => h9) rfl dX1_add_44 ?_
    refine lv_iload_n hx hb dX1_add_47 rfl (lv_at hl 2 rfl) ?_
    obtain ⟨hin, hok⟩ := g_no hok
    refine x_iast (k := c0__done.toNatClampNeg) hx hb hK hP hD hS 2 0 rfl rfl hin rfl dX1_add_48 (fun H locs hP hD hS => ?_)
    have hP : va_P G vwCl (wm_X1_dropEldest cA h0 h0_slots h0_olds h0_news c0__done c0__undone (upd c0_slots c0__done.toNatClampNeg x1) (upd c0_olds c0__done.toNatClampNeg x2) c0_news) H := hP
    have hD : va_D A (wm_X1_dropEldest cA h0 h0_slots h0_olds h0_news c0__done c0__undone (upd c0_slots c0__done.toNatClampNeg x1) (upd c0_olds c0__done.toNatClampNeg x2) c0_news) := hD
    refine lv_aload_n hx hb dX1_add_49 rfl (lv_at hl 0 rfl) ?_
    refine va_get (ci := 1) (v := .ref h0_news) (C := RX1) (T := TX1) (N := 5) hx hb hts hinX1 hown hK hP 0 rfl rfl 2 (by decide) (hts _ (List.mem_of_getElem? (i := 4) rfl)) (fun _ h9 => h9) rfl dX1_add_50 ?_
    refine lv_aload_n hx hb dX1_add_53 rfl (lv_at hl 0 rfl) ?_
    refine va_get (ci := 1) (v := .int c0__done) (C := RX1) (T := TX1) (N := 5) hx hb hts hinX1 hown hK hP 0 rfl rfl 3 (by decide) (hts _ (List.mem_of_getElem? (i := 1) rfl)) (fun _ h9 => h9) rfl dX1_add_54 ?_
    refine lv_iload_n hx hb dX1_add_57 rfl (lv_at hl 3 rfl) ?_
    obtain ⟨hin, hok⟩ := g_no hok
    refine x_iast (k := c0__done.toNatClampNeg) hx hb hK hP hD hS 3 0 rfl rfl hin rfl dX1_add_58 (fun H locs hP hD hS => ?_)
    have hP : va_P G vwCl (wm_X1_dropEldest cA h0 h0_slots h0_olds h0_news c0__done c0__undone (upd c0_slots c0__done.toNatClampNeg x1) (upd c0_olds c0__done.toNatClampNeg x2) (upd c0_news c0__done.toNatClampNeg x3)) H := hP
    have hD : va_D A (wm_X1_dropEldest cA h0 h0_slots h0_olds h0_news c0__done c0__undone (upd c0_slots c0__done.toNatClampNeg x1) (upd c0_olds c0__done.toNatClampNeg x2) (upd c0_news c0__done.toNatClampNeg x3)) := hD
    refine lv_aload_n hx hb dX1_add_59 rfl (lv_at hl 0 rfl) ?_
    refine lv_dup hx hb dX1_add_60 rfl ?_
    refine va_get (ci := 1) (v := .int c0__done) (C := RX1) (T := TX1) (N := 5) hx hb hts hinX1 hown hK hP 0 rfl rfl 3 (by decide) (hts _ (List.mem_of_getElem? (i := 1) rfl)) (fun _ h9 => h9) rfl dX1_add_61 ?_
    refine lv_iconst (v := 1) hx hb dX1_add_64 (by decide) ?_
    refine lv_iadd hx hb dX1_add_65 ?_
    refine va_put (D := G) (ci := 1) (v := .int (c0__done + (1:Int32))) (ty := .int) (C := RX1) (T := TX1) (N := 5) hx hb hts hinX1 tyX1 tyX1_ok nmX1 hown hK hP hD hS 0 rfl rfl 3 (by decide) (hts _ (List.mem_of_getElem? (i := 1) rfl)) (fun _ h9 => h9) rfl (by decide +kernel) rfl rfl (Nat.le_of_ble_eq_true rfl) dX1_add_66 (fun H locs hP hD hS => ?_)
    have hP : va_P G vwCl (wm_X1_dropEldest cA h0 h0_slots h0_olds h0_news (c0__done + (1:Int32)) c0__undone (upd c0_slots c0__done.toNatClampNeg x1) (upd c0_olds c0__done.toNatClampNeg x2) (upd c0_news c0__done.toNatClampNeg x3)) H := hP
    have hD : va_D A (wm_X1_dropEldest cA h0 h0_slots h0_olds h0_news (c0__done + (1:Int32)) c0__undone (upd c0_slots c0__done.toNatClampNeg x1) (upd c0_olds c0__done.toNatClampNeg x2) (upd c0_news c0__done.toNatClampNeg x3)) := hD
    refine lv_aload_n hx hb dX1_add_69 rfl (lv_at hl 0 rfl) ?_
    refine lv_iconst (v := 0) hx hb dX1_add_70 (by decide) ?_
    refine va_put (D := G) (ci := 1) (v := .int (0:Int32)) (ty := .int) (C := RX1) (T := TX1) (N := 5) hx hb hts hinX1 tyX1 tyX1_ok nmX1 hown hK hP hD hS 0 rfl rfl 4 (by decide) (hts _ (List.mem_of_getElem? (i := 5) rfl)) (fun _ h9 => h9) rfl (by decide +kernel) rfl rfl (Nat.le_of_ble_eq_true rfl) dX1_add_71 (fun H locs hP hD hS => ?_)
    have hP : va_P G vwCl (wm_X1_dropEldest cA h0 h0_slots h0_olds h0_news (c0__done + (1:Int32)) (0:Int32) (upd c0_slots c0__done.toNatClampNeg x1) (upd c0_olds c0__done.toNatClampNeg x2) (upd c0_news c0__done.toNatClampNeg x3)) H := hP
    have hD : va_D A (wm_X1_dropEldest cA h0 h0_slots h0_olds h0_news (c0__done + (1:Int32)) (0:Int32) (upd c0_slots c0__done.toNatClampNeg x1) (upd c0_olds c0__done.toNatClampNeg x2) (upd c0_news c0__done.toNatClampNeg x3)) := hD
    cases hok
    exact cr_v hx hb hr hlocks hQ dX1_add_74 hP hS
  unfold fX1_add at hok
  refine lv_aload_n hx hb dX1_add_0 rfl (lv_at hl 0 rfl) ?_
  refine va_get (ci := 1) (v := .int s0__done) (C := RX1) (T := TX1) (N := 5) hx hb hts hinX1 hown hK hP 0 rfl rfl 3 (by decide) (hts _ (List.mem_of_getElem? (i := 1) rfl)) (fun _ h9 => h9) rfl dX1_add_1 ?_
  refine lv_bipush (v := 12) hx hb dX1_add_4 (by decide) ?_
  refine lv_icmp_lt (tgt := 13) hx hb dX1_add_6 (by decide) (fun c => ?_) (fun c => ?_)
  · replace hok := g_pos hok c
    exact J_13 s0__done s0__undone s0_slots s0_olds s0_news _ _ _ hP hD hS (lv_sub hl [0, 1, 2, 3] rfl) hok
  replace hok := g_neg hok c
  refine lv_aload_n hx hb dX1_add_9 rfl (lv_at hl 0 rfl) ?_
  obtain ⟨o1, o2, o3, o4, hq, hok⟩ := g_bnd4 hok
  refine cG (is := [0, 1, 2, 3]) (wc := (wm_X1_dropEldest cA h0 h0_slots h0_olds h0_news s0__done s0__undone s0_slots s0_olds s0_news)) (w1 := (wm_X1_dropEldest cA h0 h0_slots h0_olds h0_news o1 s0__undone o2 o3 o4)) (rv := none) (st1 := []) (va_runV (Ts := wsX1_add) (As := []) (rest := []) ⟨hx, hb, hml, hown, hts⟩ (c_X1_dropEldest l G cA ts h0 h0_slots h0_olds h0_news s0__done s0__undone s0_slots s0_olds s0_news o1 o2 o3 o4 hq s.heap.size) (cwV 0 hts gX1_add_X1_dropEldest rfl rfl rfl (by decide +kernel) ⟨Nat.le_of_ble_eq_true rfl, Nat.le_of_ble_eq_true rfl⟩) (pre_V (ci := 1) (q0 := 0) (is := [0, 1, 2, 3]) rfl rfl hP hD hS hA hK hZ (by decide +kernel) (by rfl)) rfl rfl hl.1 rfl (by exact lv_room (Nat.le_of_ble_eq_true rfl)) dX1_add_10 ⟨Nat.le_refl _, Nat.le_refl _⟩) hP hD hS hA (by decide +kernel) (by rfl) (by rfl) rfl (fun H locs hP hD hS => ?_)
  have hP : va_P G vwCl (wm_X1_dropEldest cA h0 h0_slots h0_olds h0_news o1 s0__undone o2 o3 o4) H := hP
  have hD : va_D A (wm_X1_dropEldest cA h0 h0_slots h0_olds h0_news o1 s0__undone o2 o3 o4) := hD
  exact J_13 o1 s0__undone o2 o3 o4 _ _ _ hP hD hS (lv_sub hl [0, 1, 2, 3] rfl) hok
set_option maxHeartbeats 40000000 in
set_option maxRecDepth 100000 in
theorem c_X1_stepBack (l : Launch) (G : va_G) (cA : Nat → ClassId) (ts : Nat → Nat) (h0 : Nat) (h0_slots : Nat) (h0_olds : Nat) (h0_news : Nat) (s0__done : Int32) (s0__undone : Int32) (r : Int32) (o0__done : Int32) (o0__undone : Int32) (hok : fX1_stepBack s0__done s0__undone = some (r, o0__done, o0__undone)) : Ct l G cA ts yX1_stepBack wsX1_stepBack 1 40 [.ref h0] (wm_X1_stepBack cA h0 h0_slots h0_olds h0_news s0__done s0__undone) (wm_X1_stepBack cA h0 h0_slots h0_olds h0_news o0__done o0__undone) (some (.int r)) := by
  refine Ct.intro (cc := cX1_stepBack) (maxL := 1) (ret := some .int) (by decide +kernel) rfl (Nat.le_of_ble_eq_true rfl) ?_
  intro p e s m ar below meth c A Q hx hb hr hml hown hlocks hts hK hZ hA hQ hP hD hS ls hl
  have hown : s.vm.findClass RX1 = some m.cls := hown
  have hinX1 : ∀ w ∈ wsX10, w ∈ wsX1_stepBack := fun _ h => List.mem_cons_of_mem _ (List.mem_append_right _ (h))
  have hl : lv_has ls 1 [(0, .ref h0)] := hl
  have hP : va_P G vwCl (wm_X1_stepBack cA h0 h0_slots h0_olds h0_news s0__done s0__undone) s.heap := hP
  have hD : va_D A (wm_X1_stepBack cA h0 h0_slots h0_olds h0_news s0__done s0__undone) := hD
  unfold fX1_stepBack at hok
  refine lv_aload_n hx hb dX1_stepBack_0 rfl (lv_at hl 0 rfl) ?_
  refine va_get (ci := 1) (v := .int s0__done) (C := RX1) (T := TX1) (N := 5) hx hb hts hinX1 hown hK hP 0 rfl rfl 3 (by decide) (hts _ (List.mem_of_getElem? (i := 1) rfl)) (fun _ h9 => h9) rfl dX1_stepBack_1 ?_
  refine lv_if_gt (tgt := 9) hx hb dX1_stepBack_4 (by decide) (fun c => ?_) (fun c => ?_)
  · replace hok := g_pos hok c
    refine lv_aload_n hx hb dX1_stepBack_9 rfl (lv_at hl 0 rfl) ?_
    refine lv_dup hx hb dX1_stepBack_10 rfl ?_
    refine va_get (ci := 1) (v := .int s0__done) (C := RX1) (T := TX1) (N := 5) hx hb hts hinX1 hown hK hP 0 rfl rfl 3 (by decide) (hts _ (List.mem_of_getElem? (i := 1) rfl)) (fun _ h9 => h9) rfl dX1_stepBack_11 ?_
    refine lv_iconst (v := 1) hx hb dX1_stepBack_14 (by decide) ?_
    refine lv_isub hx hb dX1_stepBack_15 ?_
    refine va_put (D := G) (ci := 1) (v := .int (s0__done - (1:Int32))) (ty := .int) (C := RX1) (T := TX1) (N := 5) hx hb hts hinX1 tyX1 tyX1_ok nmX1 hown hK hP hD hS 0 rfl rfl 3 (by decide) (hts _ (List.mem_of_getElem? (i := 1) rfl)) (fun _ h9 => h9) rfl (by decide +kernel) rfl rfl (Nat.le_of_ble_eq_true rfl) dX1_stepBack_16 (fun H locs hP hD hS => ?_)
    have hP : va_P G vwCl (wm_X1_stepBack cA h0 h0_slots h0_olds h0_news (s0__done - (1:Int32)) s0__undone) H := hP
    have hD : va_D A (wm_X1_stepBack cA h0 h0_slots h0_olds h0_news (s0__done - (1:Int32)) s0__undone) := hD
    refine lv_aload_n hx hb dX1_stepBack_19 rfl (lv_at hl 0 rfl) ?_
    refine lv_dup hx hb dX1_stepBack_20 rfl ?_
    refine va_get (ci := 1) (v := .int s0__undone) (C := RX1) (T := TX1) (N := 5) hx hb hts hinX1 hown hK hP 0 rfl rfl 4 (by decide) (hts _ (List.mem_of_getElem? (i := 2) rfl)) (fun _ h9 => h9) rfl dX1_stepBack_21 ?_
    refine lv_iconst (v := 1) hx hb dX1_stepBack_24 (by decide) ?_
    refine lv_iadd hx hb dX1_stepBack_25 ?_
    refine va_put (D := G) (ci := 1) (v := .int (s0__undone + (1:Int32))) (ty := .int) (C := RX1) (T := TX1) (N := 5) hx hb hts hinX1 tyX1 tyX1_ok nmX1 hown hK hP hD hS 0 rfl rfl 4 (by decide) (hts _ (List.mem_of_getElem? (i := 2) rfl)) (fun _ h9 => h9) rfl (by decide +kernel) rfl rfl (Nat.le_of_ble_eq_true rfl) dX1_stepBack_26 (fun H locs hP hD hS => ?_)
    have hP : va_P G vwCl (wm_X1_stepBack cA h0 h0_slots h0_olds h0_news (s0__done - (1:Int32)) (s0__undone + (1:Int32))) H := hP
    have hD : va_D A (wm_X1_stepBack cA h0 h0_slots h0_olds h0_news (s0__done - (1:Int32)) (s0__undone + (1:Int32))) := hD
    refine lv_aload_n hx hb dX1_stepBack_29 rfl (lv_at hl 0 rfl) ?_
    refine va_get (ci := 1) (v := .int (s0__done - (1:Int32))) (C := RX1) (T := TX1) (N := 5) hx hb hts hinX1 hown hK hP 0 rfl rfl 3 (by decide) (hts _ (List.mem_of_getElem? (i := 1) rfl)) (fun _ h9 => h9) rfl dX1_stepBack_30 ?_
    cases hok
    exact cr_i hx hb hr hlocks hQ dX1_stepBack_33 hP hS
  replace hok := g_neg hok c
  refine lv_iconst (v := -1) hx hb dX1_stepBack_7 (by decide) ?_
  cases hok
  exact cr_i hx hb hr hlocks hQ dX1_stepBack_8 hP hS
set_option maxHeartbeats 40000000 in
set_option maxRecDepth 100000 in
theorem c_X1_stepOn (l : Launch) (G : va_G) (cA : Nat → ClassId) (ts : Nat → Nat) (h0 : Nat) (h0_slots : Nat) (h0_olds : Nat) (h0_news : Nat) (s0__done : Int32) (s0__undone : Int32) (r : Int32) (o0__done : Int32) (o0__undone : Int32) (hok : fX1_stepOn s0__done s0__undone = some (r, o0__done, o0__undone)) : Ct l G cA ts yX1_stepOn wsX1_stepOn 1 40 [.ref h0] (wm_X1_stepBack cA h0 h0_slots h0_olds h0_news s0__done s0__undone) (wm_X1_stepBack cA h0 h0_slots h0_olds h0_news o0__done o0__undone) (some (.int r)) := by
  refine Ct.intro (cc := cX1_stepOn) (maxL := 1) (ret := some .int) (by decide +kernel) rfl (Nat.le_of_ble_eq_true rfl) ?_
  intro p e s m ar below meth c A Q hx hb hr hml hown hlocks hts hK hZ hA hQ hP hD hS ls hl
  have hown : s.vm.findClass RX1 = some m.cls := hown
  have hinX1 : ∀ w ∈ wsX10, w ∈ wsX1_stepOn := fun _ h => List.mem_cons_of_mem _ (List.mem_append_right _ (h))
  have hl : lv_has ls 1 [(0, .ref h0)] := hl
  have hP : va_P G vwCl (wm_X1_stepBack cA h0 h0_slots h0_olds h0_news s0__done s0__undone) s.heap := hP
  have hD : va_D A (wm_X1_stepBack cA h0 h0_slots h0_olds h0_news s0__done s0__undone) := hD
  unfold fX1_stepOn at hok
  refine lv_aload_n hx hb dX1_stepOn_0 rfl (lv_at hl 0 rfl) ?_
  refine va_get (ci := 1) (v := .int s0__undone) (C := RX1) (T := TX1) (N := 5) hx hb hts hinX1 hown hK hP 0 rfl rfl 4 (by decide) (hts _ (List.mem_of_getElem? (i := 1) rfl)) (fun _ h9 => h9) rfl dX1_stepOn_1 ?_
  refine lv_if_gt (tgt := 9) hx hb dX1_stepOn_4 (by decide) (fun c => ?_) (fun c => ?_)
  · replace hok := g_pos hok c
    refine lv_aload_n hx hb dX1_stepOn_9 rfl (lv_at hl 0 rfl) ?_
    refine lv_dup hx hb dX1_stepOn_10 rfl ?_
    refine va_get (ci := 1) (v := .int s0__done) (C := RX1) (T := TX1) (N := 5) hx hb hts hinX1 hown hK hP 0 rfl rfl 3 (by decide) (hts _ (List.mem_of_getElem? (i := 2) rfl)) (fun _ h9 => h9) rfl dX1_stepOn_11 ?_
    refine lv_iconst (v := 1) hx hb dX1_stepOn_14 (by decide) ?_
    refine lv_iadd hx hb dX1_stepOn_15 ?_
    refine va_put (D := G) (ci := 1) (v := .int (s0__done + (1:Int32))) (ty := .int) (C := RX1) (T := TX1) (N := 5) hx hb hts hinX1 tyX1 tyX1_ok nmX1 hown hK hP hD hS 0 rfl rfl 3 (by decide) (hts _ (List.mem_of_getElem? (i := 2) rfl)) (fun _ h9 => h9) rfl (by decide +kernel) rfl rfl (Nat.le_of_ble_eq_true rfl) dX1_stepOn_16 (fun H locs hP hD hS => ?_)
    have hP : va_P G vwCl (wm_X1_stepBack cA h0 h0_slots h0_olds h0_news (s0__done + (1:Int32)) s0__undone) H := hP
    have hD : va_D A (wm_X1_stepBack cA h0 h0_slots h0_olds h0_news (s0__done + (1:Int32)) s0__undone) := hD
    refine lv_aload_n hx hb dX1_stepOn_19 rfl (lv_at hl 0 rfl) ?_
    refine lv_dup hx hb dX1_stepOn_20 rfl ?_
    refine va_get (ci := 1) (v := .int s0__undone) (C := RX1) (T := TX1) (N := 5) hx hb hts hinX1 hown hK hP 0 rfl rfl 4 (by decide) (hts _ (List.mem_of_getElem? (i := 1) rfl)) (fun _ h9 => h9) rfl dX1_stepOn_21 ?_
    refine lv_iconst (v := 1) hx hb dX1_stepOn_24 (by decide) ?_
    refine lv_isub hx hb dX1_stepOn_25 ?_
    refine va_put (D := G) (ci := 1) (v := .int (s0__undone - (1:Int32))) (ty := .int) (C := RX1) (T := TX1) (N := 5) hx hb hts hinX1 tyX1 tyX1_ok nmX1 hown hK hP hD hS 0 rfl rfl 4 (by decide) (hts _ (List.mem_of_getElem? (i := 1) rfl)) (fun _ h9 => h9) rfl (by decide +kernel) rfl rfl (Nat.le_of_ble_eq_true rfl) dX1_stepOn_26 (fun H locs hP hD hS => ?_)
    have hP : va_P G vwCl (wm_X1_stepBack cA h0 h0_slots h0_olds h0_news (s0__done + (1:Int32)) (s0__undone - (1:Int32))) H := hP
    have hD : va_D A (wm_X1_stepBack cA h0 h0_slots h0_olds h0_news (s0__done + (1:Int32)) (s0__undone - (1:Int32))) := hD
    refine lv_aload_n hx hb dX1_stepOn_29 rfl (lv_at hl 0 rfl) ?_
    refine va_get (ci := 1) (v := .int (s0__done + (1:Int32))) (C := RX1) (T := TX1) (N := 5) hx hb hts hinX1 hown hK hP 0 rfl rfl 3 (by decide) (hts _ (List.mem_of_getElem? (i := 2) rfl)) (fun _ h9 => h9) rfl dX1_stepOn_30 ?_
    refine lv_iconst (v := 1) hx hb dX1_stepOn_33 (by decide) ?_
    refine lv_isub hx hb dX1_stepOn_34 ?_
    cases hok
    exact cr_i hx hb hr hlocks hQ dX1_stepOn_35 hP hS
  replace hok := g_neg hok c
  refine lv_iconst (v := -1) hx hb dX1_stepOn_7 (by decide) ?_
  cases hok
  exact cr_i hx hb hr hlocks hQ dX1_stepOn_8 hP hS
set_option maxHeartbeats 40000000 in
set_option maxRecDepth 100000 in
theorem c_X1_forget (l : Launch) (G : va_G) (cA : Nat → ClassId) (ts : Nat → Nat) (h0 : Nat) (h0_slots : Nat) (h0_olds : Nat) (h0_news : Nat) (s0__done : Int32) (s0__undone : Int32) (o0__done : Int32) (o0__undone : Int32) (hok : fX1_forget s0__done s0__undone = some (o0__done, o0__undone)) : Ct l G cA ts yX1_forget wsX1_forget 1 40 [.ref h0] (wm_X1_stepBack cA h0 h0_slots h0_olds h0_news s0__done s0__undone) (wm_X1_stepBack cA h0 h0_slots h0_olds h0_news o0__done o0__undone) none := by
  refine Ct.intro (cc := cX1_forget) (maxL := 1) (ret := none) (by decide +kernel) rfl (Nat.le_of_ble_eq_true rfl) ?_
  intro p e s m ar below meth c A Q hx hb hr hml hown hlocks hts hK hZ hA hQ hP hD hS ls hl
  have hown : s.vm.findClass RX1 = some m.cls := hown
  have hinX1 : ∀ w ∈ wsX10, w ∈ wsX1_forget := fun _ h => List.mem_cons_of_mem _ (List.mem_append_right _ (h))
  have hl : lv_has ls 1 [(0, .ref h0)] := hl
  have hP : va_P G vwCl (wm_X1_stepBack cA h0 h0_slots h0_olds h0_news s0__done s0__undone) s.heap := hP
  have hD : va_D A (wm_X1_stepBack cA h0 h0_slots h0_olds h0_news s0__done s0__undone) := hD
  unfold fX1_forget at hok
  refine lv_aload_n hx hb dX1_forget_0 rfl (lv_at hl 0 rfl) ?_
  refine lv_iconst (v := 0) hx hb dX1_forget_1 (by decide) ?_
  refine va_put (D := G) (ci := 1) (v := .int (0:Int32)) (ty := .int) (C := RX1) (T := TX1) (N := 5) hx hb hts hinX1 tyX1 tyX1_ok nmX1 hown hK hP hD hS 0 rfl rfl 3 (by decide) (hts _ (List.mem_of_getElem? (i := 1) rfl)) (fun _ h9 => h9) rfl (by decide +kernel) rfl rfl (Nat.le_of_ble_eq_true rfl) dX1_forget_2 (fun H locs hP hD hS => ?_)
  have hP : va_P G vwCl (wm_X1_stepBack cA h0 h0_slots h0_olds h0_news (0:Int32) s0__undone) H := hP
  have hD : va_D A (wm_X1_stepBack cA h0 h0_slots h0_olds h0_news (0:Int32) s0__undone) := hD
  refine lv_aload_n hx hb dX1_forget_5 rfl (lv_at hl 0 rfl) ?_
  refine lv_iconst (v := 0) hx hb dX1_forget_6 (by decide) ?_
  refine va_put (D := G) (ci := 1) (v := .int (0:Int32)) (ty := .int) (C := RX1) (T := TX1) (N := 5) hx hb hts hinX1 tyX1 tyX1_ok nmX1 hown hK hP hD hS 0 rfl rfl 4 (by decide) (hts _ (List.mem_of_getElem? (i := 2) rfl)) (fun _ h9 => h9) rfl (by decide +kernel) rfl rfl (Nat.le_of_ble_eq_true rfl) dX1_forget_7 (fun H locs hP hD hS => ?_)
  have hP : va_P G vwCl (wm_X1_stepBack cA h0 h0_slots h0_olds h0_news (0:Int32) (0:Int32)) H := hP
  have hD : va_D A (wm_X1_stepBack cA h0 h0_slots h0_olds h0_news (0:Int32) (0:Int32)) := hD
  cases hok
  exact cr_v hx hb hr hlocks hQ dX1_forget_10 hP hS
