set_option maxHeartbeats 40000000 in
set_option maxRecDepth 100000 in
theorem c_X2_follow (l : Launch) (G : va_G) (cA : Nat → ClassId) (ts : Nat → Nat) (h0 : Nat) (h0_outputs : Nat) (h0_losses : Nat) (h1 : Nat) (h1_numbers : Nat) (h1_words : Nat) (h2 : Nat) (h2_places : Nat) (s0__length : Int32) (s0__overs : Int32) (s0__halted : Int32) (s0__haltedBy : Int32) (s0_outputs : Nat → Int32) (s0_losses : Nat → Int32) (s1__all : Int32) (s1__v : Int32) (s1__loss : Int32) (s1__result : Int32) (s1__over : Int32) (s1__heldAll : Int32) (s1__heldRounded : Int32) (s1_numbers : Nat → Int32) (s1_words : Nat → Int32) (s2__sort : Int32) (s2__size : Int32) (s2_places : Nat → Int64) (o0__length : Int32) (o0__overs : Int32) (o0__halted : Int32) (o0__haltedBy : Int32) (o0_outputs : Nat → Int32) (o0_losses : Nat → Int32) (o1__all : Int32) (o1__v : Int32) (o1__loss : Int32) (o1__result : Int32) (o1__over : Int32) (o1__heldAll : Int32) (o1__heldRounded : Int32) (o1_words : Nat → Int32) (hok : fX2_follow s0__length s0__overs s0__halted s0__haltedBy s0_outputs s0_losses s1__all s1__v s1__loss s1__result s1__over s1__heldAll s1__heldRounded s1_numbers s1_words s2__size s2_places = some (o0__length, o0__overs, o0__halted, o0__haltedBy, o0_outputs, o0_losses, o1__all, o1__v, o1__loss, o1__result, o1__over, o1__heldAll, o1__heldRounded, o1_words)) : Ct l G cA ts yX2_follow wsX2_follow 5 126 [.ref h0, .ref h1, .ref h2] (wm_X2_follow cA h0 h0_outputs h0_losses h1 h1_numbers h1_words h2 h2_places s0__length s0__overs s0__halted s0__haltedBy s0_outputs s0_losses s1__all s1__v s1__loss s1__result s1__over s1__heldAll s1__heldRounded s1_numbers s1_words s2__sort s2__size s2_places) (wm_X2_follow cA h0 h0_outputs h0_losses h1 h1_numbers h1_words h2 h2_places o0__length o0__overs o0__halted o0__haltedBy o0_outputs o0_losses o1__all o1__v o1__loss o1__result o1__over o1__heldAll o1__heldRounded s1_numbers o1_words s2__sort s2__size s2_places) none := by
  refine Ct.intro (cc := cX2_follow) (maxL := 4) (ret := none) (by decide +kernel) rfl (Nat.le_of_ble_eq_true rfl) ?_
  intro p e s m ar below meth c A Q hx hb hr hml hown hlocks hts hK hZ hA hQ hP hD hS ls hl
  have hown : s.vm.findClass RX2 = some m.cls := hown
  have hinX2 : ∀ w ∈ wsX20, w ∈ wsX2_follow := fun _ h => List.mem_cons_of_mem _ (List.mem_append_left _ (List.mem_append_left _ (List.mem_append_right _ (h))))
  have hinX3 : ∀ w ∈ wsX30, w ∈ wsX2_follow := fun _ h => List.mem_cons_of_mem _ (List.mem_append_right _ (h))
  have hinX4 : ∀ w ∈ wsX40, w ∈ wsX2_follow := fun _ h => List.mem_cons_of_mem _ (List.mem_append_left _ (List.mem_append_right _ (h)))
  have hl : lv_has ls 4 [(0, .ref h0), (1, .ref h1), (2, .ref h2)] := hl
  have hP : va_P G vwCl (wm_X2_follow cA h0 h0_outputs h0_losses h1 h1_numbers h1_words h2 h2_places s0__length s0__overs s0__halted s0__haltedBy s0_outputs s0_losses s1__all s1__v s1__loss s1__result s1__over s1__heldAll s1__heldRounded s1_numbers s1_words s2__sort s2__size s2_places) s.heap := hP
  have hD : va_D A (wm_X2_follow cA h0 h0_outputs h0_losses h1 h1_numbers h1_words h2 h2_places s0__length s0__overs s0__halted s0__haltedBy s0_outputs s0_losses s1__all s1__v s1__loss s1__result s1__over s1__heldAll s1__heldRounded s1_numbers s1_words s2__sort s2__size s2_places) := hD
  have L_17 : ∀ (n : Nat) (y3 : Int32) (c0__length : Int32) (c0__overs : Int32) (c0__halted : Int32) (c0__haltedBy : Int32) (c0_outputs : Nat → Int32) (c0_losses : Nat → Int32) (c1__all : Int32) (c1__v : Int32) (c1__loss : Int32) (c1__result : Int32) (c1__over : Int32) (c1__heldAll : Int32) (c1__heldRounded : Int32) (c1_words : Nat → Int32) (p0_0 : Int32) (p0_1 : Int32) (p0_2 : Int32) (p0_3 : Int32) (p0_4 : Nat → Int32) (p0_5 : Nat → Int32) (p0_6 : Int32) (p0_7 : Int32) (p0_8 : Int32) (p0_9 : Int32) (p0_10 : Int32) (p0_11 : Int32) (p0_12 : Int32) (p0_13 : Nat → Int32) (H : Heap) (locs : List Loc) (ls : Array Slot), va_P G vwCl (wm_X2_follow cA h0 h0_outputs h0_losses h1 h1_numbers h1_words h2 h2_places c0__length c0__overs c0__halted c0__haltedBy c0_outputs c0_losses c1__all c1__v c1__loss c1__result c1__over c1__heldAll c1__heldRounded s1_numbers c1_words s2__sort s2__size s2_places) H → va_D A (wm_X2_follow cA h0 h0_outputs h0_losses h1 h1_numbers h1_words h2 h2_places c0__length c0__overs c0__halted c0__haltedBy c0_outputs c0_losses c1__all c1__v c1__loss c1__result c1__over c1__heldAll c1__heldRounded s1_numbers c1_words s2__sort s2__size s2_places) → va_S A s.heap H locs → lv_has ls 4 [(0, .ref h0), (1, .ref h1), (2, .ref h2), (3, .int y3)] → fX2_follow_L17 s1_numbers s2__size s2_places n y3 c0__length c0__overs c0__halted c0__haltedBy c0_outputs c0_losses c1__all c1__v c1__loss c1__result c1__over c1__heldAll c1__heldRounded c1_words = some (p0_0, p0_1, p0_2, p0_3, p0_4, p0_5, p0_6, p0_7, p0_8, p0_9, p0_10, p0_11, p0_12, p0_13) → (∀ (H : Heap) (locs : List Loc) (ls : Array Slot), va_P G vwCl (wm_X2_follow cA h0 h0_outputs h0_losses h1 h1_numbers h1_words h2 h2_places p0_0 p0_1 p0_2 p0_3 p0_4 p0_5 p0_6 p0_7 p0_8 p0_9 p0_10 p0_11 p0_12 s1_numbers p0_13 s2__sort s2__size s2_places) H → va_D A (wm_X2_follow cA h0 h0_outputs h0_losses h1 h1_numbers h1_words h2 h2_places p0_0 p0_1 p0_2 p0_3 p0_4 p0_5 p0_6 p0_7 p0_8 p0_9 p0_10 p0_11 p0_12 s1_numbers p0_13 s2__sort s2__size s2_places) → va_S A s.heap H locs → lv_has ls 4 [] → W p l e (rmX 5 126) s m ar below meth c H locs 0 0 Q (F0 m 130 ls [])) → W p l e (rmX 5 126) s m ar below meth c H locs 0 0 Q (F0 m 17 ls []) := by
    intro n
    induction n with
    | zero =>
      intro y3 c0__length c0__overs c0__halted c0__haltedBy c0_outputs c0_losses c1__all c1__v c1__loss c1__result c1__over c1__heldAll c1__heldRounded c1_words p0_0 p0_1 p0_2 p0_3 p0_4 p0_5 p0_6 p0_7 p0_8 p0_9 p0_10 p0_11 p0_12 p0_13 H locs ls hP hD hS hl hok
      rw [fX2_follow_L17] at hok
      cases hok
    | succ n ih =>
      intro y3 c0__length c0__overs c0__halted c0__haltedBy c0_outputs c0_losses c1__all c1__v c1__loss c1__result c1__over c1__heldAll c1__heldRounded c1_words p0_0 p0_1 p0_2 p0_3 p0_4 p0_5 p0_6 p0_7 p0_8 p0_9 p0_10 p0_11 p0_12 p0_13 H locs ls hP hD hS hl hok K
      rw [fX2_follow_L17] at hok
      have J_64 : ∀ (y3 : Int32) (c0__length : Int32) (c0__overs : Int32) (c0__halted : Int32) (c0__haltedBy : Int32) (c0_outputs : Nat → Int32) (c0_losses : Nat → Int32) (c1__all : Int32) (c1__v : Int32) (c1__loss : Int32) (c1__result : Int32) (c1__over : Int32) (c1__heldAll : Int32) (c1__heldRounded : Int32) (c1_words : Nat → Int32) (H : Heap) (locs : List Loc) (ls : Array Slot), va_P G vwCl (wm_X2_follow cA h0 h0_outputs h0_losses h1 h1_numbers h1_words h2 h2_places c0__length c0__overs c0__halted c0__haltedBy c0_outputs c0_losses c1__all c1__v c1__loss c1__result c1__over c1__heldAll c1__heldRounded s1_numbers c1_words s2__sort s2__size s2_places) H → va_D A (wm_X2_follow cA h0 h0_outputs h0_losses h1 h1_numbers h1_words h2 h2_places c0__length c0__overs c0__halted c0__haltedBy c0_outputs c0_losses c1__all c1__v c1__loss c1__result c1__over c1__heldAll c1__heldRounded s1_numbers c1_words s2__sort s2__size s2_places) → va_S A s.heap H locs → lv_has ls 4 [(0, .ref h0), (1, .ref h1), (2, .ref h2), (3, .int y3)] → fX2_follow_j64 s1_numbers s2__size s2_places (fX2_follow_L17 s1_numbers s2__size s2_places n) y3 c0__length c0__overs c0__halted c0__haltedBy c0_outputs c0_losses c1__all c1__v c1__loss c1__result c1__over c1__heldAll c1__heldRounded c1_words = some (p0_0, p0_1, p0_2, p0_3, p0_4, p0_5, p0_6, p0_7, p0_8, p0_9, p0_10, p0_11, p0_12, p0_13) → W p l e (rmX 5 126) s m ar below meth c H locs 0 0 Q (F0 m 64 ls []) := by
        intro y3 c0__length c0__overs c0__halted c0__haltedBy c0_outputs c0_losses c1__all c1__v c1__loss c1__result c1__over c1__heldAll c1__heldRounded c1_words H locs ls hP hD hS hl hok
        unfold fX2_follow_j64 at hok
        refine lv_aload_n hx hb dX2_follow_64 rfl (lv_at hl 1 rfl) ?_
        refine va_get (ci := 3) (v := .int c1__result) (C := RX3) (T := TX3) (N := 9) hx hb hts hinX3 hown hK hP 3 rfl rfl 5 (by decide) (hts _ (List.mem_of_getElem? (i := 6) rfl)) (fun _ h9 => h9) rfl dX2_follow_65 ?_
        refine lv_sipush (v := -1005) hx hb dX2_follow_68 (by decide) ?_
        refine lv_icmp_ne (tgt := 90) hx hb dX2_follow_71 (by decide) (fun c => ?_) (fun c => ?_)
        · replace hok := g_neg hok c
          refine lv_aload_n hx hb dX2_follow_90 rfl (lv_at hl 1 rfl) ?_
          obtain ⟨o9, hq, hok⟩ := g_bnd1 hok
          refine cG (is := [3, 4, 5]) (wc := (wm_X3_gather cA h1 h1_numbers h1_words c1__all c1__v c1__loss c1__result c1__over c1__heldAll c1__heldRounded s1_numbers c1_words)) (w1 := (wm_X3_gather cA h1 h1_numbers h1_words c1__all c1__v c1__loss c1__result c1__over c1__heldAll c1__heldRounded s1_numbers o9)) (rv := none) (st1 := []) (va_runV (Ts := wsX2_follow) (As := []) (rest := []) ⟨hx, hb, hml, hown, hts⟩ (c_X3_push l G cA ts h1 h1_numbers h1_words c1__all c1__v c1__loss c1__result c1__over c1__heldAll c1__heldRounded s1_numbers c1_words o9 hq H.size) (cwV 0 hts gX2_follow_X3_push rfl rfl rfl (by decide +kernel) ⟨Nat.le_of_ble_eq_true rfl, Nat.le_of_ble_eq_true rfl⟩) (pre_V (ci := 3) (q0 := 3) (is := [3, 4, 5]) rfl rfl hP hD hS hA hK hZ (by decide +kernel) (by rfl)) rfl rfl hl.1 rfl (by exact lv_room (Nat.le_of_ble_eq_true rfl)) dX2_follow_91 ⟨Nat.le_refl _, Nat.le_refl _⟩) hP hD hS hA (by decide +kernel) (by rfl) (by rfl) rfl (fun H locs hP hD hS => ?_)
          have hP : va_P G vwCl (wm_X2_follow cA h0 h0_outputs h0_losses h1 h1_numbers h1_words h2 h2_places c0__length c0__overs c0__halted c0__haltedBy c0_outputs c0_losses c1__all c1__v c1__loss c1__result c1__over c1__heldAll c1__heldRounded s1_numbers o9 s2__sort s2__size s2_places) H := hP
          have hD : va_D A (wm_X2_follow cA h0 h0_outputs h0_losses h1 h1_numbers h1_words h2 h2_places c0__length c0__overs c0__halted c0__haltedBy c0_outputs c0_losses c1__all c1__v c1__loss c1__result c1__over c1__heldAll c1__heldRounded s1_numbers o9 s2__sort s2__size s2_places) := hD
          refine lv_aload_n hx hb dX2_follow_94 rfl (lv_at hl 0 rfl) ?_
          refine va_get (ci := 2) (v := .ref h0_outputs) (C := RX2) (T := TX2) (N := 6) hx hb hts hinX2 hown hK hP 0 rfl rfl 0 (by decide) (hts _ (List.mem_of_getElem? (i := 9) rfl)) (fun _ h9 => h9) rfl dX2_follow_95 ?_
          refine lv_iload_n hx hb dX2_follow_98 rfl (lv_at hl 3 rfl) ?_
          refine lv_aload_n hx hb dX2_follow_99 rfl (lv_at hl 1 rfl) ?_
          refine va_get (ci := 3) (v := .int c1__result) (C := RX3) (T := TX3) (N := 9) hx hb hts hinX3 hown hK hP 3 rfl rfl 5 (by decide) (hts _ (List.mem_of_getElem? (i := 6) rfl)) (fun _ h9 => h9) rfl dX2_follow_100 ?_
          obtain ⟨hin, hok⟩ := g_no hok
          refine x_iast (k := y3.toNatClampNeg) hx hb hK hP hD hS 1 0 rfl rfl hin rfl dX2_follow_103 (fun H locs hP hD hS => ?_)
          have hP : va_P G vwCl (wm_X2_follow cA h0 h0_outputs h0_losses h1 h1_numbers h1_words h2 h2_places c0__length c0__overs c0__halted c0__haltedBy (upd c0_outputs y3.toNatClampNeg c1__result) c0_losses c1__all c1__v c1__loss c1__result c1__over c1__heldAll c1__heldRounded s1_numbers o9 s2__sort s2__size s2_places) H := hP
          have hD : va_D A (wm_X2_follow cA h0 h0_outputs h0_losses h1 h1_numbers h1_words h2 h2_places c0__length c0__overs c0__halted c0__haltedBy (upd c0_outputs y3.toNatClampNeg c1__result) c0_losses c1__all c1__v c1__loss c1__result c1__over c1__heldAll c1__heldRounded s1_numbers o9 s2__sort s2__size s2_places) := hD
          refine lv_aload_n hx hb dX2_follow_104 rfl (lv_at hl 0 rfl) ?_
          refine va_get (ci := 2) (v := .ref h0_losses) (C := RX2) (T := TX2) (N := 6) hx hb hts hinX2 hown hK hP 0 rfl rfl 1 (by decide) (hts _ (List.mem_of_getElem? (i := 10) rfl)) (fun _ h9 => h9) rfl dX2_follow_105 ?_
          refine lv_iload_n hx hb dX2_follow_108 rfl (lv_at hl 3 rfl) ?_
          refine lv_aload_n hx hb dX2_follow_109 rfl (lv_at hl 1 rfl) ?_
          refine va_get (ci := 3) (v := .int c1__loss) (C := RX3) (T := TX3) (N := 9) hx hb hts hinX3 hown hK hP 3 rfl rfl 4 (by decide) (hts _ (List.mem_of_getElem? (i := 11) rfl)) (fun _ h9 => h9) rfl dX2_follow_110 ?_
          obtain ⟨hin, hok⟩ := g_no hok
          refine x_iast (k := y3.toNatClampNeg) hx hb hK hP hD hS 2 0 rfl rfl hin rfl dX2_follow_113 (fun H locs hP hD hS => ?_)
          have hP : va_P G vwCl (wm_X2_follow cA h0 h0_outputs h0_losses h1 h1_numbers h1_words h2 h2_places c0__length c0__overs c0__halted c0__haltedBy (upd c0_outputs y3.toNatClampNeg c1__result) (upd c0_losses y3.toNatClampNeg c1__loss) c1__all c1__v c1__loss c1__result c1__over c1__heldAll c1__heldRounded s1_numbers o9 s2__sort s2__size s2_places) H := hP
          have hD : va_D A (wm_X2_follow cA h0 h0_outputs h0_losses h1 h1_numbers h1_words h2 h2_places c0__length c0__overs c0__halted c0__haltedBy (upd c0_outputs y3.toNatClampNeg c1__result) (upd c0_losses y3.toNatClampNeg c1__loss) c1__all c1__v c1__loss c1__result c1__over c1__heldAll c1__heldRounded s1_numbers o9 s2__sort s2__size s2_places) := hD
          refine lv_aload_n hx hb dX2_follow_114 rfl (lv_at hl 0 rfl) ?_
          refine lv_dup hx hb dX2_follow_115 rfl ?_
          refine va_get (ci := 2) (v := .int c0__length) (C := RX2) (T := TX2) (N := 6) hx hb hts hinX2 hown hK hP 0 rfl rfl 2 (by decide) (hts _ (List.mem_of_getElem? (i := 1) rfl)) (fun _ h9 => h9) rfl dX2_follow_116 ?_
          refine lv_iconst (v := 1) hx hb dX2_follow_119 (by decide) ?_
          refine lv_iadd hx hb dX2_follow_120 ?_
          refine va_put (D := G) (ci := 2) (v := .int (c0__length + (1:Int32))) (ty := .int) (C := RX2) (T := TX2) (N := 6) hx hb hts hinX2 tyX2 tyX2_ok nmX2 hown hK hP hD hS 0 rfl rfl 2 (by decide) (hts _ (List.mem_of_getElem? (i := 1) rfl)) (fun _ h9 => h9) rfl (by decide +kernel) rfl rfl (Nat.le_of_ble_eq_true rfl) dX2_follow_121 (fun H locs hP hD hS => ?_)
          have hP : va_P G vwCl (wm_X2_follow cA h0 h0_outputs h0_losses h1 h1_numbers h1_words h2 h2_places (c0__length + (1:Int32)) c0__overs c0__halted c0__haltedBy (upd c0_outputs y3.toNatClampNeg c1__result) (upd c0_losses y3.toNatClampNeg c1__loss) c1__all c1__v c1__loss c1__result c1__over c1__heldAll c1__heldRounded s1_numbers o9 s2__sort s2__size s2_places) H := hP
          have hD : va_D A (wm_X2_follow cA h0 h0_outputs h0_losses h1 h1_numbers h1_words h2 h2_places (c0__length + (1:Int32)) c0__overs c0__halted c0__haltedBy (upd c0_outputs y3.toNatClampNeg c1__result) (upd c0_losses y3.toNatClampNeg c1__loss) c1__all c1__v c1__loss c1__result c1__over c1__heldAll c1__heldRounded s1_numbers o9 s2__sort s2__size s2_places) := hD
          refine lv_iinc (v := (y3 + 1)) (lv' := [(3, .int (y3 + 1)), (0, .ref h0), (1, .ref h1), (2, .ref h2)]) hx hb dX2_follow_124 hl (k := 3) rfl rfl (by decide) rfl (fun ls hl => ?_)
          refine lv_goto (tgt := 17) hx hb dX2_follow_127 (by decide) ?_
          exact ih (y3 + 1) (c0__length + (1:Int32)) c0__overs c0__halted c0__haltedBy (upd c0_outputs y3.toNatClampNeg c1__result) (upd c0_losses y3.toNatClampNeg c1__loss) c1__all c1__v c1__loss c1__result c1__over c1__heldAll c1__heldRounded o9 p0_0 p0_1 p0_2 p0_3 p0_4 p0_5 p0_6 p0_7 p0_8 p0_9 p0_10 p0_11 p0_12 p0_13 _ _ _ hP hD hS (lv_sub hl [1, 2, 3, 0] rfl) hok K
        replace hok := g_pos hok c
        refine lv_aload_n hx hb dX2_follow_74 rfl (lv_at hl 0 rfl) ?_
        refine lv_iconst (v := 1) hx hb dX2_follow_75 (by decide) ?_
        refine va_put (D := G) (ci := 2) (v := .int (1:Int32)) (ty := .boolean) (C := RX2) (T := TX2) (N := 6) hx hb hts hinX2 tyX2 tyX2_ok nmX2 hown hK hP hD hS 0 rfl rfl 4 (by decide) (hts _ (List.mem_of_getElem? (i := 3) rfl)) (fun _ h9 => h9) rfl (by decide +kernel) (by decide +kernel) (by decide +kernel) (Nat.le_of_ble_eq_true rfl) dX2_follow_76 (fun H locs hP hD hS => ?_)
        have hP : va_P G vwCl (wm_X2_follow cA h0 h0_outputs h0_losses h1 h1_numbers h1_words h2 h2_places c0__length c0__overs (1:Int32) c0__haltedBy c0_outputs c0_losses c1__all c1__v c1__loss c1__result c1__over c1__heldAll c1__heldRounded s1_numbers c1_words s2__sort s2__size s2_places) H := hP
        have hD : va_D A (wm_X2_follow cA h0 h0_outputs h0_losses h1 h1_numbers h1_words h2 h2_places c0__length c0__overs (1:Int32) c0__haltedBy c0_outputs c0_losses c1__all c1__v c1__loss c1__result c1__over c1__heldAll c1__heldRounded s1_numbers c1_words s2__sort s2__size s2_places) := hD
        refine lv_aload_n hx hb dX2_follow_79 rfl (lv_at hl 0 rfl) ?_
        refine lv_aload_n hx hb dX2_follow_80 rfl (lv_at hl 1 rfl) ?_
        refine va_get (ci := 3) (v := .int c1__v) (C := RX3) (T := TX3) (N := 9) hx hb hts hinX3 hown hK hP 3 rfl rfl 3 (by decide) (hts _ (List.mem_of_getElem? (i := 7) rfl)) (fun _ h9 => h9) rfl dX2_follow_81 ?_
        refine va_put (D := G) (ci := 2) (v := .int c1__v) (ty := .int) (C := RX2) (T := TX2) (N := 6) hx hb hts hinX2 tyX2 tyX2_ok nmX2 hown hK hP hD hS 0 rfl rfl 5 (by decide) (hts _ (List.mem_of_getElem? (i := 8) rfl)) (fun _ h9 => h9) rfl (by decide +kernel) rfl rfl (Nat.le_of_ble_eq_true rfl) dX2_follow_84 (fun H locs hP hD hS => ?_)
        have hP : va_P G vwCl (wm_X2_follow cA h0 h0_outputs h0_losses h1 h1_numbers h1_words h2 h2_places c0__length c0__overs (1:Int32) c1__v c0_outputs c0_losses c1__all c1__v c1__loss c1__result c1__over c1__heldAll c1__heldRounded s1_numbers c1_words s2__sort s2__size s2_places) H := hP
        have hD : va_D A (wm_X2_follow cA h0 h0_outputs h0_losses h1 h1_numbers h1_words h2 h2_places c0__length c0__overs (1:Int32) c1__v c0_outputs c0_losses c1__all c1__v c1__loss c1__result c1__over c1__heldAll c1__heldRounded s1_numbers c1_words s2__sort s2__size s2_places) := hD
        refine lv_goto (tgt := 124) hx hb dX2_follow_87 (by decide) ?_
        refine lv_iinc (v := (y3 + 1)) (lv' := [(3, .int (y3 + 1)), (0, .ref h0), (1, .ref h1), (2, .ref h2)]) hx hb dX2_follow_124 hl (k := 3) rfl rfl (by decide) rfl (fun ls hl => ?_)
        refine lv_goto (tgt := 17) hx hb dX2_follow_127 (by decide) ?_
        exact ih (y3 + 1) c0__length c0__overs (1:Int32) c1__v c0_outputs c0_losses c1__all c1__v c1__loss c1__result c1__over c1__heldAll c1__heldRounded c1_words p0_0 p0_1 p0_2 p0_3 p0_4 p0_5 p0_6 p0_7 p0_8 p0_9 p0_10 p0_11 p0_12 p0_13 _ _ _ hP hD hS (lv_sub hl [1, 2, 3, 0] rfl) hok K
      refine lv_iload_n hx hb dX2_follow_17 rfl (lv_at hl 3 rfl) ?_
      refine lv_aload_n hx hb dX2_follow_18 rfl (lv_at hl 2 rfl) ?_
      refine va_get (ci := 4) (v := .int s2__size) (C := RX4) (T := TX4) (N := 3) hx hb hts hinX4 hown hK hP 6 rfl rfl 2 (by decide) (hts _ (List.mem_of_getElem? (i := 4) rfl)) (fun _ h9 => h9) rfl dX2_follow_19 ?_
      refine lv_icmp_ge (tgt := 130) hx hb dX2_follow_22 (by decide) (fun c => ?_) (fun c => ?_)
      · replace hok := g_pos hok c
        cases hok
        exact K _ _ _ hP hD hS (lv_sub hl [] rfl)
      replace hok := g_neg hok c
      refine lv_iload_n hx hb dX2_follow_25 rfl (lv_at hl 3 rfl) ?_
      refine lv_bipush (v := 40) hx hb dX2_follow_26 (by decide) ?_
      refine lv_icmp_ge (tgt := 130) hx hb dX2_follow_28 (by decide) (fun c => ?_) (fun c => ?_)
      · replace hok := g_pos hok c
        cases hok
        exact K _ _ _ hP hD hS (lv_sub hl [] rfl)
      replace hok := g_neg hok c
      refine lv_aload_n hx hb dX2_follow_31 rfl (lv_at hl 0 rfl) ?_
      refine va_get (ci := 2) (v := .int c0__halted) (C := RX2) (T := TX2) (N := 6) hx hb hts hinX2 hown hK hP 0 rfl rfl 4 (by decide) (hts _ (List.mem_of_getElem? (i := 3) rfl)) (fun _ h9 => h9) rfl dX2_follow_32 ?_
      refine lv_if_ne (tgt := 130) hx hb dX2_follow_35 (by decide) (fun c => ?_) (fun c => ?_)
      · replace hok := g_neg hok c
        cases hok
        exact K _ _ _ hP hD hS (lv_sub hl [] rfl)
      replace hok := g_pos hok c
      refine lv_aload_n hx hb dX2_follow_38 rfl (lv_at hl 1 rfl) ?_
      refine lv_aload_n hx hb dX2_follow_39 rfl (lv_at hl 2 rfl) ?_
      refine lv_iload_n hx hb dX2_follow_40 rfl (lv_at hl 3 rfl) ?_
      obtain ⟨r1, hq, hok⟩ := g_bnd1 hok
      refine cG (is := [6, 7]) (wc := (wm_X4_inputAt cA h2 h2_places s2__sort s2__size s2_places)) (w1 := (wm_X4_inputAt cA h2 h2_places s2__sort s2__size s2_places)) (rv := (some (.int r1))) (st1 := [.int r1, .ref h1]) (va_runV (Ts := wsX2_follow) (As := [.int y3]) (rest := [.ref h1]) ⟨hx, hb, hml, hown, hts⟩ (c_X4_inputAt l G cA ts h2 h2_places y3 s2__sort s2__size s2_places r1 hq H.size) (cwV 1 hts gX2_follow_X4_inputAt rfl rfl rfl (by decide +kernel) ⟨Nat.le_of_ble_eq_true rfl, Nat.le_of_ble_eq_true rfl⟩) (pre_V (ci := 4) (q0 := 6) (is := [6, 7]) rfl rfl hP hD hS hA hK hZ (by decide +kernel) (by rfl)) rfl rfl hl.1 rfl (by exact lv_room (Nat.le_of_ble_eq_true rfl)) dX2_follow_41 ⟨Nat.le_refl _, Nat.le_refl _⟩) hP hD hS hA (by decide +kernel) (by rfl) (by rfl) rfl (fun H locs hP hD hS => ?_)
      have hP : va_P G vwCl (wm_X2_follow cA h0 h0_outputs h0_losses h1 h1_numbers h1_words h2 h2_places c0__length c0__overs c0__halted c0__haltedBy c0_outputs c0_losses c1__all c1__v c1__loss c1__result c1__over c1__heldAll c1__heldRounded s1_numbers c1_words s2__sort s2__size s2_places) H := hP
      have hD : va_D A (wm_X2_follow cA h0 h0_outputs h0_losses h1 h1_numbers h1_words h2 h2_places c0__length c0__overs c0__halted c0__haltedBy c0_outputs c0_losses c1__all c1__v c1__loss c1__result c1__over c1__heldAll c1__heldRounded s1_numbers c1_words s2__sort s2__size s2_places) := hD
      obtain ⟨o2, o3, o4, o5, o6, o7, o8, hq, hok⟩ := g_bnd7 hok
      refine cG (is := [3, 4, 5]) (wc := (wm_X3_gather cA h1 h1_numbers h1_words c1__all c1__v c1__loss c1__result c1__over c1__heldAll c1__heldRounded s1_numbers c1_words)) (w1 := (wm_X3_gather cA h1 h1_numbers h1_words o2 o3 o4 o5 o6 o7 o8 s1_numbers c1_words)) (rv := none) (st1 := []) (va_runV (Ts := wsX2_follow) (As := [.int r1]) (rest := []) ⟨hx, hb, hml, hown, hts⟩ (c_X3_weigh l G cA ts h1 h1_numbers h1_words r1 c1__all c1__v c1__loss c1__result c1__over c1__heldAll c1__heldRounded s1_numbers c1_words o2 o3 o4 o5 o6 o7 o8 hq H.size) (cwV 1 hts gX2_follow_X3_weigh rfl rfl rfl (by decide +kernel) ⟨Nat.le_of_ble_eq_true rfl, Nat.le_of_ble_eq_true rfl⟩) (pre_V (ci := 3) (q0 := 3) (is := [3, 4, 5]) rfl rfl hP hD hS hA hK hZ (by decide +kernel) (by rfl)) rfl rfl hl.1 rfl (by exact lv_room (Nat.le_of_ble_eq_true rfl)) dX2_follow_44 ⟨Nat.le_refl _, Nat.le_refl _⟩) hP hD hS hA (by decide +kernel) (by rfl) (by rfl) rfl (fun H locs hP hD hS => ?_)
      have hP : va_P G vwCl (wm_X2_follow cA h0 h0_outputs h0_losses h1 h1_numbers h1_words h2 h2_places c0__length c0__overs c0__halted c0__haltedBy c0_outputs c0_losses o2 o3 o4 o5 o6 o7 o8 s1_numbers c1_words s2__sort s2__size s2_places) H := hP
      have hD : va_D A (wm_X2_follow cA h0 h0_outputs h0_losses h1 h1_numbers h1_words h2 h2_places c0__length c0__overs c0__halted c0__haltedBy c0_outputs c0_losses o2 o3 o4 o5 o6 o7 o8 s1_numbers c1_words s2__sort s2__size s2_places) := hD
      refine lv_aload_n hx hb dX2_follow_47 rfl (lv_at hl 1 rfl) ?_
      refine va_get (ci := 3) (v := .int o6) (C := RX3) (T := TX3) (N := 9) hx hb hts hinX3 hown hK hP 3 rfl rfl 6 (by decide) (hts _ (List.mem_of_getElem? (i := 5) rfl)) (fun _ h9 => h9) rfl dX2_follow_48 ?_
      refine lv_if_eq (tgt := 64) hx hb dX2_follow_51 (by decide) (fun c => ?_) (fun c => ?_)
      · replace hok := g_pos hok c
        exact J_64 y3 c0__length c0__overs c0__halted c0__haltedBy c0_outputs c0_losses o2 o3 o4 o5 o6 o7 o8 c1_words _ _ _ hP hD hS (lv_sub hl [0, 1, 2, 3] rfl) hok
      replace hok := g_neg hok c
      refine lv_aload_n hx hb dX2_follow_54 rfl (lv_at hl 0 rfl) ?_
      refine lv_dup hx hb dX2_follow_55 rfl ?_
      refine va_get (ci := 2) (v := .int c0__overs) (C := RX2) (T := TX2) (N := 6) hx hb hts hinX2 hown hK hP 0 rfl rfl 3 (by decide) (hts _ (List.mem_of_getElem? (i := 2) rfl)) (fun _ h9 => h9) rfl dX2_follow_56 ?_
      refine lv_iconst (v := 1) hx hb dX2_follow_59 (by decide) ?_
      refine lv_iadd hx hb dX2_follow_60 ?_
      refine va_put (D := G) (ci := 2) (v := .int (c0__overs + (1:Int32))) (ty := .int) (C := RX2) (T := TX2) (N := 6) hx hb hts hinX2 tyX2 tyX2_ok nmX2 hown hK hP hD hS 0 rfl rfl 3 (by decide) (hts _ (List.mem_of_getElem? (i := 2) rfl)) (fun _ h9 => h9) rfl (by decide +kernel) rfl rfl (Nat.le_of_ble_eq_true rfl) dX2_follow_61 (fun H locs hP hD hS => ?_)
      have hP : va_P G vwCl (wm_X2_follow cA h0 h0_outputs h0_losses h1 h1_numbers h1_words h2 h2_places c0__length (c0__overs + (1:Int32)) c0__halted c0__haltedBy c0_outputs c0_losses o2 o3 o4 o5 o6 o7 o8 s1_numbers c1_words s2__sort s2__size s2_places) H := hP
      have hD : va_D A (wm_X2_follow cA h0 h0_outputs h0_losses h1 h1_numbers h1_words h2 h2_places c0__length (c0__overs + (1:Int32)) c0__halted c0__haltedBy c0_outputs c0_losses o2 o3 o4 o5 o6 o7 o8 s1_numbers c1_words s2__sort s2__size s2_places) := hD
      exact J_64 y3 c0__length (c0__overs + (1:Int32)) c0__halted c0__haltedBy c0_outputs c0_losses o2 o3 o4 o5 o6 o7 o8 c1_words _ _ _ hP hD hS (lv_sub hl [0, 1, 2, 3] rfl) hok
  unfold fX2_follow at hok
  refine lv_aload_n hx hb dX2_follow_0 rfl (lv_at hl 0 rfl) ?_
  refine lv_iconst (v := 0) hx hb dX2_follow_1 (by decide) ?_
  refine va_put (D := G) (ci := 2) (v := .int (0:Int32)) (ty := .int) (C := RX2) (T := TX2) (N := 6) hx hb hts hinX2 tyX2 tyX2_ok nmX2 hown hK hP hD hS 0 rfl rfl 2 (by decide) (hts _ (List.mem_of_getElem? (i := 1) rfl)) (fun _ h9 => h9) rfl (by decide +kernel) rfl rfl (Nat.le_of_ble_eq_true rfl) dX2_follow_2 (fun H locs hP hD hS => ?_)
  have hP : va_P G vwCl (wm_X2_follow cA h0 h0_outputs h0_losses h1 h1_numbers h1_words h2 h2_places (0:Int32) s0__overs s0__halted s0__haltedBy s0_outputs s0_losses s1__all s1__v s1__loss s1__result s1__over s1__heldAll s1__heldRounded s1_numbers s1_words s2__sort s2__size s2_places) H := hP
  have hD : va_D A (wm_X2_follow cA h0 h0_outputs h0_losses h1 h1_numbers h1_words h2 h2_places (0:Int32) s0__overs s0__halted s0__haltedBy s0_outputs s0_losses s1__all s1__v s1__loss s1__result s1__over s1__heldAll s1__heldRounded s1_numbers s1_words s2__sort s2__size s2_places) := hD
  refine lv_aload_n hx hb dX2_follow_5 rfl (lv_at hl 0 rfl) ?_
  refine lv_iconst (v := 0) hx hb dX2_follow_6 (by decide) ?_
  refine va_put (D := G) (ci := 2) (v := .int (0:Int32)) (ty := .int) (C := RX2) (T := TX2) (N := 6) hx hb hts hinX2 tyX2 tyX2_ok nmX2 hown hK hP hD hS 0 rfl rfl 3 (by decide) (hts _ (List.mem_of_getElem? (i := 2) rfl)) (fun _ h9 => h9) rfl (by decide +kernel) rfl rfl (Nat.le_of_ble_eq_true rfl) dX2_follow_7 (fun H locs hP hD hS => ?_)
  have hP : va_P G vwCl (wm_X2_follow cA h0 h0_outputs h0_losses h1 h1_numbers h1_words h2 h2_places (0:Int32) (0:Int32) s0__halted s0__haltedBy s0_outputs s0_losses s1__all s1__v s1__loss s1__result s1__over s1__heldAll s1__heldRounded s1_numbers s1_words s2__sort s2__size s2_places) H := hP
  have hD : va_D A (wm_X2_follow cA h0 h0_outputs h0_losses h1 h1_numbers h1_words h2 h2_places (0:Int32) (0:Int32) s0__halted s0__haltedBy s0_outputs s0_losses s1__all s1__v s1__loss s1__result s1__over s1__heldAll s1__heldRounded s1_numbers s1_words s2__sort s2__size s2_places) := hD
  refine lv_aload_n hx hb dX2_follow_10 rfl (lv_at hl 0 rfl) ?_
  refine lv_iconst (v := 0) hx hb dX2_follow_11 (by decide) ?_
  refine va_put (D := G) (ci := 2) (v := .int (0:Int32)) (ty := .boolean) (C := RX2) (T := TX2) (N := 6) hx hb hts hinX2 tyX2 tyX2_ok nmX2 hown hK hP hD hS 0 rfl rfl 4 (by decide) (hts _ (List.mem_of_getElem? (i := 3) rfl)) (fun _ h9 => h9) rfl (by decide +kernel) (by decide +kernel) (by decide +kernel) (Nat.le_of_ble_eq_true rfl) dX2_follow_12 (fun H locs hP hD hS => ?_)
  have hP : va_P G vwCl (wm_X2_follow cA h0 h0_outputs h0_losses h1 h1_numbers h1_words h2 h2_places (0:Int32) (0:Int32) (0:Int32) s0__haltedBy s0_outputs s0_losses s1__all s1__v s1__loss s1__result s1__over s1__heldAll s1__heldRounded s1_numbers s1_words s2__sort s2__size s2_places) H := hP
  have hD : va_D A (wm_X2_follow cA h0 h0_outputs h0_losses h1 h1_numbers h1_words h2 h2_places (0:Int32) (0:Int32) (0:Int32) s0__haltedBy s0_outputs s0_losses s1__all s1__v s1__loss s1__result s1__over s1__heldAll s1__heldRounded s1_numbers s1_words s2__sort s2__size s2_places) := hD
  refine lv_iconst (v := 0) hx hb dX2_follow_15 (by decide) ?_
  refine lv_istore_n (lv' := [(3, .int (0:Int32)), (0, .ref h0), (1, .ref h1), (2, .ref h2)]) hx hb dX2_follow_16 rfl hl (by decide) rfl (fun ls hl => ?_)
  obtain ⟨o10, o11, o12, o13, o14, o15, o16, o17, o18, o19, o20, o21, o22, o23, hq, hok⟩ := g_bnd14 hok
  refine L_17 FUEL (0:Int32) (0:Int32) (0:Int32) (0:Int32) s0__haltedBy s0_outputs s0_losses s1__all s1__v s1__loss s1__result s1__over s1__heldAll s1__heldRounded s1_words o10 o11 o12 o13 o14 o15 o16 o17 o18 o19 o20 o21 o22 o23 _ _ _ hP hD hS (lv_sub hl [1, 2, 3, 0] rfl) hq (fun H locs ls hP hD hS hl => ?_)
  obtain ⟨e, hok⟩ := g_pr hok
  try subst e
  obtain ⟨e, hok⟩ := g_pr hok
  try subst e
  obtain ⟨e, hok⟩ := g_pr hok
  try subst e
  obtain ⟨e, hok⟩ := g_pr hok
  try subst e
  obtain ⟨e, hok⟩ := g_pr hok
  try subst e
  obtain ⟨e, hok⟩ := g_pr hok
  try subst e
  obtain ⟨e, hok⟩ := g_pr hok
  try subst e
  obtain ⟨e, hok⟩ := g_pr hok
  try subst e
  obtain ⟨e, hok⟩ := g_pr hok
  try subst e
  obtain ⟨e, hok⟩ := g_pr hok
  try subst e
  obtain ⟨e, hok⟩ := g_pr hok
  try subst e
  obtain ⟨e, hok⟩ := g_pr hok
  try subst e
  obtain ⟨e, hok⟩ := g_pr hok
  try subst e
  cases hok
  exact cr_v hx hb hr hlocks hQ dX2_follow_130 hP hS
set_option maxHeartbeats 40000000 in
set_option maxRecDepth 100000 in
theorem c_X2_lossesTogether (l : Launch) (G : va_G) (cA : Nat → ClassId) (ts : Nat → Nat) (h0 : Nat) (h0_losses : Nat) (h0_outputs : Nat) (s0__length : Int32) (s0__overs : Int32) (s0__halted : Int32) (s0__haltedBy : Int32) (s0_losses : Nat → Int32) (r : Int32) (hok : fX2_lossesTogether s0__length s0_losses = some r) : Ct l G cA ts yX2_lossesTogether wsX2_lossesTogether 1 80 [.ref h0] (wm_X2_lossesTogether cA h0 h0_losses h0_outputs s0__length s0__overs s0__halted s0__haltedBy s0_losses) (wm_X2_lossesTogether cA h0 h0_losses h0_outputs s0__length s0__overs s0__halted s0__haltedBy s0_losses) (some (.int r)) := by
  refine Ct.intro (cc := cX2_lossesTogether) (maxL := 3) (ret := some .int) (by decide +kernel) rfl (Nat.le_of_ble_eq_true rfl) ?_
  intro p e s m ar below meth c A Q hx hb hr hml hown hlocks hts hK hZ hA hQ hP hD hS ls hl
  have hown : s.vm.findClass RX2 = some m.cls := hown
  have hinX2 : ∀ w ∈ wsX20, w ∈ wsX2_lossesTogether := fun _ h => List.mem_cons_of_mem _ (List.mem_append_right _ (h))
  have hl : lv_has ls 3 [(0, .ref h0)] := hl
  have hP : va_P G vwCl (wm_X2_lossesTogether cA h0 h0_losses h0_outputs s0__length s0__overs s0__halted s0__haltedBy s0_losses) s.heap := hP
  have hD : va_D A (wm_X2_lossesTogether cA h0 h0_losses h0_outputs s0__length s0__overs s0__halted s0__haltedBy s0_losses) := hD
  have L_4 : ∀ (n : Nat) (y1 : Int32) (y2 : Int32) (p0_0 : Int32) (H : Heap) (locs : List Loc) (ls : Array Slot), va_P G vwCl (wm_X2_lossesTogether cA h0 h0_losses h0_outputs s0__length s0__overs s0__halted s0__haltedBy s0_losses) H → va_D A (wm_X2_lossesTogether cA h0 h0_losses h0_outputs s0__length s0__overs s0__halted s0__haltedBy s0_losses) → va_S A s.heap H locs → lv_has ls 3 [(0, .ref h0), (1, .int y1), (2, .int y2)] → fX2_lossesTogether_L4 s0__length s0_losses n y1 y2 = some p0_0 → (∀ (H : Heap) (locs : List Loc) (ls : Array Slot), va_P G vwCl (wm_X2_lossesTogether cA h0 h0_losses h0_outputs s0__length s0__overs s0__halted s0__haltedBy s0_losses) H → va_D A (wm_X2_lossesTogether cA h0 h0_losses h0_outputs s0__length s0__overs s0__halted s0__haltedBy s0_losses) → va_S A s.heap H locs → lv_has ls 3 [(1, .int p0_0)] → W p l e (rmX 1 80) s m ar below meth c H locs 0 0 Q (F0 m 36 ls [])) → W p l e (rmX 1 80) s m ar below meth c H locs 0 0 Q (F0 m 4 ls []) := by
    intro n
    induction n with
    | zero =>
      intro y1 y2 p0_0 H locs ls hP hD hS hl hok
      rw [fX2_lossesTogether_L4] at hok
      cases hok
    | succ n ih =>
      intro y1 y2 p0_0 H locs ls hP hD hS hl hok K
      rw [fX2_lossesTogether_L4] at hok
      refine lv_iload_n hx hb dX2_lossesTogether_4 rfl (lv_at hl 2 rfl) ?_
      refine lv_aload_n hx hb dX2_lossesTogether_5 rfl (lv_at hl 0 rfl) ?_
      refine va_get (ci := 2) (v := .int s0__length) (C := RX2) (T := TX2) (N := 6) hx hb hts hinX2 hown hK hP 0 rfl rfl 2 (by decide) (hts _ (List.mem_of_getElem? (i := 1) rfl)) (fun _ h9 => h9) rfl dX2_lossesTogether_6 ?_
      refine lv_icmp_ge (tgt := 36) hx hb dX2_lossesTogether_9 (by decide) (fun c => ?_) (fun c => ?_)
      · replace hok := g_pos hok c
        cases hok
        exact K _ _ _ hP hD hS (lv_sub hl [1] rfl)
      replace hok := g_neg hok c
      refine lv_iload_n hx hb dX2_lossesTogether_12 rfl (lv_at hl 2 rfl) ?_
      refine lv_bipush (v := 40) hx hb dX2_lossesTogether_13 (by decide) ?_
      refine lv_icmp_ge (tgt := 36) hx hb dX2_lossesTogether_15 (by decide) (fun c => ?_) (fun c => ?_)
      · replace hok := g_pos hok c
        cases hok
        exact K _ _ _ hP hD hS (lv_sub hl [1] rfl)
      replace hok := g_neg hok c
      refine lv_iload_n hx hb dX2_lossesTogether_18 rfl (lv_at hl 1 rfl) ?_
      refine lv_aload_n hx hb dX2_lossesTogether_19 rfl (lv_at hl 0 rfl) ?_
      refine va_get (ci := 2) (v := .ref h0_losses) (C := RX2) (T := TX2) (N := 6) hx hb hts hinX2 hown hK hP 0 rfl rfl 1 (by decide) (hts _ (List.mem_of_getElem? (i := 2) rfl)) (fun _ h9 => h9) rfl dX2_lossesTogether_20 ?_
      refine lv_iload_n hx hb dX2_lossesTogether_23 rfl (lv_at hl 2 rfl) ?_
      obtain ⟨hin, hok⟩ := g_no hok
      refine x_iald (k := y2.toNatClampNeg) hx hb hK hP 1 0 rfl rfl hin rfl dX2_lossesTogether_24 ?_
      refine va_mabs hx hb (hml.trans hl.1.symm) hown (hts _ (List.mem_of_getElem? (i := 3) rfl)) (hts _ (List.mem_of_getElem? (i := 4) rfl)) (hts _ (List.mem_of_getElem? (i := 5) rfl)) (hts _ (List.mem_of_getElem? (i := 6) rfl)) (Nat.le_of_ble_eq_true rfl) (Nat.le_of_ble_eq_true rfl) (Nat.zero_le _) (Nat.zero_le _) dX2_lossesTogether_25 ?_
      refine lv_iadd hx hb dX2_lossesTogether_28 ?_
      refine lv_istore_n (lv' := [(1, .int (y1 + (if 0 ≤ (s0_losses y2.toNatClampNeg) then (s0_losses y2.toNatClampNeg) else 0 - (s0_losses y2.toNatClampNeg)))), (0, .ref h0), (2, .int y2)]) hx hb dX2_lossesTogether_29 rfl hl (by decide) rfl (fun ls hl => ?_)
      refine lv_iinc (v := (y2 + 1)) (lv' := [(2, .int (y2 + 1)), (1, .int (y1 + (if 0 ≤ (s0_losses y2.toNatClampNeg) then (s0_losses y2.toNatClampNeg) else 0 - (s0_losses y2.toNatClampNeg)))), (0, .ref h0)]) hx hb dX2_lossesTogether_30 hl (k := 2) rfl rfl (by decide) rfl (fun ls hl => ?_)
      refine lv_goto (tgt := 4) hx hb dX2_lossesTogether_33 (by decide) ?_
      exact ih (y1 + (if 0 ≤ (s0_losses y2.toNatClampNeg) then (s0_losses y2.toNatClampNeg) else 0 - (s0_losses y2.toNatClampNeg))) (y2 + 1) p0_0 _ _ _ hP hD hS (lv_sub hl [2, 1, 0] rfl) hok K
  unfold fX2_lossesTogether at hok
  refine lv_iconst (v := 0) hx hb dX2_lossesTogether_0 (by decide) ?_
  refine lv_istore_n (lv' := [(1, .int (0:Int32)), (0, .ref h0)]) hx hb dX2_lossesTogether_1 rfl hl (by decide) rfl (fun ls hl => ?_)
  refine lv_iconst (v := 0) hx hb dX2_lossesTogether_2 (by decide) ?_
  refine lv_istore_n (lv' := [(2, .int (0:Int32)), (1, .int (0:Int32)), (0, .ref h0)]) hx hb dX2_lossesTogether_3 rfl hl (by decide) rfl (fun ls hl => ?_)
  obtain ⟨o1, hq, hok⟩ := g_bnd1 hok
  refine L_4 FUEL (0:Int32) (0:Int32) o1 _ _ _ hP hD hS (lv_sub hl [2, 1, 0] rfl) hq (fun H locs ls hP hD hS hl => ?_)
  refine lv_iload_n hx hb dX2_lossesTogether_36 rfl (lv_at hl 0 rfl) ?_
  cases hok
  exact cr_i hx hb hr hlocks hQ dX2_lossesTogether_37 hP hS
set_option maxHeartbeats 40000000 in
set_option maxRecDepth 100000 in
theorem c_X2_isFirstOfItsLevel (l : Launch) (G : va_G) (cA : Nat → ClassId) (ts : Nat → Nat) (h0 : Nat) (h0_losses : Nat) (h0_outputs : Nat) (x1 : Int32) (s0__length : Int32) (s0__overs : Int32) (s0__halted : Int32) (s0__haltedBy : Int32) (s0_losses : Nat → Int32) (r : Int32) (hok : fX2_isFirstOfItsLevel x1 s0_losses = some r) : Ct l G cA ts yX2_isFirstOfItsLevel wsX2_isFirstOfItsLevel 1 40 [.ref h0, .int x1] (wm_X2_lossesTogether cA h0 h0_losses h0_outputs s0__length s0__overs s0__halted s0__haltedBy s0_losses) (wm_X2_lossesTogether cA h0 h0_losses h0_outputs s0__length s0__overs s0__halted s0__haltedBy s0_losses) (some (.int r)) := by
  refine Ct.intro (cc := cX2_isFirstOfItsLevel) (maxL := 3) (ret := some .boolean) (by decide +kernel) rfl (Nat.le_of_ble_eq_true rfl) ?_
  intro p e s m ar below meth c A Q hx hb hr hml hown hlocks hts hK hZ hA hQ hP hD hS ls hl
  have hown : s.vm.findClass RX2 = some m.cls := hown
  have hinX2 : ∀ w ∈ wsX20, w ∈ wsX2_isFirstOfItsLevel := fun _ h => List.mem_cons_of_mem _ (List.mem_append_right _ (h))
  have hl : lv_has ls 3 [(0, .ref h0), (1, .int x1)] := hl
  have hP : va_P G vwCl (wm_X2_lossesTogether cA h0 h0_losses h0_outputs s0__length s0__overs s0__halted s0__haltedBy s0_losses) s.heap := hP
  have hD : va_D A (wm_X2_lossesTogether cA h0 h0_losses h0_outputs s0__length s0__overs s0__halted s0__haltedBy s0_losses) := hD
  have L_2 : ∀ (n : Nat) (y2 : Int32) (oE : (Unit) ⊕ (Unit)) (H : Heap) (locs : List Loc) (ls : Array Slot), va_P G vwCl (wm_X2_lossesTogether cA h0 h0_losses h0_outputs s0__length s0__overs s0__halted s0__haltedBy s0_losses) H → va_D A (wm_X2_lossesTogether cA h0 h0_losses h0_outputs s0__length s0__overs s0__halted s0__haltedBy s0_losses) → va_S A s.heap H locs → lv_has ls 3 [(0, .ref h0), (1, .int x1), (2, .int y2)] → fX2_isFirstOfItsLevel_L2 x1 s0_losses n y2 = some oE → (∀ (_ : Unit), oE = .inl () → ∀ (H : Heap) (locs : List Loc) (ls : Array Slot), va_P G vwCl (wm_X2_lossesTogether cA h0 h0_losses h0_outputs s0__length s0__overs s0__halted s0__haltedBy s0_losses) H → va_D A (wm_X2_lossesTogether cA h0 h0_losses h0_outputs s0__length s0__overs s0__halted s0__haltedBy s0_losses) → va_S A s.heap H locs → lv_has ls 3 [] → W p l e (rmX 1 40) s m ar below meth c H locs 0 0 Q (F0 m 28 ls [])) → (∀ (_ : Unit), oE = .inr (()) → ∀ (H : Heap) (locs : List Loc) (ls : Array Slot), va_P G vwCl (wm_X2_lossesTogether cA h0 h0_losses h0_outputs s0__length s0__overs s0__halted s0__haltedBy s0_losses) H → va_D A (wm_X2_lossesTogether cA h0 h0_losses h0_outputs s0__length s0__overs s0__halted s0__haltedBy s0_losses) → va_S A s.heap H locs → lv_has ls 3 [] → W p l e (rmX 1 40) s m ar below meth c H locs 0 0 Q (F0 m 36 ls [])) → W p l e (rmX 1 40) s m ar below meth c H locs 0 0 Q (F0 m 2 ls []) := by
    intro n
    induction n with
    | zero =>
      intro y2 oE H locs ls hP hD hS hl hok
      rw [fX2_isFirstOfItsLevel_L2] at hok
      cases hok
    | succ n ih =>
      intro y2 oE H locs ls hP hD hS hl hok  K0 K1
      rw [fX2_isFirstOfItsLevel_L2] at hok
      refine lv_iload_n hx hb dX2_isFirstOfItsLevel_2 rfl (lv_at hl 2 rfl) ?_
      refine lv_iload_n hx hb dX2_isFirstOfItsLevel_3 rfl (lv_at hl 1 rfl) ?_
      refine lv_icmp_ge (tgt := 36) hx hb dX2_isFirstOfItsLevel_4 (by decide) (fun c => ?_) (fun c => ?_)
      · replace hok := g_pos hok c
        cases hok
        exact K1 () rfl _ _ _ hP hD hS (lv_sub hl [] rfl)
      replace hok := g_neg hok c
      refine lv_iload_n hx hb dX2_isFirstOfItsLevel_7 rfl (lv_at hl 2 rfl) ?_
      refine lv_bipush (v := 40) hx hb dX2_isFirstOfItsLevel_8 (by decide) ?_
      refine lv_icmp_ge (tgt := 36) hx hb dX2_isFirstOfItsLevel_10 (by decide) (fun c => ?_) (fun c => ?_)
      · replace hok := g_pos hok c
        cases hok
        exact K1 () rfl _ _ _ hP hD hS (lv_sub hl [] rfl)
      replace hok := g_neg hok c
      refine lv_aload_n hx hb dX2_isFirstOfItsLevel_13 rfl (lv_at hl 0 rfl) ?_
      refine va_get (ci := 2) (v := .ref h0_losses) (C := RX2) (T := TX2) (N := 6) hx hb hts hinX2 hown hK hP 0 rfl rfl 1 (by decide) (hts _ (List.mem_of_getElem? (i := 1) rfl)) (fun _ h9 => h9) rfl dX2_isFirstOfItsLevel_14 ?_
      refine lv_iload_n hx hb dX2_isFirstOfItsLevel_17 rfl (lv_at hl 2 rfl) ?_
      obtain ⟨hin, hok⟩ := g_no hok
      refine x_iald (k := y2.toNatClampNeg) hx hb hK hP 1 0 rfl rfl hin rfl dX2_isFirstOfItsLevel_18 ?_
      refine lv_aload_n hx hb dX2_isFirstOfItsLevel_19 rfl (lv_at hl 0 rfl) ?_
      refine va_get (ci := 2) (v := .ref h0_losses) (C := RX2) (T := TX2) (N := 6) hx hb hts hinX2 hown hK hP 0 rfl rfl 1 (by decide) (hts _ (List.mem_of_getElem? (i := 1) rfl)) (fun _ h9 => h9) rfl dX2_isFirstOfItsLevel_20 ?_
      refine lv_iload_n hx hb dX2_isFirstOfItsLevel_23 rfl (lv_at hl 1 rfl) ?_
      obtain ⟨hin, hok⟩ := g_no hok
      refine x_iald (k := x1.toNatClampNeg) hx hb hK hP 1 0 rfl rfl hin rfl dX2_isFirstOfItsLevel_24 ?_
      refine lv_icmp_ne (tgt := 30) hx hb dX2_isFirstOfItsLevel_25 (by decide) (fun c => ?_) (fun c => ?_)
      · replace hok := g_neg hok c
        refine lv_iinc (v := (y2 + 1)) (lv' := [(2, .int (y2 + 1)), (0, .ref h0), (1, .int x1)]) hx hb dX2_isFirstOfItsLevel_30 hl (k := 2) rfl rfl (by decide) rfl (fun ls hl => ?_)
        refine lv_goto (tgt := 2) hx hb dX2_isFirstOfItsLevel_33 (by decide) ?_
        exact ih (y2 + 1) oE _ _ _ hP hD hS (lv_sub hl [1, 2, 0] rfl) hok K0 K1
      replace hok := g_pos hok c
      cases hok
      exact K0 () rfl _ _ _ hP hD hS (lv_sub hl [] rfl)
  unfold fX2_isFirstOfItsLevel at hok
  refine lv_iconst (v := 0) hx hb dX2_isFirstOfItsLevel_0 (by decide) ?_
  refine lv_istore_n (lv' := [(2, .int (0:Int32)), (0, .ref h0), (1, .int x1)]) hx hb dX2_isFirstOfItsLevel_1 rfl hl (by decide) rfl (fun ls hl => ?_)
  obtain ⟨o1, hq, hok⟩ := g_bnd1 hok
  refine L_2 FUEL (0:Int32) o1 _ _ _ hP hD hS (lv_sub hl [1, 2, 0] rfl) hq (fun _ ho H locs ls hP hD hS hl => ?_) (fun _ ho H locs ls hP hD hS hl => ?_)
  · subst ho
    replace hok := g_inl hok
    replace hok := g_c0 hok
    refine lv_iconst (v := 0) hx hb dX2_isFirstOfItsLevel_28 (by decide) ?_
    cases hok
    exact cr_z (ty := .boolean) (by decide +kernel) hx hb hr hlocks hQ dX2_isFirstOfItsLevel_29 hP hS
  subst ho
  replace hok := g_inr hok
  replace hok := g_c0 hok
  refine lv_iconst (v := 1) hx hb dX2_isFirstOfItsLevel_36 (by decide) ?_
  cases hok
  exact cr_z (ty := .boolean) (by decide +kernel) hx hb hr hlocks hQ dX2_isFirstOfItsLevel_37 hP hS
set_option maxHeartbeats 40000000 in
set_option maxRecDepth 100000 in
theorem c_X2_howManyLevels (l : Launch) (G : va_G) (cA : Nat → ClassId) (ts : Nat → Nat) (h0 : Nat) (h0_losses : Nat) (h0_outputs : Nat) (s0__length : Int32) (s0__overs : Int32) (s0__halted : Int32) (s0__haltedBy : Int32) (s0_losses : Nat → Int32) (r : Int32) (hok : fX2_howManyLevels s0__length s0_losses = some r) : Ct l G cA ts yX2_howManyLevels wsX2_howManyLevels 2 62 [.ref h0] (wm_X2_lossesTogether cA h0 h0_losses h0_outputs s0__length s0__overs s0__halted s0__haltedBy s0_losses) (wm_X2_lossesTogether cA h0 h0_losses h0_outputs s0__length s0__overs s0__halted s0__haltedBy s0_losses) (some (.int r)) := by
  refine Ct.intro (cc := cX2_howManyLevels) (maxL := 3) (ret := some .int) (by decide +kernel) rfl (Nat.le_of_ble_eq_true rfl) ?_
  intro p e s m ar below meth c A Q hx hb hr hml hown hlocks hts hK hZ hA hQ hP hD hS ls hl
  have hown : s.vm.findClass RX2 = some m.cls := hown
  have hinX2 : ∀ w ∈ wsX20, w ∈ wsX2_howManyLevels := fun _ h => List.mem_cons_of_mem _ (List.mem_append_right _ (h))
  have hl : lv_has ls 3 [(0, .ref h0)] := hl
  have hP : va_P G vwCl (wm_X2_lossesTogether cA h0 h0_losses h0_outputs s0__length s0__overs s0__halted s0__haltedBy s0_losses) s.heap := hP
  have hD : va_D A (wm_X2_lossesTogether cA h0 h0_losses h0_outputs s0__length s0__overs s0__halted s0__haltedBy s0_losses) := hD
  have L_4 : ∀ (n : Nat) (y1 : Int32) (y2 : Int32) (p0_0 : Int32) (H : Heap) (locs : List Loc) (ls : Array Slot), va_P G vwCl (wm_X2_lossesTogether cA h0 h0_losses h0_outputs s0__length s0__overs s0__halted s0__haltedBy s0_losses) H → va_D A (wm_X2_lossesTogether cA h0 h0_losses h0_outputs s0__length s0__overs s0__halted s0__haltedBy s0_losses) → va_S A s.heap H locs → lv_has ls 3 [(0, .ref h0), (1, .int y1), (2, .int y2)] → fX2_howManyLevels_L4 s0__length s0_losses n y1 y2 = some p0_0 → (∀ (H : Heap) (locs : List Loc) (ls : Array Slot), va_P G vwCl (wm_X2_lossesTogether cA h0 h0_losses h0_outputs s0__length s0__overs s0__halted s0__haltedBy s0_losses) H → va_D A (wm_X2_lossesTogether cA h0 h0_losses h0_outputs s0__length s0__overs s0__halted s0__haltedBy s0_losses) → va_S A s.heap H locs → lv_has ls 3 [(1, .int p0_0)] → W p l e (rmX 2 62) s m ar below meth c H locs 0 0 Q (F0 m 35 ls [])) → W p l e (rmX 2 62) s m ar below meth c H locs 0 0 Q (F0 m 4 ls []) := by
    intro n
    induction n with
    | zero =>
      intro y1 y2 p0_0 H locs ls hP hD hS hl hok
      rw [fX2_howManyLevels_L4] at hok
      cases hok
    | succ n ih =>
      intro y1 y2 p0_0 H locs ls hP hD hS hl hok K
      rw [fX2_howManyLevels_L4] at hok
      refine lv_iload_n hx hb dX2_howManyLevels_4 rfl (lv_at hl 2 rfl) ?_
      refine lv_aload_n hx hb dX2_howManyLevels_5 rfl (lv_at hl 0 rfl) ?_
      refine va_get (ci := 2) (v := .int s0__length) (C := RX2) (T := TX2) (N := 6) hx hb hts hinX2 hown hK hP 0 rfl rfl 2 (by decide) (hts _ (List.mem_of_getElem? (i := 1) rfl)) (fun _ h9 => h9) rfl dX2_howManyLevels_6 ?_
      refine lv_icmp_ge (tgt := 35) hx hb dX2_howManyLevels_9 (by decide) (fun c => ?_) (fun c => ?_)
      · replace hok := g_pos hok c
        cases hok
        exact K _ _ _ hP hD hS (lv_sub hl [1] rfl)
      replace hok := g_neg hok c
      refine lv_iload_n hx hb dX2_howManyLevels_12 rfl (lv_at hl 2 rfl) ?_
      refine lv_bipush (v := 40) hx hb dX2_howManyLevels_13 (by decide) ?_
      refine lv_icmp_ge (tgt := 35) hx hb dX2_howManyLevels_15 (by decide) (fun c => ?_) (fun c => ?_)
      · replace hok := g_pos hok c
        cases hok
        exact K _ _ _ hP hD hS (lv_sub hl [1] rfl)
      replace hok := g_neg hok c
      refine lv_aload_n hx hb dX2_howManyLevels_18 rfl (lv_at hl 0 rfl) ?_
      refine lv_iload_n hx hb dX2_howManyLevels_19 rfl (lv_at hl 2 rfl) ?_
      obtain ⟨r1, hq, hok⟩ := g_bnd1 hok
      refine cG (is := [0, 1]) (wc := (wm_X2_lossesTogether cA h0 h0_losses h0_outputs s0__length s0__overs s0__halted s0__haltedBy s0_losses)) (w1 := (wm_X2_lossesTogether cA h0 h0_losses h0_outputs s0__length s0__overs s0__halted s0__haltedBy s0_losses)) (rv := (some (.int r1))) (st1 := [.int r1]) (va_runV (Ts := wsX2_howManyLevels) (As := [.int y2]) (rest := []) ⟨hx, hb, hml, hown, hts⟩ (c_X2_isFirstOfItsLevel l G cA ts h0 h0_losses h0_outputs y2 s0__length s0__overs s0__halted s0__haltedBy s0_losses r1 hq H.size) (cwV 1 hts gX2_howManyLevels_X2_isFirstOfItsLevel rfl rfl rfl (by decide +kernel) ⟨Nat.le_of_ble_eq_true rfl, Nat.le_of_ble_eq_true rfl⟩) (pre_V (ci := 2) (q0 := 0) (is := [0, 1]) rfl rfl hP hD hS hA hK hZ (by decide +kernel) (by rfl)) rfl rfl hl.1 rfl (by exact lv_room (Nat.le_of_ble_eq_true rfl)) dX2_howManyLevels_20 ⟨Nat.le_refl _, Nat.le_refl _⟩) hP hD hS hA (by decide +kernel) (by rfl) (by rfl) rfl (fun H locs hP hD hS => ?_)
      have hP : va_P G vwCl (wm_X2_lossesTogether cA h0 h0_losses h0_outputs s0__length s0__overs s0__halted s0__haltedBy s0_losses) H := hP
      have hD : va_D A (wm_X2_lossesTogether cA h0 h0_losses h0_outputs s0__length s0__overs s0__halted s0__haltedBy s0_losses) := hD
      refine lv_if_eq (tgt := 29) hx hb dX2_howManyLevels_23 (by decide) (fun c => ?_) (fun c => ?_)
      · replace hok := g_pos hok c
        refine lv_iinc (v := (y2 + 1)) (lv' := [(2, .int (y2 + 1)), (0, .ref h0), (1, .int y1)]) hx hb dX2_howManyLevels_29 hl (k := 2) rfl rfl (by decide) rfl (fun ls hl => ?_)
        refine lv_goto (tgt := 4) hx hb dX2_howManyLevels_32 (by decide) ?_
        exact ih y1 (y2 + 1) p0_0 _ _ _ hP hD hS (lv_sub hl [1, 2, 0] rfl) hok K
      replace hok := g_neg hok c
      refine lv_iinc (v := (y1 + 1)) (lv' := [(1, .int (y1 + 1)), (0, .ref h0), (2, .int y2)]) hx hb dX2_howManyLevels_26 hl (k := 1) rfl rfl (by decide) rfl (fun ls hl => ?_)
      refine lv_iinc (v := (y2 + 1)) (lv' := [(2, .int (y2 + 1)), (1, .int (y1 + 1)), (0, .ref h0)]) hx hb dX2_howManyLevels_29 hl (k := 2) rfl rfl (by decide) rfl (fun ls hl => ?_)
      refine lv_goto (tgt := 4) hx hb dX2_howManyLevels_32 (by decide) ?_
      exact ih (y1 + 1) (y2 + 1) p0_0 _ _ _ hP hD hS (lv_sub hl [2, 1, 0] rfl) hok K
  unfold fX2_howManyLevels at hok
  refine lv_iconst (v := 0) hx hb dX2_howManyLevels_0 (by decide) ?_
  refine lv_istore_n (lv' := [(1, .int (0:Int32)), (0, .ref h0)]) hx hb dX2_howManyLevels_1 rfl hl (by decide) rfl (fun ls hl => ?_)
  refine lv_iconst (v := 0) hx hb dX2_howManyLevels_2 (by decide) ?_
  refine lv_istore_n (lv' := [(2, .int (0:Int32)), (1, .int (0:Int32)), (0, .ref h0)]) hx hb dX2_howManyLevels_3 rfl hl (by decide) rfl (fun ls hl => ?_)
  obtain ⟨o2, hq, hok⟩ := g_bnd1 hok
  refine L_4 FUEL (0:Int32) (0:Int32) o2 _ _ _ hP hD hS (lv_sub hl [2, 1, 0] rfl) hq (fun H locs ls hP hD hS hl => ?_)
  refine lv_iload_n hx hb dX2_howManyLevels_35 rfl (lv_at hl 0 rfl) ?_
  cases hok
  exact cr_i hx hb hr hlocks hQ dX2_howManyLevels_36 hP hS
set_option maxHeartbeats 40000000 in
set_option maxRecDepth 100000 in
theorem c_X2_placeOfLevel (l : Launch) (G : va_G) (cA : Nat → ClassId) (ts : Nat → Nat) (h0 : Nat) (h0_losses : Nat) (h0_outputs : Nat) (x1 : Int32) (s0__length : Int32) (s0__overs : Int32) (s0__halted : Int32) (s0__haltedBy : Int32) (s0_losses : Nat → Int32) (r : Int32) (hok : fX2_placeOfLevel x1 s0__length s0_losses = some r) : Ct l G cA ts yX2_placeOfLevel wsX2_placeOfLevel 2 62 [.ref h0, .int x1] (wm_X2_lossesTogether cA h0 h0_losses h0_outputs s0__length s0__overs s0__halted s0__haltedBy s0_losses) (wm_X2_lossesTogether cA h0 h0_losses h0_outputs s0__length s0__overs s0__halted s0__haltedBy s0_losses) (some (.int r)) := by
  refine Ct.intro (cc := cX2_placeOfLevel) (maxL := 4) (ret := some .int) (by decide +kernel) rfl (Nat.le_of_ble_eq_true rfl) ?_
  intro p e s m ar below meth c A Q hx hb hr hml hown hlocks hts hK hZ hA hQ hP hD hS ls hl
  have hown : s.vm.findClass RX2 = some m.cls := hown
  have hinX2 : ∀ w ∈ wsX20, w ∈ wsX2_placeOfLevel := fun _ h => List.mem_cons_of_mem _ (List.mem_append_right _ (h))
  have hl : lv_has ls 4 [(0, .ref h0), (1, .int x1)] := hl
  have hP : va_P G vwCl (wm_X2_lossesTogether cA h0 h0_losses h0_outputs s0__length s0__overs s0__halted s0__haltedBy s0_losses) s.heap := hP
  have hD : va_D A (wm_X2_lossesTogether cA h0 h0_losses h0_outputs s0__length s0__overs s0__halted s0__haltedBy s0_losses) := hD
  have L_4 : ∀ (n : Nat) (y2 : Int32) (y3 : Int32) (oE : ((Int32)) ⊕ (Unit)) (H : Heap) (locs : List Loc) (ls : Array Slot), va_P G vwCl (wm_X2_lossesTogether cA h0 h0_losses h0_outputs s0__length s0__overs s0__halted s0__haltedBy s0_losses) H → va_D A (wm_X2_lossesTogether cA h0 h0_losses h0_outputs s0__length s0__overs s0__halted s0__haltedBy s0_losses) → va_S A s.heap H locs → lv_has ls 4 [(0, .ref h0), (1, .int x1), (2, .int y2), (3, .int y3)] → fX2_placeOfLevel_L4 x1 s0__length s0_losses n y2 y3 = some oE → (∀ (p0_0 : Int32), oE = .inl p0_0 → ∀ (H : Heap) (locs : List Loc) (ls : Array Slot), va_P G vwCl (wm_X2_lossesTogether cA h0 h0_losses h0_outputs s0__length s0__overs s0__halted s0__haltedBy s0_losses) H → va_D A (wm_X2_lossesTogether cA h0 h0_losses h0_outputs s0__length s0__overs s0__halted s0__haltedBy s0_losses) → va_S A s.heap H locs → lv_has ls 4 [(3, .int p0_0)] → W p l e (rmX 2 62) s m ar below meth c H locs 0 0 Q (F0 m 34 ls [])) → (∀ (_ : Unit), oE = .inr (()) → ∀ (H : Heap) (locs : List Loc) (ls : Array Slot), va_P G vwCl (wm_X2_lossesTogether cA h0 h0_losses h0_outputs s0__length s0__overs s0__halted s0__haltedBy s0_losses) H → va_D A (wm_X2_lossesTogether cA h0 h0_losses h0_outputs s0__length s0__overs s0__halted s0__haltedBy s0_losses) → va_S A s.heap H locs → lv_has ls 4 [] → W p l e (rmX 2 62) s m ar below meth c H locs 0 0 Q (F0 m 42 ls [])) → W p l e (rmX 2 62) s m ar below meth c H locs 0 0 Q (F0 m 4 ls []) := by
    intro n
    induction n with
    | zero =>
      intro y2 y3 oE H locs ls hP hD hS hl hok
      rw [fX2_placeOfLevel_L4] at hok
      cases hok
    | succ n ih =>
      intro y2 y3 oE H locs ls hP hD hS hl hok  K0 K1
      rw [fX2_placeOfLevel_L4] at hok
      refine lv_iload_n hx hb dX2_placeOfLevel_4 rfl (lv_at hl 3 rfl) ?_
      refine lv_aload_n hx hb dX2_placeOfLevel_5 rfl (lv_at hl 0 rfl) ?_
      refine va_get (ci := 2) (v := .int s0__length) (C := RX2) (T := TX2) (N := 6) hx hb hts hinX2 hown hK hP 0 rfl rfl 2 (by decide) (hts _ (List.mem_of_getElem? (i := 1) rfl)) (fun _ h9 => h9) rfl dX2_placeOfLevel_6 ?_
      refine lv_icmp_ge (tgt := 42) hx hb dX2_placeOfLevel_9 (by decide) (fun c => ?_) (fun c => ?_)
      · replace hok := g_pos hok c
        cases hok
        exact K1 () rfl _ _ _ hP hD hS (lv_sub hl [] rfl)
      replace hok := g_neg hok c
      refine lv_iload_n hx hb dX2_placeOfLevel_12 rfl (lv_at hl 3 rfl) ?_
      refine lv_bipush (v := 40) hx hb dX2_placeOfLevel_13 (by decide) ?_
      refine lv_icmp_ge (tgt := 42) hx hb dX2_placeOfLevel_15 (by decide) (fun c => ?_) (fun c => ?_)
      · replace hok := g_pos hok c
        cases hok
        exact K1 () rfl _ _ _ hP hD hS (lv_sub hl [] rfl)
      replace hok := g_neg hok c
      refine lv_aload_n hx hb dX2_placeOfLevel_18 rfl (lv_at hl 0 rfl) ?_
      refine lv_iload_n hx hb dX2_placeOfLevel_19 rfl (lv_at hl 3 rfl) ?_
      obtain ⟨r1, hq, hok⟩ := g_bnd1 hok
      refine cG (is := [0, 1]) (wc := (wm_X2_lossesTogether cA h0 h0_losses h0_outputs s0__length s0__overs s0__halted s0__haltedBy s0_losses)) (w1 := (wm_X2_lossesTogether cA h0 h0_losses h0_outputs s0__length s0__overs s0__halted s0__haltedBy s0_losses)) (rv := (some (.int r1))) (st1 := [.int r1]) (va_runV (Ts := wsX2_placeOfLevel) (As := [.int y3]) (rest := []) ⟨hx, hb, hml, hown, hts⟩ (c_X2_isFirstOfItsLevel l G cA ts h0 h0_losses h0_outputs y3 s0__length s0__overs s0__halted s0__haltedBy s0_losses r1 hq H.size) (cwV 1 hts gX2_placeOfLevel_X2_isFirstOfItsLevel rfl rfl rfl (by decide +kernel) ⟨Nat.le_of_ble_eq_true rfl, Nat.le_of_ble_eq_true rfl⟩) (pre_V (ci := 2) (q0 := 0) (is := [0, 1]) rfl rfl hP hD hS hA hK hZ (by decide +kernel) (by rfl)) rfl rfl hl.1 rfl (by exact lv_room (Nat.le_of_ble_eq_true rfl)) dX2_placeOfLevel_20 ⟨Nat.le_refl _, Nat.le_refl _⟩) hP hD hS hA (by decide +kernel) (by rfl) (by rfl) rfl (fun H locs hP hD hS => ?_)
      have hP : va_P G vwCl (wm_X2_lossesTogether cA h0 h0_losses h0_outputs s0__length s0__overs s0__halted s0__haltedBy s0_losses) H := hP
      have hD : va_D A (wm_X2_lossesTogether cA h0 h0_losses h0_outputs s0__length s0__overs s0__halted s0__haltedBy s0_losses) := hD
      refine lv_if_eq (tgt := 36) hx hb dX2_placeOfLevel_23 (by decide) (fun c => ?_) (fun c => ?_)
      · replace hok := g_pos hok c
        refine lv_iinc (v := (y3 + 1)) (lv' := [(3, .int (y3 + 1)), (0, .ref h0), (1, .int x1), (2, .int y2)]) hx hb dX2_placeOfLevel_36 hl (k := 3) rfl rfl (by decide) rfl (fun ls hl => ?_)
        refine lv_goto (tgt := 4) hx hb dX2_placeOfLevel_39 (by decide) ?_
        exact ih y2 (y3 + 1) oE _ _ _ hP hD hS (lv_sub hl [1, 2, 3, 0] rfl) hok K0 K1
      replace hok := g_neg hok c
      refine lv_iinc (v := (y2 + 1)) (lv' := [(2, .int (y2 + 1)), (0, .ref h0), (1, .int x1), (3, .int y3)]) hx hb dX2_placeOfLevel_26 hl (k := 2) rfl rfl (by decide) rfl (fun ls hl => ?_)
      refine lv_iload_n hx hb dX2_placeOfLevel_29 rfl (lv_at hl 0 rfl) ?_
      refine lv_iload_n hx hb dX2_placeOfLevel_30 rfl (lv_at hl 2 rfl) ?_
      refine lv_icmp_ne (tgt := 36) hx hb dX2_placeOfLevel_31 (by decide) (fun c => ?_) (fun c => ?_)
      · replace hok := g_neg hok c
        refine lv_iinc (v := (y3 + 1)) (lv' := [(3, .int (y3 + 1)), (2, .int (y2 + 1)), (0, .ref h0), (1, .int x1)]) hx hb dX2_placeOfLevel_36 hl (k := 3) rfl rfl (by decide) rfl (fun ls hl => ?_)
        refine lv_goto (tgt := 4) hx hb dX2_placeOfLevel_39 (by decide) ?_
        exact ih (y2 + 1) (y3 + 1) oE _ _ _ hP hD hS (lv_sub hl [2, 3, 1, 0] rfl) hok K0 K1
      replace hok := g_pos hok c
      cases hok
      exact K0 _ rfl _ _ _ hP hD hS (lv_sub hl [3] rfl)
  unfold fX2_placeOfLevel at hok
  refine lv_iconst (v := -1) hx hb dX2_placeOfLevel_0 (by decide) ?_
  refine lv_istore_n (lv' := [(2, .int (-1:Int32)), (0, .ref h0), (1, .int x1)]) hx hb dX2_placeOfLevel_1 rfl hl (by decide) rfl (fun ls hl => ?_)
  refine lv_iconst (v := 0) hx hb dX2_placeOfLevel_2 (by decide) ?_
  refine lv_istore_n (lv' := [(3, .int (0:Int32)), (2, .int (-1:Int32)), (0, .ref h0), (1, .int x1)]) hx hb dX2_placeOfLevel_3 rfl hl (by decide) rfl (fun ls hl => ?_)
  obtain ⟨o2, hq, hok⟩ := g_bnd1 hok
  refine L_4 FUEL (-1:Int32) (0:Int32) o2 _ _ _ hP hD hS (lv_sub hl [2, 3, 1, 0] rfl) hq (fun p0_0 ho H locs ls hP hD hS hl => ?_) (fun _ ho H locs ls hP hD hS hl => ?_)
  · subst ho
    replace hok := g_inl hok
    replace hok := g_c1 hok
    refine lv_iload_n hx hb dX2_placeOfLevel_34 rfl (lv_at hl 0 rfl) ?_
    cases hok
    exact cr_i hx hb hr hlocks hQ dX2_placeOfLevel_35 hP hS
  subst ho
  replace hok := g_inr hok
  replace hok := g_c0 hok
  refine lv_iconst (v := -1) hx hb dX2_placeOfLevel_42 (by decide) ?_
  cases hok
  exact cr_i hx hb hr hlocks hQ dX2_placeOfLevel_43 hP hS
set_option maxHeartbeats 40000000 in
set_option maxRecDepth 100000 in
theorem c_X2_howOften (l : Launch) (G : va_G) (cA : Nat → ClassId) (ts : Nat → Nat) (h0 : Nat) (h0_losses : Nat) (h0_outputs : Nat) (x1 : Int32) (s0__length : Int32) (s0__overs : Int32) (s0__halted : Int32) (s0__haltedBy : Int32) (s0_losses : Nat → Int32) (r : Int32) (hok : fX2_howOften x1 s0__length s0_losses = some r) : Ct l G cA ts yX2_howOften wsX2_howOften 1 40 [.ref h0, .int x1] (wm_X2_lossesTogether cA h0 h0_losses h0_outputs s0__length s0__overs s0__halted s0__haltedBy s0_losses) (wm_X2_lossesTogether cA h0 h0_losses h0_outputs s0__length s0__overs s0__halted s0__haltedBy s0_losses) (some (.int r)) := by
  refine Ct.intro (cc := cX2_howOften) (maxL := 4) (ret := some .int) (by decide +kernel) rfl (Nat.le_of_ble_eq_true rfl) ?_
  intro p e s m ar below meth c A Q hx hb hr hml hown hlocks hts hK hZ hA hQ hP hD hS ls hl
  have hown : s.vm.findClass RX2 = some m.cls := hown
  have hinX2 : ∀ w ∈ wsX20, w ∈ wsX2_howOften := fun _ h => List.mem_cons_of_mem _ (List.mem_append_right _ (h))
  have hl : lv_has ls 4 [(0, .ref h0), (1, .int x1)] := hl
  have hP : va_P G vwCl (wm_X2_lossesTogether cA h0 h0_losses h0_outputs s0__length s0__overs s0__halted s0__haltedBy s0_losses) s.heap := hP
  have hD : va_D A (wm_X2_lossesTogether cA h0 h0_losses h0_outputs s0__length s0__overs s0__halted s0__haltedBy s0_losses) := hD
  have L_4 : ∀ (n : Nat) (y2 : Int32) (y3 : Int32) (p0_0 : Int32) (H : Heap) (locs : List Loc) (ls : Array Slot), va_P G vwCl (wm_X2_lossesTogether cA h0 h0_losses h0_outputs s0__length s0__overs s0__halted s0__haltedBy s0_losses) H → va_D A (wm_X2_lossesTogether cA h0 h0_losses h0_outputs s0__length s0__overs s0__halted s0__haltedBy s0_losses) → va_S A s.heap H locs → lv_has ls 4 [(0, .ref h0), (1, .int x1), (2, .int y2), (3, .int y3)] → fX2_howOften_L4 x1 s0__length s0_losses n y2 y3 = some p0_0 → (∀ (H : Heap) (locs : List Loc) (ls : Array Slot), va_P G vwCl (wm_X2_lossesTogether cA h0 h0_losses h0_outputs s0__length s0__overs s0__halted s0__haltedBy s0_losses) H → va_D A (wm_X2_lossesTogether cA h0 h0_losses h0_outputs s0__length s0__overs s0__halted s0__haltedBy s0_losses) → va_S A s.heap H locs → lv_has ls 4 [(2, .int p0_0)] → W p l e (rmX 1 40) s m ar below meth c H locs 0 0 Q (F0 m 37 ls [])) → W p l e (rmX 1 40) s m ar below meth c H locs 0 0 Q (F0 m 4 ls []) := by
    intro n
    induction n with
    | zero =>
      intro y2 y3 p0_0 H locs ls hP hD hS hl hok
      rw [fX2_howOften_L4] at hok
      cases hok
    | succ n ih =>
      intro y2 y3 p0_0 H locs ls hP hD hS hl hok K
      rw [fX2_howOften_L4] at hok
      refine lv_iload_n hx hb dX2_howOften_4 rfl (lv_at hl 3 rfl) ?_
      refine lv_aload_n hx hb dX2_howOften_5 rfl (lv_at hl 0 rfl) ?_
      refine va_get (ci := 2) (v := .int s0__length) (C := RX2) (T := TX2) (N := 6) hx hb hts hinX2 hown hK hP 0 rfl rfl 2 (by decide) (hts _ (List.mem_of_getElem? (i := 1) rfl)) (fun _ h9 => h9) rfl dX2_howOften_6 ?_
      refine lv_icmp_ge (tgt := 37) hx hb dX2_howOften_9 (by decide) (fun c => ?_) (fun c => ?_)
      · replace hok := g_pos hok c
        cases hok
        exact K _ _ _ hP hD hS (lv_sub hl [2] rfl)
      replace hok := g_neg hok c
      refine lv_iload_n hx hb dX2_howOften_12 rfl (lv_at hl 3 rfl) ?_
      refine lv_bipush (v := 40) hx hb dX2_howOften_13 (by decide) ?_
      refine lv_icmp_ge (tgt := 37) hx hb dX2_howOften_15 (by decide) (fun c => ?_) (fun c => ?_)
      · replace hok := g_pos hok c
        cases hok
        exact K _ _ _ hP hD hS (lv_sub hl [2] rfl)
      replace hok := g_neg hok c
      refine lv_aload_n hx hb dX2_howOften_18 rfl (lv_at hl 0 rfl) ?_
      refine va_get (ci := 2) (v := .ref h0_losses) (C := RX2) (T := TX2) (N := 6) hx hb hts hinX2 hown hK hP 0 rfl rfl 1 (by decide) (hts _ (List.mem_of_getElem? (i := 2) rfl)) (fun _ h9 => h9) rfl dX2_howOften_19 ?_
      refine lv_iload_n hx hb dX2_howOften_22 rfl (lv_at hl 3 rfl) ?_
      obtain ⟨hin, hok⟩ := g_no hok
      refine x_iald (k := y3.toNatClampNeg) hx hb hK hP 1 0 rfl rfl hin rfl dX2_howOften_23 ?_
      refine lv_iload_n hx hb dX2_howOften_24 rfl (lv_at hl 1 rfl) ?_
      refine lv_icmp_ne (tgt := 31) hx hb dX2_howOften_25 (by decide) (fun c => ?_) (fun c => ?_)
      · replace hok := g_neg hok c
        refine lv_iinc (v := (y3 + 1)) (lv' := [(3, .int (y3 + 1)), (0, .ref h0), (1, .int x1), (2, .int y2)]) hx hb dX2_howOften_31 hl (k := 3) rfl rfl (by decide) rfl (fun ls hl => ?_)
        refine lv_goto (tgt := 4) hx hb dX2_howOften_34 (by decide) ?_
        exact ih y2 (y3 + 1) p0_0 _ _ _ hP hD hS (lv_sub hl [1, 2, 3, 0] rfl) hok K
      replace hok := g_pos hok c
      refine lv_iinc (v := (y2 + 1)) (lv' := [(2, .int (y2 + 1)), (0, .ref h0), (1, .int x1), (3, .int y3)]) hx hb dX2_howOften_28 hl (k := 2) rfl rfl (by decide) rfl (fun ls hl => ?_)
      refine lv_iinc (v := (y3 + 1)) (lv' := [(3, .int (y3 + 1)), (2, .int (y2 + 1)), (0, .ref h0), (1, .int x1)]) hx hb dX2_howOften_31 hl (k := 3) rfl rfl (by decide) rfl (fun ls hl => ?_)
      refine lv_goto (tgt := 4) hx hb dX2_howOften_34 (by decide) ?_
      exact ih (y2 + 1) (y3 + 1) p0_0 _ _ _ hP hD hS (lv_sub hl [2, 3, 1, 0] rfl) hok K
  unfold fX2_howOften at hok
  refine lv_iconst (v := 0) hx hb dX2_howOften_0 (by decide) ?_
  refine lv_istore_n (lv' := [(2, .int (0:Int32)), (0, .ref h0), (1, .int x1)]) hx hb dX2_howOften_1 rfl hl (by decide) rfl (fun ls hl => ?_)
  refine lv_iconst (v := 0) hx hb dX2_howOften_2 (by decide) ?_
  refine lv_istore_n (lv' := [(3, .int (0:Int32)), (2, .int (0:Int32)), (0, .ref h0), (1, .int x1)]) hx hb dX2_howOften_3 rfl hl (by decide) rfl (fun ls hl => ?_)
  obtain ⟨o1, hq, hok⟩ := g_bnd1 hok
  refine L_4 FUEL (0:Int32) (0:Int32) o1 _ _ _ hP hD hS (lv_sub hl [2, 3, 1, 0] rfl) hq (fun H locs ls hP hD hS hl => ?_)
  refine lv_iload_n hx hb dX2_howOften_37 rfl (lv_at hl 0 rfl) ?_
  cases hok
  exact cr_i hx hb hr hlocks hQ dX2_howOften_38 hP hS
set_option maxHeartbeats 40000000 in
set_option maxRecDepth 100000 in
theorem c_X2_howManyLike (l : Launch) (G : va_G) (cA : Nat → ClassId) (ts : Nat → Nat) (h0 : Nat) (h0_outputs : Nat) (h1 : Nat) (h1_places : Nat) (h0_losses : Nat) (s0__length : Int32) (s0__overs : Int32) (s0__halted : Int32) (s0__haltedBy : Int32) (s0_outputs : Nat → Int32) (s1__sort : Int32) (s1__size : Int32) (s1_places : Nat → Int64) (r : Int32) (hok : fX2_howManyLike s0__length s0_outputs s1__size s1_places = some r) : Ct l G cA ts yX2_howManyLike wsX2_howManyLike 1 40 [.ref h0, .ref h1] (wm_X2_howManyLike cA h0 h0_outputs h1 h1_places h0_losses s0__length s0__overs s0__halted s0__haltedBy s0_outputs s1__sort s1__size s1_places) (wm_X2_howManyLike cA h0 h0_outputs h1 h1_places h0_losses s0__length s0__overs s0__halted s0__haltedBy s0_outputs s1__sort s1__size s1_places) (some (.int r)) := by
  refine Ct.intro (cc := cX2_howManyLike) (maxL := 4) (ret := some .int) (by decide +kernel) rfl (Nat.le_of_ble_eq_true rfl) ?_
  intro p e s m ar below meth c A Q hx hb hr hml hown hlocks hts hK hZ hA hQ hP hD hS ls hl
  have hown : s.vm.findClass RX2 = some m.cls := hown
  have hinX2 : ∀ w ∈ wsX20, w ∈ wsX2_howManyLike := fun _ h => List.mem_cons_of_mem _ (List.mem_append_left _ (List.mem_append_right _ (h)))
  have hinX4 : ∀ w ∈ wsX40, w ∈ wsX2_howManyLike := fun _ h => List.mem_cons_of_mem _ (List.mem_append_right _ (h))
  have hl : lv_has ls 4 [(0, .ref h0), (1, .ref h1)] := hl
  have hP : va_P G vwCl (wm_X2_howManyLike cA h0 h0_outputs h1 h1_places h0_losses s0__length s0__overs s0__halted s0__haltedBy s0_outputs s1__sort s1__size s1_places) s.heap := hP
  have hD : va_D A (wm_X2_howManyLike cA h0 h0_outputs h1 h1_places h0_losses s0__length s0__overs s0__halted s0__haltedBy s0_outputs s1__sort s1__size s1_places) := hD
  have L_4 : ∀ (n : Nat) (y2 : Int32) (y3 : Int32) (p0_0 : Int32) (H : Heap) (locs : List Loc) (ls : Array Slot), va_P G vwCl (wm_X2_howManyLike cA h0 h0_outputs h1 h1_places h0_losses s0__length s0__overs s0__halted s0__haltedBy s0_outputs s1__sort s1__size s1_places) H → va_D A (wm_X2_howManyLike cA h0 h0_outputs h1 h1_places h0_losses s0__length s0__overs s0__halted s0__haltedBy s0_outputs s1__sort s1__size s1_places) → va_S A s.heap H locs → lv_has ls 4 [(0, .ref h0), (1, .ref h1), (2, .int y2), (3, .int y3)] → fX2_howManyLike_L4 s0__length s0_outputs s1__size s1_places n y2 y3 = some p0_0 → (∀ (H : Heap) (locs : List Loc) (ls : Array Slot), va_P G vwCl (wm_X2_howManyLike cA h0 h0_outputs h1 h1_places h0_losses s0__length s0__overs s0__halted s0__haltedBy s0_outputs s1__sort s1__size s1_places) H → va_D A (wm_X2_howManyLike cA h0 h0_outputs h1 h1_places h0_losses s0__length s0__overs s0__halted s0__haltedBy s0_outputs s1__sort s1__size s1_places) → va_S A s.heap H locs → lv_has ls 4 [(2, .int p0_0)] → W p l e (rmX 1 40) s m ar below meth c H locs 0 0 Q (F0 m 57 ls [])) → W p l e (rmX 1 40) s m ar below meth c H locs 0 0 Q (F0 m 4 ls []) := by
    intro n
    induction n with
    | zero =>
      intro y2 y3 p0_0 H locs ls hP hD hS hl hok
      rw [fX2_howManyLike_L4] at hok
      cases hok
    | succ n ih =>
      intro y2 y3 p0_0 H locs ls hP hD hS hl hok K
      rw [fX2_howManyLike_L4] at hok
      refine lv_iload_n hx hb dX2_howManyLike_4 rfl (lv_at hl 3 rfl) ?_
      refine lv_aload_n hx hb dX2_howManyLike_5 rfl (lv_at hl 0 rfl) ?_
      refine va_get (ci := 2) (v := .int s0__length) (C := RX2) (T := TX2) (N := 6) hx hb hts hinX2 hown hK hP 0 rfl rfl 2 (by decide) (hts _ (List.mem_of_getElem? (i := 1) rfl)) (fun _ h9 => h9) rfl dX2_howManyLike_6 ?_
      refine lv_icmp_ge (tgt := 57) hx hb dX2_howManyLike_9 (by decide) (fun c => ?_) (fun c => ?_)
      · replace hok := g_pos hok c
        cases hok
        exact K _ _ _ hP hD hS (lv_sub hl [2] rfl)
      replace hok := g_neg hok c
      refine lv_iload_n hx hb dX2_howManyLike_12 rfl (lv_at hl 3 rfl) ?_
      refine lv_aload_n hx hb dX2_howManyLike_13 rfl (lv_at hl 1 rfl) ?_
      refine va_get (ci := 4) (v := .int s1__size) (C := RX4) (T := TX4) (N := 3) hx hb hts hinX4 hown hK hP 2 rfl rfl 2 (by decide) (hts _ (List.mem_of_getElem? (i := 2) rfl)) (fun _ h9 => h9) rfl dX2_howManyLike_14 ?_
      refine lv_icmp_ge (tgt := 57) hx hb dX2_howManyLike_17 (by decide) (fun c => ?_) (fun c => ?_)
      · replace hok := g_pos hok c
        cases hok
        exact K _ _ _ hP hD hS (lv_sub hl [2] rfl)
      replace hok := g_neg hok c
      refine lv_iload_n hx hb dX2_howManyLike_20 rfl (lv_at hl 3 rfl) ?_
      refine lv_bipush (v := 40) hx hb dX2_howManyLike_21 (by decide) ?_
      refine lv_icmp_ge (tgt := 57) hx hb dX2_howManyLike_23 (by decide) (fun c => ?_) (fun c => ?_)
      · replace hok := g_pos hok c
        cases hok
        exact K _ _ _ hP hD hS (lv_sub hl [2] rfl)
      replace hok := g_neg hok c
      refine lv_iload_n hx hb dX2_howManyLike_26 rfl (lv_at hl 2 rfl) ?_
      refine lv_iload_n hx hb dX2_howManyLike_27 rfl (lv_at hl 3 rfl) ?_
      refine lv_icmp_ne (tgt := 57) hx hb dX2_howManyLike_28 (by decide) (fun c => ?_) (fun c => ?_)
      · replace hok := g_neg hok c
        cases hok
        exact K _ _ _ hP hD hS (lv_sub hl [2] rfl)
      replace hok := g_pos hok c
      refine lv_aload_n hx hb dX2_howManyLike_31 rfl (lv_at hl 1 rfl) ?_
      refine va_get (ci := 4) (v := .ref h1_places) (C := RX4) (T := TX4) (N := 3) hx hb hts hinX4 hown hK hP 2 rfl rfl 0 (by decide) (hts _ (List.mem_of_getElem? (i := 3) rfl)) (fun _ h9 => h9) rfl dX2_howManyLike_32 ?_
      refine lv_iload_n hx hb dX2_howManyLike_35 rfl (lv_at hl 3 rfl) ?_
      obtain ⟨hin, hok⟩ := g_no hok
      refine x_lald (k := y3.toNatClampNeg) hx hb hK hP 3 1 rfl rfl hin rfl dX2_howManyLike_36 ?_
      refine lv_aload_n hx hb dX2_howManyLike_37 rfl (lv_at hl 0 rfl) ?_
      refine va_get (ci := 2) (v := .ref h0_outputs) (C := RX2) (T := TX2) (N := 6) hx hb hts hinX2 hown hK hP 0 rfl rfl 0 (by decide) (hts _ (List.mem_of_getElem? (i := 4) rfl)) (fun _ h9 => h9) rfl dX2_howManyLike_38 ?_
      refine lv_iload_n hx hb dX2_howManyLike_41 rfl (lv_at hl 3 rfl) ?_
      obtain ⟨hin, hok⟩ := g_no hok
      refine x_iald (k := y3.toNatClampNeg) hx hb hK hP 1 0 rfl rfl hin rfl dX2_howManyLike_42 ?_
      refine lv_i2l (v := ((s0_outputs y3.toNatClampNeg).toInt64)) hx hb dX2_howManyLike_43 rfl ?_
      refine W.lcmp hx hb dX2_howManyLike_44 ?_
      refine lv_if_ne (tgt := 51) hx hb dX2_howManyLike_45 (by decide) (fun c => ?_) (fun c => ?_)
      · replace hok := g_neg hok c
        refine lv_iinc (v := (y3 + 1)) (lv' := [(3, .int (y3 + 1)), (0, .ref h0), (1, .ref h1), (2, .int y2)]) hx hb dX2_howManyLike_51 hl (k := 3) rfl rfl (by decide) rfl (fun ls hl => ?_)
        refine lv_goto (tgt := 4) hx hb dX2_howManyLike_54 (by decide) ?_
        exact ih y2 (y3 + 1) p0_0 _ _ _ hP hD hS (lv_sub hl [1, 2, 3, 0] rfl) hok K
      replace hok := g_pos hok c
      refine lv_iinc (v := (y2 + 1)) (lv' := [(2, .int (y2 + 1)), (0, .ref h0), (1, .ref h1), (3, .int y3)]) hx hb dX2_howManyLike_48 hl (k := 2) rfl rfl (by decide) rfl (fun ls hl => ?_)
      refine lv_iinc (v := (y3 + 1)) (lv' := [(3, .int (y3 + 1)), (2, .int (y2 + 1)), (0, .ref h0), (1, .ref h1)]) hx hb dX2_howManyLike_51 hl (k := 3) rfl rfl (by decide) rfl (fun ls hl => ?_)
      refine lv_goto (tgt := 4) hx hb dX2_howManyLike_54 (by decide) ?_
      exact ih (y2 + 1) (y3 + 1) p0_0 _ _ _ hP hD hS (lv_sub hl [2, 3, 1, 0] rfl) hok K
  unfold fX2_howManyLike at hok
  refine lv_iconst (v := 0) hx hb dX2_howManyLike_0 (by decide) ?_
  refine lv_istore_n (lv' := [(2, .int (0:Int32)), (0, .ref h0), (1, .ref h1)]) hx hb dX2_howManyLike_1 rfl hl (by decide) rfl (fun ls hl => ?_)
  refine lv_iconst (v := 0) hx hb dX2_howManyLike_2 (by decide) ?_
  refine lv_istore_n (lv' := [(3, .int (0:Int32)), (2, .int (0:Int32)), (0, .ref h0), (1, .ref h1)]) hx hb dX2_howManyLike_3 rfl hl (by decide) rfl (fun ls hl => ?_)
  obtain ⟨o1, hq, hok⟩ := g_bnd1 hok
  refine L_4 FUEL (0:Int32) (0:Int32) o1 _ _ _ hP hD hS (lv_sub hl [2, 3, 1, 0] rfl) hq (fun H locs ls hP hD hS hl => ?_)
  refine lv_iload_n hx hb dX2_howManyLike_57 rfl (lv_at hl 0 rfl) ?_
  cases hok
  exact cr_i hx hb hr hlocks hQ dX2_howManyLike_58 hP hS
set_option maxHeartbeats 40000000 in
set_option maxRecDepth 100000 in
theorem c_X2_hasAsFirst (l : Launch) (G : va_G) (cA : Nat → ClassId) (ts : Nat → Nat) (h0 : Nat) (h0_outputs : Nat) (h1 : Nat) (h1_places : Nat) (h0_losses : Nat) (s0__length : Int32) (s0__overs : Int32) (s0__halted : Int32) (s0__haltedBy : Int32) (s0_outputs : Nat → Int32) (s1__sort : Int32) (s1__size : Int32) (s1_places : Nat → Int64) (r : Int32) (hok : fX2_hasAsFirst s0__length s0_outputs s1__size s1_places = some r) : Ct l G cA ts yX2_hasAsFirst wsX2_hasAsFirst 2 63 [.ref h0, .ref h1] (wm_X2_howManyLike cA h0 h0_outputs h1 h1_places h0_losses s0__length s0__overs s0__halted s0__haltedBy s0_outputs s1__sort s1__size s1_places) (wm_X2_howManyLike cA h0 h0_outputs h1 h1_places h0_losses s0__length s0__overs s0__halted s0__haltedBy s0_outputs s1__sort s1__size s1_places) (some (.int r)) := by
  refine Ct.intro (cc := cX2_hasAsFirst) (maxL := 2) (ret := some .boolean) (by decide +kernel) rfl (Nat.le_of_ble_eq_true rfl) ?_
  intro p e s m ar below meth c A Q hx hb hr hml hown hlocks hts hK hZ hA hQ hP hD hS ls hl
  have hown : s.vm.findClass RX2 = some m.cls := hown
  have hinX4 : ∀ w ∈ wsX40, w ∈ wsX2_hasAsFirst := fun _ h => List.mem_cons_of_mem _ (List.mem_append_left _ (List.mem_append_right _ (h)))
  have hl : lv_has ls 2 [(0, .ref h0), (1, .ref h1)] := hl
  have hP : va_P G vwCl (wm_X2_howManyLike cA h0 h0_outputs h1 h1_places h0_losses s0__length s0__overs s0__halted s0__haltedBy s0_outputs s1__sort s1__size s1_places) s.heap := hP
  have hD : va_D A (wm_X2_howManyLike cA h0 h0_outputs h1 h1_places h0_losses s0__length s0__overs s0__halted s0__haltedBy s0_outputs s1__sort s1__size s1_places) := hD
  unfold fX2_hasAsFirst at hok
  refine lv_aload_n hx hb dX2_hasAsFirst_0 rfl (lv_at hl 0 rfl) ?_
  refine lv_aload_n hx hb dX2_hasAsFirst_1 rfl (lv_at hl 1 rfl) ?_
  obtain ⟨r1, hq, hok⟩ := g_bnd1 hok
  refine cG (is := [0, 1, 2, 3]) (wc := (wm_X2_howManyLike cA h0 h0_outputs h1 h1_places h0_losses s0__length s0__overs s0__halted s0__haltedBy s0_outputs s1__sort s1__size s1_places)) (w1 := (wm_X2_howManyLike cA h0 h0_outputs h1 h1_places h0_losses s0__length s0__overs s0__halted s0__haltedBy s0_outputs s1__sort s1__size s1_places)) (rv := (some (.int r1))) (st1 := [.int r1]) (va_runV (Ts := wsX2_hasAsFirst) (As := [.ref h1]) (rest := []) ⟨hx, hb, hml, hown, hts⟩ (c_X2_howManyLike l G cA ts h0 h0_outputs h1 h1_places h0_losses s0__length s0__overs s0__halted s0__haltedBy s0_outputs s1__sort s1__size s1_places r1 hq s.heap.size) (cwV 1 hts gX2_hasAsFirst_X2_howManyLike rfl rfl rfl (by decide +kernel) ⟨Nat.le_of_ble_eq_true rfl, Nat.le_of_ble_eq_true rfl⟩) (pre_V (ci := 2) (q0 := 0) (is := [0, 1, 2, 3]) rfl rfl hP hD hS hA hK hZ (by decide +kernel) (by rfl)) rfl rfl hl.1 rfl (by exact lv_room (Nat.le_of_ble_eq_true rfl)) dX2_hasAsFirst_2 ⟨Nat.le_refl _, Nat.le_refl _⟩) hP hD hS hA (by decide +kernel) (by rfl) (by rfl) rfl (fun H locs hP hD hS => ?_)
  have hP : va_P G vwCl (wm_X2_howManyLike cA h0 h0_outputs h1 h1_places h0_losses s0__length s0__overs s0__halted s0__haltedBy s0_outputs s1__sort s1__size s1_places) H := hP
  have hD : va_D A (wm_X2_howManyLike cA h0 h0_outputs h1 h1_places h0_losses s0__length s0__overs s0__halted s0__haltedBy s0_outputs s1__sort s1__size s1_places) := hD
  refine lv_aload_n hx hb dX2_hasAsFirst_5 rfl (lv_at hl 1 rfl) ?_
  refine va_get (ci := 4) (v := .int s1__size) (C := RX4) (T := TX4) (N := 3) hx hb hts hinX4 hown hK hP 2 rfl rfl 2 (by decide) (hts _ (List.mem_of_getElem? (i := 1) rfl)) (fun _ h9 => h9) rfl dX2_hasAsFirst_6 ?_
  refine lv_icmp_ne (tgt := 16) hx hb dX2_hasAsFirst_9 (by decide) (fun c => ?_) (fun c => ?_)
  · replace hok := g_neg hok c
    refine lv_iconst (v := 0) hx hb dX2_hasAsFirst_16 (by decide) ?_
    cases hok
    exact cr_z (ty := .boolean) (by decide +kernel) hx hb hr hlocks hQ dX2_hasAsFirst_17 hP hS
  replace hok := g_pos hok c
  refine lv_iconst (v := 1) hx hb dX2_hasAsFirst_12 (by decide) ?_
  refine lv_goto (tgt := 17) hx hb dX2_hasAsFirst_13 (by decide) ?_
  cases hok
  exact cr_z (ty := .boolean) (by decide +kernel) hx hb hr hlocks hQ dX2_hasAsFirst_17 hP hS
