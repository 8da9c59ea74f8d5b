set_option maxHeartbeats 40000000 in
set_option maxRecDepth 100000 in
theorem c_J0_isLatin1_aae02 (l : Launch) (G : va_G) (cA : Nat → ClassId) (ts : Nat → Nat) (r : Int32) (hok : fJ0_isLatin1_aae02  = some r) : Ct l G cA ts yJ0_isLatin1_aae02 wsJ0_isLatin1_aae02 1 40 [.ref (ts 6)] (wm_X0_find cA) (wm_X0_find cA) (some (.int r)) := by
  refine Ct.introF (cc := cJ0_isLatin1_aae02) (maxL := 1) (ret := some .boolean) (by decide +kernel) rfl (Nat.le_of_ble_eq_true rfl) ?_
  intro p e s m ar below meth c A Q hx hb hr hml hown hlocks hts hK hZ hA hQ hP hD hS ls hl
  have hown : s.vm.findClass RJ0 = some m.cls := hown
  have hl : lv_has ls 1 [(0, .ref (ts 6))] := hl
  have hP : va_P G vwCl (wm_X0_find cA) s.heap := hP
  have hD : va_D A (wm_X0_find cA) := hD
  unfold fJ0_isLatin1_aae02 at hok
  refine va_gets hx hb hZ.1.2.1 hS hown (hts _ (List.mem_of_getElem? (i := 1) rfl)) (fun _ h9 => h9) dJ0_isLatin1_aae02_0 ?_
  refine lv_if_eq (tgt := 17) hx hb dJ0_isLatin1_aae02_3 (by decide) (fun c => ?_) (fun c => ?_)
  · replace hok := g_pos hok c
    refine lv_iconst (v := 0) hx hb dJ0_isLatin1_aae02_17 (by decide) ?_
    cases hok
    exact cr_z (ty := .boolean) (by decide +kernel) hx hb hr hlocks hQ dJ0_isLatin1_aae02_18 hP hS
  replace hok := g_neg hok c
  refine lv_aload_n hx hb dJ0_isLatin1_aae02_6 rfl (lv_at hl 0 rfl) ?_
  refine vk_getf hx hb hZ.1.2.2.2.1 hS hown (hts _ (List.mem_of_getElem? (i := 2) rfl)) (fun _ h9 => h9) dJ0_isLatin1_aae02_7 ?_
  refine lv_if_ne (tgt := 17) hx hb dJ0_isLatin1_aae02_10 (by decide) (fun c => ?_) (fun c => ?_)
  · replace hok := g_neg hok c
    refine lv_iconst (v := 0) hx hb dJ0_isLatin1_aae02_17 (by decide) ?_
    cases hok
    exact cr_z (ty := .boolean) (by decide +kernel) hx hb hr hlocks hQ dJ0_isLatin1_aae02_18 hP hS
  replace hok := g_pos hok c
  refine lv_iconst (v := 1) hx hb dJ0_isLatin1_aae02_13 (by decide) ?_
  refine lv_goto (tgt := 18) hx hb dJ0_isLatin1_aae02_14 (by decide) ?_
  cases hok
  exact cr_z (ty := .boolean) (by decide +kernel) hx hb hr hlocks hQ dJ0_isLatin1_aae02_18 hP hS
set_option maxHeartbeats 40000000 in
set_option maxRecDepth 100000 in
theorem c_J0_coder_7d493 (l : Launch) (G : va_G) (cA : Nat → ClassId) (ts : Nat → Nat) (r : Int32) (hok : fJ0_coder_7d493  = some r) : Ct l G cA ts yJ0_coder_7d493 wsJ0_coder_7d493 1 40 [.ref (ts 6)] (wm_X0_find cA) (wm_X0_find cA) (some (.int r)) := by
  refine Ct.introF (cc := cJ0_coder_7d493) (maxL := 1) (ret := some .byte) (by decide +kernel) rfl (Nat.le_of_ble_eq_true rfl) ?_
  intro p e s m ar below meth c A Q hx hb hr hml hown hlocks hts hK hZ hA hQ hP hD hS ls hl
  have hown : s.vm.findClass RJ0 = some m.cls := hown
  have hl : lv_has ls 1 [(0, .ref (ts 6))] := hl
  have hP : va_P G vwCl (wm_X0_find cA) s.heap := hP
  have hD : va_D A (wm_X0_find cA) := hD
  unfold fJ0_coder_7d493 at hok
  refine va_gets hx hb hZ.1.2.1 hS hown (hts _ (List.mem_of_getElem? (i := 1) rfl)) (fun _ h9 => h9) dJ0_coder_7d493_0 ?_
  refine lv_if_eq (tgt := 13) hx hb dJ0_coder_7d493_3 (by decide) (fun c => ?_) (fun c => ?_)
  · replace hok := g_pos hok c
    cases hok
  replace hok := g_neg hok c
  refine lv_aload_n hx hb dJ0_coder_7d493_6 rfl (lv_at hl 0 rfl) ?_
  refine vk_getf hx hb hZ.1.2.2.2.1 hS hown (hts _ (List.mem_of_getElem? (i := 2) rfl)) (fun _ h9 => h9) dJ0_coder_7d493_7 ?_
  refine lv_goto (tgt := 14) hx hb dJ0_coder_7d493_10 (by decide) ?_
  cases hok
  exact cr_z (ty := .byte) (by decide +kernel) hx hb hr hlocks hQ dJ0_coder_7d493_14 hP hS
set_option maxHeartbeats 40000000 in
set_option maxRecDepth 100000 in
theorem c_J0_length_8abf5 (l : Launch) (G : va_G) (cA : Nat → ClassId) (ts : Nat → Nat) (r : Int32) (hok : fJ0_length_8abf5  = some r) : Ct l G cA ts yJ0_length_8abf5 wsJ0_length_8abf5 2 60 [.ref (ts 6)] (wm_X0_find cA) (wm_X0_find cA) (some (.int r)) := by
  refine Ct.introF (cc := cJ0_length_8abf5) (maxL := 1) (ret := some .int) (by decide +kernel) rfl (Nat.le_of_ble_eq_true rfl) ?_
  intro p e s m ar below meth c A Q hx hb hr hml hown hlocks hts hK hZ hA hQ hP hD hS ls hl
  have hown : s.vm.findClass RJ0 = some m.cls := hown
  have hl : lv_has ls 1 [(0, .ref (ts 6))] := hl
  have hP : va_P G vwCl (wm_X0_find cA) s.heap := hP
  have hD : va_D A (wm_X0_find cA) := hD
  unfold fJ0_length_8abf5 at hok
  refine lv_aload_n hx hb dJ0_length_8abf5_0 rfl (lv_at hl 0 rfl) ?_
  refine vk_getf hx hb hZ.1.2.2.2.2.1 hS hown (hts _ (List.mem_of_getElem? (i := 1) rfl)) (fun _ h9 => h9) dJ0_length_8abf5_1 ?_
  refine va_tlen (v := 10) hx hb hZ.1.2.2.2.2.2 hS rfl dJ0_length_8abf5_4 ?_
  refine lv_aload_n hx hb dJ0_length_8abf5_5 rfl (lv_at hl 0 rfl) ?_
  obtain ⟨r1, hq, hok⟩ := g_bnd1 hok
  refine cG (is := []) (wc := (wm_X0_find cA)) (w1 := (wm_X0_find cA)) (rv := (some (.int r1))) (st1 := [.int r1, .int (10:Int32)]) (va_runV (Ts := wsJ0_length_8abf5) (As := []) (rest := [.int (10:Int32)]) ⟨hx, hb, hml, hown, hts⟩ (c_J0_coder_7d493 l G cA ts r1 hq s.heap.size) (cwV 0 hts gJ0_length_8abf5_J0_coder_7d493 rfl rfl rfl (by decide +kernel) ⟨Nat.le_of_ble_eq_true rfl, Nat.le_of_ble_eq_true rfl⟩) (pre_Vs (is := []) hP hD hS hA hK hZ (by decide +kernel) (by rfl)) rfl rfl hl.1 rfl (by exact lv_room (Nat.le_of_ble_eq_true rfl)) dJ0_length_8abf5_6 ⟨Nat.le_refl _, Nat.le_refl _⟩) hP hD hS hA (by decide +kernel) (by rfl) (by rfl) rfl (fun H locs hP hD hS => ?_)
  have hP : va_P G vwCl (wm_X0_find cA) H := hP
  have hD : va_D A (wm_X0_find cA) := hD
  refine lv_ishr hx hb dJ0_length_8abf5_9 ?_
  cases hok
  exact cr_i hx hb hr hlocks hQ dJ0_length_8abf5_10 hP hS
set_option maxHeartbeats 40000000 in
set_option maxRecDepth 100000 in
theorem c_J1_canEncode_9a6ad (l : Launch) (G : va_G) (cA : Nat → ClassId) (ts : Nat → Nat) (x0 : Int32) (r : Int32) (hok : fJ1_canEncode_9a6ad x0 = some r) : Ct l G cA ts yJ1_canEncode_9a6ad wsJ1_canEncode_9a6ad 1 40 [.int x0] (wm_X0_find cA) (wm_X0_find cA) (some (.int r)) := by
  refine Ct.introF (cc := cJ1_canEncode_9a6ad) (maxL := 1) (ret := some .boolean) (by decide +kernel) rfl (Nat.le_of_ble_eq_true rfl) ?_
  intro p e s m ar below meth c A Q hx hb hr hml hown hlocks hts hK hZ hA hQ hP hD hS ls hl
  have hown : s.vm.findClass RJ1 = some m.cls := hown
  have hl : lv_has ls 1 [(0, .int x0)] := hl
  have hP : va_P G vwCl (wm_X0_find cA) s.heap := hP
  have hD : va_D A (wm_X0_find cA) := hD
  unfold fJ1_canEncode_9a6ad at hok
  refine lv_iload_n hx hb dJ1_canEncode_9a6ad_0 rfl (lv_at hl 0 rfl) ?_
  refine lv_if_lt (tgt := 15) hx hb dJ1_canEncode_9a6ad_1 (by decide) (fun c => ?_) (fun c => ?_)
  · replace hok := g_pos hok c
    refine lv_iconst (v := 0) hx hb dJ1_canEncode_9a6ad_15 (by decide) ?_
    cases hok
    exact cr_z (ty := .boolean) (by decide +kernel) hx hb hr hlocks hQ dJ1_canEncode_9a6ad_16 hP hS
  replace hok := g_neg hok c
  refine lv_iload_n hx hb dJ1_canEncode_9a6ad_4 rfl (lv_at hl 0 rfl) ?_
  refine lv_sipush (v := 255) hx hb dJ1_canEncode_9a6ad_5 (by decide) ?_
  refine lv_icmp_gt (tgt := 15) hx hb dJ1_canEncode_9a6ad_8 (by decide) (fun c => ?_) (fun c => ?_)
  · replace hok := g_pos hok c
    refine lv_iconst (v := 0) hx hb dJ1_canEncode_9a6ad_15 (by decide) ?_
    cases hok
    exact cr_z (ty := .boolean) (by decide +kernel) hx hb hr hlocks hQ dJ1_canEncode_9a6ad_16 hP hS
  replace hok := g_neg hok c
  refine lv_iconst (v := 1) hx hb dJ1_canEncode_9a6ad_11 (by decide) ?_
  refine lv_goto (tgt := 16) hx hb dJ1_canEncode_9a6ad_12 (by decide) ?_
  cases hok
  exact cr_z (ty := .boolean) (by decide +kernel) hx hb hr hlocks hQ dJ1_canEncode_9a6ad_16 hP hS
set_option maxHeartbeats 40000000 in
set_option maxRecDepth 100000 in
theorem c_J1_indexOfChar_4cfef (l : Launch) (G : va_G) (cA : Nat → ClassId) (ts : Nat → Nat) (x1 : Int32) (x2 : Int32) (x3 : Int32) (r : Int32) (hok : fJ1_indexOfChar_4cfef x1 x2 x3 = some r) : Ct l G cA ts yJ1_indexOfChar_4cfef wsJ1_indexOfChar_4cfef 1 40 [.ref (ts 7), .int x1, .int x2, .int x3] (wm_X0_find cA) (wm_X0_find cA) (some (.int r)) := by
  refine Ct.introF (cc := cJ1_indexOfChar_4cfef) (maxL := 6) (ret := some .int) (by decide +kernel) rfl (Nat.le_of_ble_eq_true rfl) ?_
  intro p e s m ar below meth c A Q hx hb hr hml hown hlocks hts hK hZ hA hQ hP hD hS ls hl
  have hown : s.vm.findClass RJ1 = some m.cls := hown
  have hl : lv_has ls 6 [(0, .ref (ts 7)), (1, .int x1), (2, .int x2), (3, .int x3)] := hl
  have hP : va_P G vwCl (wm_X0_find cA) s.heap := hP
  have hD : va_D A (wm_X0_find cA) := hD
  have L_7 : ∀ (n : Nat) (y4 : Int32) (y5 : Int32) (oE : ((Int32)) ⊕ (Unit)) (H : Heap) (locs : List Loc) (ls : Array Slot), va_P G vwCl (wm_X0_find cA) H → va_D A (wm_X0_find cA) → va_S A s.heap H locs → lv_has ls 6 [(0, .ref (ts 7)), (3, .int x3), (4, .int y4), (5, .int y5)] → fJ1_indexOfChar_4cfef_L7 x1 x2 x3 n y4 y5 = some oE → (∀ (p0_0 : Int32), oE = .inl p0_0 → ∀ (H : Heap) (locs : List Loc) (ls : Array Slot), va_P G vwCl (wm_X0_find cA) H → va_D A (wm_X0_find cA) → va_S A s.heap H locs → lv_has ls 6 [(5, .int p0_0)] → W p l e (rmX 1 40) s m ar below meth c H locs 0 0 Q (F0 m 22 ls [])) → (∀ (_ : Unit), oE = .inr (()) → ∀ (H : Heap) (locs : List Loc) (ls : Array Slot), va_P G vwCl (wm_X0_find cA) H → va_D A (wm_X0_find cA) → va_S A s.heap H locs → lv_has ls 6 [] → W p l e (rmX 1 40) s m ar below meth c H locs 0 0 Q (F0 m 31 ls [])) → W p l e (rmX 1 40) s m ar below meth c H locs 0 0 Q (F0 m 7 ls []) := by
    intro n
    induction n with
    | zero =>
      intro y4 y5 oE H locs ls hP hD hS hl hok
      rw [fJ1_indexOfChar_4cfef_L7] at hok
      cases hok
    | succ n ih =>
      intro y4 y5 oE H locs ls hP hD hS hl hok  K0 K1
      rw [fJ1_indexOfChar_4cfef_L7] at hok
      refine lv_iload hx hb dJ1_indexOfChar_4cfef_7 (lv_at hl 3 rfl) ?_
      refine lv_iload_n hx hb dJ1_indexOfChar_4cfef_9 rfl (lv_at hl 1 rfl) ?_
      refine lv_icmp_ge (tgt := 31) hx hb dJ1_indexOfChar_4cfef_10 (by decide) (fun c => ?_) (fun c => ?_)
      · replace hok := g_pos hok c
        cases hok
        exact K1 () rfl _ _ _ hP hD hS (lv_sub hl [] rfl)
      replace hok := g_neg hok c
      refine lv_aload_n hx hb dJ1_indexOfChar_4cfef_13 rfl (lv_at hl 0 rfl) ?_
      refine lv_iload hx hb dJ1_indexOfChar_4cfef_14 (lv_at hl 3 rfl) ?_
      obtain ⟨hin, hok⟩ := g_no hok
      refine va_tb (v := .int (tb tLET y5.toNatClampNeg)) hx hb hZ.1.2.2.2.2.2 hS hin rfl dJ1_indexOfChar_4cfef_16 ?_
      refine lv_iload hx hb dJ1_indexOfChar_4cfef_17 (lv_at hl 2 rfl) ?_
      refine lv_icmp_ne (tgt := 25) hx hb dJ1_indexOfChar_4cfef_19 (by decide) (fun c => ?_) (fun c => ?_)
      · replace hok := g_neg hok c
        refine lv_iinc (v := (y5 + 1)) (lv' := [(5, .int (y5 + 1)), (0, .ref (ts 7)), (3, .int x3), (4, .int y4)]) hx hb dJ1_indexOfChar_4cfef_25 hl (k := 3) rfl rfl (by decide) rfl (fun ls hl => ?_)
        refine lv_goto (tgt := 7) hx hb dJ1_indexOfChar_4cfef_28 (by decide) ?_
        exact ih y4 (y5 + 1) oE _ _ _ hP hD hS (lv_sub hl [1, 2, 3, 0] rfl) hok K0 K1
      replace hok := g_pos hok c
      cases hok
      exact K0 _ rfl _ _ _ hP hD hS (lv_sub hl [3] rfl)
  unfold fJ1_indexOfChar_4cfef at hok
  refine lv_iload_n hx hb dJ1_indexOfChar_4cfef_0 rfl (lv_at hl 1 rfl) ?_
  refine lv_i2b (v := (x1.toInt8.toInt32)) hx hb dJ1_indexOfChar_4cfef_1 rfl ?_
  refine lv_istore (lv' := [(4, .int (x1.toInt8.toInt32)), (0, .ref (ts 7)), (1, .int x1), (2, .int x2), (3, .int x3)]) hx hb dJ1_indexOfChar_4cfef_2 hl (by decide) rfl (fun ls hl => ?_)
  refine lv_iload_n hx hb dJ1_indexOfChar_4cfef_4 rfl (lv_at hl 3 rfl) ?_
  refine lv_istore (lv' := [(5, .int x2), (4, .int (x1.toInt8.toInt32)), (0, .ref (ts 7)), (1, .int x1), (2, .int x2), (3, .int x3)]) hx hb dJ1_indexOfChar_4cfef_5 hl (by decide) rfl (fun ls hl => ?_)
  obtain ⟨o1, hq, hok⟩ := g_bnd1 hok
  refine L_7 FUEL (x1.toInt8.toInt32) x2 o1 _ _ _ hP hD hS (lv_sub hl [2, 5, 1, 0] rfl) hq (fun p0_0 ho H locs ls hP hD hS hl => ?_) (fun _ ho H locs ls hP hD hS hl => ?_)
  · subst ho
    replace hok := g_inl hok
    replace hok := g_c1 hok
    refine lv_iload hx hb dJ1_indexOfChar_4cfef_22 (lv_at hl 0 rfl) ?_
    cases hok
    exact cr_i hx hb hr hlocks hQ dJ1_indexOfChar_4cfef_24 hP hS
  subst ho
  replace hok := g_inr hok
  replace hok := g_c0 hok
  refine lv_iconst (v := -1) hx hb dJ1_indexOfChar_4cfef_31 (by decide) ?_
  cases hok
  exact cr_i hx hb hr hlocks hQ dJ1_indexOfChar_4cfef_32 hP hS
set_option maxHeartbeats 40000000 in
set_option maxRecDepth 100000 in
theorem c_J1_indexOf_4cfef (l : Launch) (G : va_G) (cA : Nat → ClassId) (ts : Nat → Nat) (x1 : Int32) (x2 : Int32) (x3 : Int32) (r : Int32) (hok : fJ1_indexOf_4cfef x1 x2 x3 = some r) : Ct l G cA ts yJ1_indexOf_4cfef wsJ1_indexOf_4cfef 2 80 [.ref (ts 7), .int x1, .int x2, .int x3] (wm_X0_find cA) (wm_X0_find cA) (some (.int r)) := by
  refine Ct.introF (cc := cJ1_indexOf_4cfef) (maxL := 4) (ret := some .int) (by decide +kernel) rfl (Nat.le_of_ble_eq_true rfl) ?_
  intro p e s m ar below meth c A Q hx hb hr hml hown hlocks hts hK hZ hA hQ hP hD hS ls hl
  have hown : s.vm.findClass RJ1 = some m.cls := hown
  have hl : lv_has ls 4 [(0, .ref (ts 7)), (1, .int x1), (2, .int x2), (3, .int x3)] := hl
  have hP : va_P G vwCl (wm_X0_find cA) s.heap := hP
  have hD : va_D A (wm_X0_find cA) := hD
  unfold fJ1_indexOf_4cfef at hok
  refine lv_iload_n hx hb dJ1_indexOf_4cfef_0 rfl (lv_at hl 1 rfl) ?_
  obtain ⟨r1, hq, hok⟩ := g_bnd1 hok
  refine cG (is := []) (wc := (wm_X0_find cA)) (w1 := (wm_X0_find cA)) (rv := (some (.int r1))) (st1 := [.int r1]) (va_runS (Ts := wsJ1_indexOf_4cfef) (As := [.int x1]) (rest := []) ⟨hx, hb, hml, hown, hts⟩ (c_J1_canEncode_9a6ad l G cA ts x1 r1 hq s.heap.size) (va_cwS 1 hts gJ1_indexOf_4cfef_J1_canEncode_9a6ad rfl rfl rfl (by decide +kernel) ⟨Nat.le_of_ble_eq_true rfl, Nat.le_of_ble_eq_true rfl⟩) (pre_S (is := []) hP hD hS hA hK hZ (by decide +kernel) (by rfl)) rfl rfl hl.1 rfl (by exact lv_room (Nat.le_of_ble_eq_true rfl)) dJ1_indexOf_4cfef_1 ⟨Nat.le_refl _, Nat.le_refl _⟩) hP hD hS hA (by decide +kernel) (by rfl) (by rfl) rfl (fun H locs hP hD hS => ?_)
  have hP : va_P G vwCl (wm_X0_find cA) H := hP
  have hD : va_D A (wm_X0_find cA) := hD
  refine lv_if_ne (tgt := 9) hx hb dJ1_indexOf_4cfef_4 (by decide) (fun c => ?_) (fun c => ?_)
  · replace hok := g_neg hok c
    refine lv_iload_n hx hb dJ1_indexOf_4cfef_9 rfl (lv_at hl 2 rfl) ?_
    refine lv_iconst (v := 0) hx hb dJ1_indexOf_4cfef_10 (by decide) ?_
    refine va_mmax hx hb (hml.trans hl.1.symm) hown (hts _ (List.mem_of_getElem? (i := 1) rfl)) (hts _ (List.mem_of_getElem? (i := 2) rfl)) (hts _ (List.mem_of_getElem? (i := 3) rfl)) (hts _ (List.mem_of_getElem? (i := 4) rfl)) (Nat.le_of_ble_eq_true rfl) (Nat.le_of_ble_eq_true rfl) (Nat.zero_le _) (Nat.zero_le _) dJ1_indexOf_4cfef_11 ?_
    refine lv_istore_n (lv' := [(2, .int (if x2 < (0:Int32) then (0:Int32) else x2)), (0, .ref (ts 7)), (1, .int x1), (3, .int x3)]) hx hb dJ1_indexOf_4cfef_14 rfl hl (by decide) rfl (fun ls hl => ?_)
    refine lv_iload_n hx hb dJ1_indexOf_4cfef_15 rfl (lv_at hl 3 rfl) ?_
    refine lv_aload_n hx hb dJ1_indexOf_4cfef_16 rfl (lv_at hl 1 rfl) ?_
    refine va_tlen (v := 10) hx hb hZ.1.2.2.2.2.2 hS rfl dJ1_indexOf_4cfef_17 ?_
    refine va_mmin hx hb (hml.trans hl.1.symm) hown (hts _ (List.mem_of_getElem? (i := 5) rfl)) (hts _ (List.mem_of_getElem? (i := 6) rfl)) (hts _ (List.mem_of_getElem? (i := 3) rfl)) (hts _ (List.mem_of_getElem? (i := 7) rfl)) (Nat.le_of_ble_eq_true rfl) (Nat.le_of_ble_eq_true rfl) (Nat.zero_le _) (Nat.zero_le _) dJ1_indexOf_4cfef_18 ?_
    refine lv_istore_n (lv' := [(3, .int (if (10:Int32) < x3 then (10:Int32) else x3)), (2, .int (if x2 < (0:Int32) then (0:Int32) else x2)), (0, .ref (ts 7)), (1, .int x1)]) hx hb dJ1_indexOf_4cfef_21 rfl hl (by decide) rfl (fun ls hl => ?_)
    refine lv_iload_n hx hb dJ1_indexOf_4cfef_22 rfl (lv_at hl 1 rfl) ?_
    refine lv_iload_n hx hb dJ1_indexOf_4cfef_23 rfl (lv_at hl 0 rfl) ?_
    refine lv_icmp_lt (tgt := 29) hx hb dJ1_indexOf_4cfef_24 (by decide) (fun c => ?_) (fun c => ?_)
    · replace hok := g_pos hok c
      refine lv_aload_n hx hb dJ1_indexOf_4cfef_29 rfl (lv_at hl 2 rfl) ?_
      refine lv_iload_n hx hb dJ1_indexOf_4cfef_30 rfl (lv_at hl 3 rfl) ?_
      refine lv_iload_n hx hb dJ1_indexOf_4cfef_31 rfl (lv_at hl 1 rfl) ?_
      refine lv_iload_n hx hb dJ1_indexOf_4cfef_32 rfl (lv_at hl 0 rfl) ?_
      obtain ⟨r2, hq, hok⟩ := g_bnd1 hok
      refine cG (is := []) (wc := (wm_X0_find cA)) (w1 := (wm_X0_find cA)) (rv := (some (.int r2))) (st1 := [.int r2]) (va_runS (Ts := wsJ1_indexOf_4cfef) (As := [.ref (ts 7), .int x1, .int (if x2 < (0:Int32) then (0:Int32) else x2), .int (if (10:Int32) < x3 then (10:Int32) else x3)]) (rest := []) ⟨hx, hb, hml, hown, hts⟩ (c_J1_indexOfChar_4cfef l G cA ts x1 (if x2 < (0:Int32) then (0:Int32) else x2) (if (10:Int32) < x3 then (10:Int32) else x3) r2 hq H.size) (va_cwS 4 hts gJ1_indexOf_4cfef_J1_indexOfChar_4cfef rfl rfl rfl (by decide +kernel) ⟨Nat.le_of_ble_eq_true rfl, Nat.le_of_ble_eq_true rfl⟩) (pre_S (is := []) hP hD hS hA hK hZ (by decide +kernel) (by rfl)) rfl rfl hl.1 rfl (by exact lv_room (Nat.le_of_ble_eq_true rfl)) dJ1_indexOf_4cfef_33 ⟨Nat.le_refl _, Nat.le_refl _⟩) hP hD hS hA (by decide +kernel) (by rfl) (by rfl) rfl (fun H locs hP hD hS => ?_)
      have hP : va_P G vwCl (wm_X0_find cA) H := hP
      have hD : va_D A (wm_X0_find cA) := hD
      cases hok
      exact cr_i hx hb hr hlocks hQ dJ1_indexOf_4cfef_36 hP hS
    replace hok := g_neg hok c
    refine lv_iconst (v := -1) hx hb dJ1_indexOf_4cfef_27 (by decide) ?_
    cases hok
    exact cr_i hx hb hr hlocks hQ dJ1_indexOf_4cfef_28 hP hS
  replace hok := g_pos hok c
  refine lv_iconst (v := -1) hx hb dJ1_indexOf_4cfef_7 (by decide) ?_
  cases hok
  exact cr_i hx hb hr hlocks hQ dJ1_indexOf_4cfef_8 hP hS
set_option maxHeartbeats 40000000 in
set_option maxRecDepth 100000 in
theorem c_J0_indexOf_7cf53 (l : Launch) (G : va_G) (cA : Nat → ClassId) (ts : Nat → Nat) (x1 : Int32) (x2 : Int32) (r : Int32) (hok : fJ0_indexOf_7cf53 x1 x2 = some r) : Ct l G cA ts yJ0_indexOf_7cf53 wsJ0_indexOf_7cf53 3 103 [.ref (ts 6), .int x1, .int x2] (wm_X0_find cA) (wm_X0_find cA) (some (.int r)) := by
  refine Ct.introF (cc := cJ0_indexOf_7cf53) (maxL := 3) (ret := some .int) (by decide +kernel) rfl (Nat.le_of_ble_eq_true rfl) ?_
  intro p e s m ar below meth c A Q hx hb hr hml hown hlocks hts hK hZ hA hQ hP hD hS ls hl
  have hown : s.vm.findClass RJ0 = some m.cls := hown
  have hl : lv_has ls 3 [(0, .ref (ts 6)), (1, .int x1), (2, .int x2)] := hl
  have hP : va_P G vwCl (wm_X0_find cA) s.heap := hP
  have hD : va_D A (wm_X0_find cA) := hD
  unfold fJ0_indexOf_7cf53 at hok
  refine lv_aload_n hx hb dJ0_indexOf_7cf53_0 rfl (lv_at hl 0 rfl) ?_
  obtain ⟨r1, hq, hok⟩ := g_bnd1 hok
  refine cG (is := []) (wc := (wm_X0_find cA)) (w1 := (wm_X0_find cA)) (rv := (some (.int r1))) (st1 := [.int r1]) (va_runV (Ts := wsJ0_indexOf_7cf53) (As := []) (rest := []) ⟨hx, hb, hml, hown, hts⟩ (c_J0_isLatin1_aae02 l G cA ts r1 hq s.heap.size) (cwV 0 hts gJ0_indexOf_7cf53_J0_isLatin1_aae02 rfl rfl rfl (by decide +kernel) ⟨Nat.le_of_ble_eq_true rfl, Nat.le_of_ble_eq_true rfl⟩) (pre_Vs (is := []) hP hD hS hA hK hZ (by decide +kernel) (by rfl)) rfl rfl hl.1 rfl (by exact lv_room (Nat.le_of_ble_eq_true rfl)) dJ0_indexOf_7cf53_1 ⟨Nat.le_refl _, Nat.le_refl _⟩) hP hD hS hA (by decide +kernel) (by rfl) (by rfl) rfl (fun H locs hP hD hS => ?_)
  have hP : va_P G vwCl (wm_X0_find cA) H := hP
  have hD : va_D A (wm_X0_find cA) := hD
  refine lv_if_eq (tgt := 23) hx hb dJ0_indexOf_7cf53_4 (by decide) (fun c => ?_) (fun c => ?_)
  · replace hok := g_pos hok c
    cases hok
  replace hok := g_neg hok c
  refine lv_aload_n hx hb dJ0_indexOf_7cf53_7 rfl (lv_at hl 0 rfl) ?_
  refine vk_getf hx hb hZ.1.2.2.2.2.1 hS hown (hts _ (List.mem_of_getElem? (i := 1) rfl)) (fun _ h9 => h9) dJ0_indexOf_7cf53_8 ?_
  refine lv_iload_n hx hb dJ0_indexOf_7cf53_11 rfl (lv_at hl 1 rfl) ?_
  refine lv_iload_n hx hb dJ0_indexOf_7cf53_12 rfl (lv_at hl 2 rfl) ?_
  refine lv_aload_n hx hb dJ0_indexOf_7cf53_13 rfl (lv_at hl 0 rfl) ?_
  obtain ⟨r2, hq, hok⟩ := g_bnd1 hok
  refine cG (is := []) (wc := (wm_X0_find cA)) (w1 := (wm_X0_find cA)) (rv := (some (.int r2))) (st1 := [.int r2, .int x2, .int x1, .ref (ts 7)]) (va_runV (Ts := wsJ0_indexOf_7cf53) (As := []) (rest := [.int x2, .int x1, .ref (ts 7)]) ⟨hx, hb, hml, hown, hts⟩ (c_J0_length_8abf5 l G cA ts r2 hq H.size) (cwV 0 hts gJ0_indexOf_7cf53_J0_length_8abf5 rfl rfl rfl (by decide +kernel) ⟨Nat.le_of_ble_eq_true rfl, Nat.le_of_ble_eq_true rfl⟩) (pre_Vs (is := []) hP hD hS hA hK hZ (by decide +kernel) (by rfl)) rfl rfl hl.1 rfl (by exact lv_room (Nat.le_of_ble_eq_true rfl)) dJ0_indexOf_7cf53_14 ⟨Nat.le_refl _, Nat.le_refl _⟩) hP hD hS hA (by decide +kernel) (by rfl) (by rfl) rfl (fun H locs hP hD hS => ?_)
  have hP : va_P G vwCl (wm_X0_find cA) H := hP
  have hD : va_D A (wm_X0_find cA) := hD
  obtain ⟨r3, hq, hok⟩ := g_bnd1 hok
  refine cG (is := []) (wc := (wm_X0_find cA)) (w1 := (wm_X0_find cA)) (rv := (some (.int r3))) (st1 := [.int r3]) (va_runS (Ts := wsJ0_indexOf_7cf53) (As := [.ref (ts 7), .int x1, .int x2, .int r2]) (rest := []) ⟨hx, hb, hml, hown, hts⟩ (c_J1_indexOf_4cfef l G cA ts x1 x2 r2 r3 hq H.size) (va_cwS 4 hts gJ0_indexOf_7cf53_J1_indexOf_4cfef rfl rfl rfl (by decide +kernel) ⟨Nat.le_of_ble_eq_true rfl, Nat.le_of_ble_eq_true rfl⟩) (pre_S (is := []) hP hD hS hA hK hZ (by decide +kernel) (by rfl)) rfl rfl hl.1 rfl (by exact lv_room (Nat.le_of_ble_eq_true rfl)) dJ0_indexOf_7cf53_17 ⟨Nat.le_refl _, Nat.le_refl _⟩) hP hD hS hA (by decide +kernel) (by rfl) (by rfl) rfl (fun H locs hP hD hS => ?_)
  have hP : va_P G vwCl (wm_X0_find cA) H := hP
  have hD : va_D A (wm_X0_find cA) := hD
  refine lv_goto (tgt := 36) hx hb dJ0_indexOf_7cf53_20 (by decide) ?_
  cases hok
  exact cr_i hx hb hr hlocks hQ dJ0_indexOf_7cf53_36 hP hS
set_option maxHeartbeats 40000000 in
set_option maxRecDepth 100000 in
theorem c_J0_indexOf_0f7a4 (l : Launch) (G : va_G) (cA : Nat → ClassId) (ts : Nat → Nat) (x1 : Int32) (r : Int32) (hok : fJ0_indexOf_0f7a4 x1 = some r) : Ct l G cA ts yJ0_indexOf_0f7a4 wsJ0_indexOf_0f7a4 4 125 [.ref (ts 6), .int x1] (wm_X0_find cA) (wm_X0_find cA) (some (.int r)) := by
  refine Ct.introF (cc := cJ0_indexOf_0f7a4) (maxL := 2) (ret := some .int) (by decide +kernel) rfl (Nat.le_of_ble_eq_true rfl) ?_
  intro p e s m ar below meth c A Q hx hb hr hml hown hlocks hts hK hZ hA hQ hP hD hS ls hl
  have hown : s.vm.findClass RJ0 = some m.cls := hown
  have hl : lv_has ls 2 [(0, .ref (ts 6)), (1, .int x1)] := hl
  have hP : va_P G vwCl (wm_X0_find cA) s.heap := hP
  have hD : va_D A (wm_X0_find cA) := hD
  unfold fJ0_indexOf_0f7a4 at hok
  refine lv_aload_n hx hb dJ0_indexOf_0f7a4_0 rfl (lv_at hl 0 rfl) ?_
  refine lv_iload_n hx hb dJ0_indexOf_0f7a4_1 rfl (lv_at hl 1 rfl) ?_
  refine lv_iconst (v := 0) hx hb dJ0_indexOf_0f7a4_2 (by decide) ?_
  obtain ⟨r1, hq, hok⟩ := g_bnd1 hok
  refine cG (is := []) (wc := (wm_X0_find cA)) (w1 := (wm_X0_find cA)) (rv := (some (.int r1))) (st1 := [.int r1]) (va_runV (Ts := wsJ0_indexOf_0f7a4) (As := [.int x1, .int (0:Int32)]) (rest := []) ⟨hx, hb, hml, hown, hts⟩ (c_J0_indexOf_7cf53 l G cA ts x1 (0:Int32) r1 hq s.heap.size) (cwV 2 hts gJ0_indexOf_0f7a4_J0_indexOf_7cf53 rfl rfl rfl (by decide +kernel) ⟨Nat.le_of_ble_eq_true rfl, Nat.le_of_ble_eq_true rfl⟩) (pre_Vs (is := []) hP hD hS hA hK hZ (by decide +kernel) (by rfl)) rfl rfl hl.1 rfl (by exact lv_room (Nat.le_of_ble_eq_true rfl)) dJ0_indexOf_0f7a4_3 ⟨Nat.le_refl _, Nat.le_refl _⟩) hP hD hS hA (by decide +kernel) (by rfl) (by rfl) rfl (fun H locs hP hD hS => ?_)
  have hP : va_P G vwCl (wm_X0_find cA) H := hP
  have hD : va_D A (wm_X0_find cA) := hD
  cases hok
  exact cr_i hx hb hr hlocks hQ dJ0_indexOf_0f7a4_6 hP hS
set_option maxHeartbeats 40000000 in
set_option maxRecDepth 100000 in
theorem c_X6_beginsAct (l : Launch) (G : va_G) (cA : Nat → ClassId) (ts : Nat → Nat) (h0 : Nat) (h0_letters : Nat) (h0_firsts : Nat) (h0_seconds : Nat) (h0_bytes : Nat) (x1 : Int32) (s0__size : Int32) (s0__acts : Int32) (s0__state : Int32) (s0__numbersLeft : Int32) (s0__inSecond : Int32) (s0__isBelow : Int32) (s0_letters : Nat → Int32) (s0_firsts : Nat → Int32) (s0_seconds : Nat → Int32) (r : Int32) (o0__acts : Int32) (o0__state : Int32) (o0__numbersLeft : Int32) (o0__inSecond : Int32) (o0__isBelow : Int32) (o0_letters : Nat → Int32) (o0_firsts : Nat → Int32) (o0_seconds : Nat → Int32) (hok : fX6_beginsAct x1 s0__acts s0__state s0__numbersLeft s0__inSecond s0__isBelow s0_letters s0_firsts s0_seconds = some (r, o0__acts, o0__state, o0__numbersLeft, o0__inSecond, o0__isBelow, o0_letters, o0_firsts, o0_seconds)) : Ct l G cA ts yX6_beginsAct wsX6_beginsAct 5 146 [.ref h0, .int x1] (wm_X6_beginsAct cA h0 h0_letters h0_firsts h0_seconds h0_bytes s0__size s0__acts s0__state s0__numbersLeft s0__inSecond s0__isBelow s0_letters s0_firsts s0_seconds) (wm_X6_beginsAct cA h0 h0_letters h0_firsts h0_seconds h0_bytes s0__size o0__acts o0__state o0__numbersLeft o0__inSecond o0__isBelow o0_letters o0_firsts o0_seconds) (some (.int r)) := by
  refine Ct.intro (cc := cX6_beginsAct) (maxL := 3) (ret := some .boolean) (by decide +kernel) rfl (Nat.le_of_ble_eq_true rfl) ?_
  intro p e s m ar below meth c A Q hx hb hr hml hown hlocks hts hK hZ hA hQ hP hD hS ls hl
  have hown : s.vm.findClass RX6 = some m.cls := hown
  have hinX6 : ∀ w ∈ wsX60, w ∈ wsX6_beginsAct := fun _ h => List.mem_cons_of_mem _ (List.mem_append_right _ (h))
  have hl : lv_has ls 3 [(0, .ref h0), (1, .int x1)] := hl
  have hP : va_P G vwCl (wm_X6_beginsAct cA h0 h0_letters h0_firsts h0_seconds h0_bytes s0__size s0__acts s0__state s0__numbersLeft s0__inSecond s0__isBelow s0_letters s0_firsts s0_seconds) s.heap := hP
  have hD : va_D A (wm_X6_beginsAct cA h0 h0_letters h0_firsts h0_seconds h0_bytes s0__size s0__acts s0__state s0__numbersLeft s0__inSecond s0__isBelow s0_letters s0_firsts s0_seconds) := hD
  have J_87 : ∀ (z1 : Int32) (c0__acts : Int32) (c0__state : Int32) (c0__numbersLeft : Int32) (c0__inSecond : Int32) (c0__isBelow : Int32) (c0_letters : Nat → Int32) (c0_firsts : Nat → Int32) (c0_seconds : Nat → Int32) (H : Heap) (locs : List Loc) (ls : Array Slot), va_P G vwCl (wm_X6_beginsAct cA h0 h0_letters h0_firsts h0_seconds h0_bytes s0__size c0__acts c0__state c0__numbersLeft c0__inSecond c0__isBelow c0_letters c0_firsts c0_seconds) H → va_D A (wm_X6_beginsAct cA h0 h0_letters h0_firsts h0_seconds h0_bytes s0__size c0__acts c0__state c0__numbersLeft c0__inSecond c0__isBelow c0_letters c0_firsts c0_seconds) → va_S A s.heap H locs → lv_has ls 3 [(0, .ref h0)] → fX6_beginsAct_j87 x1 z1 c0__acts c0__state c0__numbersLeft c0__inSecond c0__isBelow c0_letters c0_firsts c0_seconds = some (r, o0__acts, o0__state, o0__numbersLeft, o0__inSecond, o0__isBelow, o0_letters, o0_firsts, o0_seconds) → W p l e (rmX 5 146) s m ar below meth c H locs 0 0 Q (F0 m 87 ls [.int z1, .ref h0]) := by
    intro z1 c0__acts c0__state c0__numbersLeft c0__inSecond c0__isBelow c0_letters c0_firsts c0_seconds H locs ls hP hD hS hl hok
    unfold fX6_beginsAct_j87 at hok
    refine va_put (D := G) (ci := 6) (v := .int z1) (ty := .int) (C := RX6) (T := TX6) (N := 10) hx hb hts hinX6 tyX6 tyX6_ok nmX6 hown hK hP hD hS 0 rfl rfl 7 (by decide) (hts _ (List.mem_of_getElem? (i := 5) rfl)) (fun _ h9 => h9) rfl (by decide +kernel) rfl rfl (Nat.le_of_ble_eq_true rfl) dX6_beginsAct_87 (fun H locs hP hD hS => ?_)
    have hP : va_P G vwCl (wm_X6_beginsAct cA h0 h0_letters h0_firsts h0_seconds h0_bytes s0__size c0__acts c0__state z1 c0__inSecond c0__isBelow c0_letters c0_firsts c0_seconds) H := hP
    have hD : va_D A (wm_X6_beginsAct cA h0 h0_letters h0_firsts h0_seconds h0_bytes s0__size c0__acts c0__state z1 c0__inSecond c0__isBelow c0_letters c0_firsts c0_seconds) := hD
    refine lv_aload_n hx hb dX6_beginsAct_90 rfl (lv_at hl 0 rfl) ?_
    refine lv_iconst (v := 0) hx hb dX6_beginsAct_91 (by decide) ?_
    refine va_put (D := G) (ci := 6) (v := .int (0:Int32)) (ty := .boolean) (C := RX6) (T := TX6) (N := 10) hx hb hts hinX6 tyX6 tyX6_ok nmX6 hown hK hP hD hS 0 rfl rfl 8 (by decide) (hts _ (List.mem_of_getElem? (i := 6) rfl)) (fun _ h9 => h9) rfl (by decide +kernel) (by decide +kernel) (by decide +kernel) (Nat.le_of_ble_eq_true rfl) dX6_beginsAct_92 (fun H locs hP hD hS => ?_)
    have hP : va_P G vwCl (wm_X6_beginsAct cA h0 h0_letters h0_firsts h0_seconds h0_bytes s0__size c0__acts c0__state z1 (0:Int32) c0__isBelow c0_letters c0_firsts c0_seconds) H := hP
    have hD : va_D A (wm_X6_beginsAct cA h0 h0_letters h0_firsts h0_seconds h0_bytes s0__size c0__acts c0__state z1 (0:Int32) c0__isBelow c0_letters c0_firsts c0_seconds) := hD
    refine lv_aload_n hx hb dX6_beginsAct_95 rfl (lv_at hl 0 rfl) ?_
    refine lv_iconst (v := 0) hx hb dX6_beginsAct_96 (by decide) ?_
    refine va_put (D := G) (ci := 6) (v := .int (0:Int32)) (ty := .boolean) (C := RX6) (T := TX6) (N := 10) hx hb hts hinX6 tyX6 tyX6_ok nmX6 hown hK hP hD hS 0 rfl rfl 9 (by decide) (hts _ (List.mem_of_getElem? (i := 7) rfl)) (fun _ h9 => h9) rfl (by decide +kernel) (by decide +kernel) (by decide +kernel) (Nat.le_of_ble_eq_true rfl) dX6_beginsAct_97 (fun H locs hP hD hS => ?_)
    have hP : va_P G vwCl (wm_X6_beginsAct cA h0 h0_letters h0_firsts h0_seconds h0_bytes s0__size c0__acts c0__state z1 (0:Int32) (0:Int32) c0_letters c0_firsts c0_seconds) H := hP
    have hD : va_D A (wm_X6_beginsAct cA h0 h0_letters h0_firsts h0_seconds h0_bytes s0__size c0__acts c0__state z1 (0:Int32) (0:Int32) c0_letters c0_firsts c0_seconds) := hD
    refine lv_aload_n hx hb dX6_beginsAct_100 rfl (lv_at hl 0 rfl) ?_
    refine lv_iconst (v := 1) hx hb dX6_beginsAct_101 (by decide) ?_
    refine va_put (D := G) (ci := 6) (v := .int (1:Int32)) (ty := .int) (C := RX6) (T := TX6) (N := 10) hx hb hts hinX6 tyX6 tyX6_ok nmX6 hown hK hP hD hS 0 rfl rfl 6 (by decide) (hts _ (List.mem_of_getElem? (i := 8) rfl)) (fun _ h9 => h9) rfl (by decide +kernel) rfl rfl (Nat.le_of_ble_eq_true rfl) dX6_beginsAct_102 (fun H locs hP hD hS => ?_)
    have hP : va_P G vwCl (wm_X6_beginsAct cA h0 h0_letters h0_firsts h0_seconds h0_bytes s0__size c0__acts (1:Int32) z1 (0:Int32) (0:Int32) c0_letters c0_firsts c0_seconds) H := hP
    have hD : va_D A (wm_X6_beginsAct cA h0 h0_letters h0_firsts h0_seconds h0_bytes s0__size c0__acts (1:Int32) z1 (0:Int32) (0:Int32) c0_letters c0_firsts c0_seconds) := hD
    refine lv_iconst (v := 1) hx hb dX6_beginsAct_105 (by decide) ?_
    cases hok
    exact cr_z (ty := .boolean) (by decide +kernel) hx hb hr hlocks hQ dX6_beginsAct_106 hP hS
  have J_82 : ∀ (c0__acts : Int32) (c0__state : Int32) (c0__numbersLeft : Int32) (c0__inSecond : Int32) (c0__isBelow : Int32) (c0_letters : Nat → Int32) (c0_firsts : Nat → Int32) (c0_seconds : Nat → Int32) (H : Heap) (locs : List Loc) (ls : Array Slot), va_P G vwCl (wm_X6_beginsAct cA h0 h0_letters h0_firsts h0_seconds h0_bytes s0__size c0__acts c0__state c0__numbersLeft c0__inSecond c0__isBelow c0_letters c0_firsts c0_seconds) H → va_D A (wm_X6_beginsAct cA h0 h0_letters h0_firsts h0_seconds h0_bytes s0__size c0__acts c0__state c0__numbersLeft c0__inSecond c0__isBelow c0_letters c0_firsts c0_seconds) → va_S A s.heap H locs → lv_has ls 3 [(0, .ref h0)] → fX6_beginsAct_j82 x1 c0__acts c0__state c0__numbersLeft c0__inSecond c0__isBelow c0_letters c0_firsts c0_seconds = some (r, o0__acts, o0__state, o0__numbersLeft, o0__inSecond, o0__isBelow, o0_letters, o0_firsts, o0_seconds) → W p l e (rmX 5 146) s m ar below meth c H locs 0 0 Q (F0 m 82 ls [.ref h0]) := by
    intro c0__acts c0__state c0__numbersLeft c0__inSecond c0__isBelow c0_letters c0_firsts c0_seconds H locs ls hP hD hS hl hok
    unfold fX6_beginsAct_j82 at hok
    refine lv_iconst (v := 1) hx hb dX6_beginsAct_82 (by decide) ?_
    refine lv_goto (tgt := 87) hx hb dX6_beginsAct_83 (by decide) ?_
    exact J_87 (1:Int32) c0__acts c0__state c0__numbersLeft c0__inSecond c0__isBelow c0_letters c0_firsts c0_seconds _ _ _ hP hD hS (lv_sub hl [0] rfl) hok
  unfold fX6_beginsAct at hok
  refine va_ldcS hx hb hown hZ.2.1 dX6_beginsAct_0 ?_
  refine lv_iload_n hx hb dX6_beginsAct_2 rfl (lv_at hl 1 rfl) ?_
  refine lv_i2c (v := ((x1.toUInt32 % 65536).toInt32)) hx hb dX6_beginsAct_3 rfl ?_
  obtain ⟨r1, hq, hok⟩ := g_bnd1 hok
  refine cG (is := []) (wc := (wm_X0_find cA)) (w1 := (wm_X0_find cA)) (rv := (some (.int r1))) (st1 := [.int r1]) (va_runV (Ts := wsX6_beginsAct) (As := [.int ((x1.toUInt32 % 65536).toInt32)]) (rest := []) ⟨hx, hb, hml, hown, hts⟩ (c_J0_indexOf_0f7a4 l G cA ts ((x1.toUInt32 % 65536).toInt32) r1 hq s.heap.size) (cwV 1 hts gX6_beginsAct_J0_indexOf_0f7a4 rfl rfl rfl (by decide +kernel) ⟨Nat.le_of_ble_eq_true rfl, Nat.le_of_ble_eq_true rfl⟩) (pre_Vs (is := []) hP hD hS hA hK hZ (by decide +kernel) (by rfl)) rfl rfl hl.1 rfl (by exact lv_room (Nat.le_of_ble_eq_true rfl)) dX6_beginsAct_4 ⟨Nat.le_refl _, Nat.le_refl _⟩) hP hD hS hA (by decide +kernel) (by rfl) (by rfl) rfl (fun H locs hP hD hS => ?_)
  have hP : va_P G vwCl (wm_X6_beginsAct cA h0 h0_letters h0_firsts h0_seconds h0_bytes s0__size s0__acts s0__state s0__numbersLeft s0__inSecond s0__isBelow s0_letters s0_firsts s0_seconds) H := hP
  have hD : va_D A (wm_X6_beginsAct cA h0 h0_letters h0_firsts h0_seconds h0_bytes s0__size s0__acts s0__state s0__numbersLeft s0__inSecond s0__isBelow s0_letters s0_firsts s0_seconds) := hD
  refine lv_istore_n (lv' := [(2, .int r1), (0, .ref h0), (1, .int x1)]) hx hb dX6_beginsAct_7 rfl hl (by decide) rfl (fun ls hl => ?_)
  refine lv_iload_n hx hb dX6_beginsAct_8 rfl (lv_at hl 0 rfl) ?_
  refine lv_if_lt (tgt := 28) hx hb dX6_beginsAct_9 (by decide) (fun c => ?_) (fun c => ?_)
  · replace hok := g_pos hok c
    refine lv_iconst (v := 0) hx hb dX6_beginsAct_28 (by decide) ?_
    cases hok
    exact cr_z (ty := .boolean) (by decide +kernel) hx hb hr hlocks hQ dX6_beginsAct_29 hP hS
  replace hok := g_neg hok c
  refine lv_aload_n hx hb dX6_beginsAct_12 rfl (lv_at hl 1 rfl) ?_
  refine va_get (ci := 6) (v := .int s0__acts) (C := RX6) (T := TX6) (N := 10) hx hb hts hinX6 hown hK hP 0 rfl rfl 5 (by decide) (hts _ (List.mem_of_getElem? (i := 1) rfl)) (fun _ h9 => h9) rfl dX6_beginsAct_13 ?_
  refine lv_if_lt (tgt := 28) hx hb dX6_beginsAct_16 (by decide) (fun c => ?_) (fun c => ?_)
  · replace hok := g_pos hok c
    refine lv_iconst (v := 0) hx hb dX6_beginsAct_28 (by decide) ?_
    cases hok
    exact cr_z (ty := .boolean) (by decide +kernel) hx hb hr hlocks hQ dX6_beginsAct_29 hP hS
  replace hok := g_neg hok c
  refine lv_aload_n hx hb dX6_beginsAct_19 rfl (lv_at hl 1 rfl) ?_
  refine va_get (ci := 6) (v := .int s0__acts) (C := RX6) (T := TX6) (N := 10) hx hb hts hinX6 hown hK hP 0 rfl rfl 5 (by decide) (hts _ (List.mem_of_getElem? (i := 1) rfl)) (fun _ h9 => h9) rfl dX6_beginsAct_20 ?_
  refine lv_bipush (v := 80) hx hb dX6_beginsAct_23 (by decide) ?_
  refine lv_icmp_lt (tgt := 30) hx hb dX6_beginsAct_25 (by decide) (fun c => ?_) (fun c => ?_)
  · replace hok := g_pos hok c
    refine lv_aload_n hx hb dX6_beginsAct_30 rfl (lv_at hl 1 rfl) ?_
    refine va_get (ci := 6) (v := .ref h0_letters) (C := RX6) (T := TX6) (N := 10) hx hb hts hinX6 hown hK hP 0 rfl rfl 2 (by decide) (hts _ (List.mem_of_getElem? (i := 2) rfl)) (fun _ h9 => h9) rfl dX6_beginsAct_31 ?_
    refine lv_aload_n hx hb dX6_beginsAct_34 rfl (lv_at hl 1 rfl) ?_
    refine va_get (ci := 6) (v := .int s0__acts) (C := RX6) (T := TX6) (N := 10) hx hb hts hinX6 hown hK hP 0 rfl rfl 5 (by decide) (hts _ (List.mem_of_getElem? (i := 1) rfl)) (fun _ h9 => h9) rfl dX6_beginsAct_35 ?_
    refine lv_iload_n hx hb dX6_beginsAct_38 rfl (lv_at hl 0 rfl) ?_
    obtain ⟨hin, hok⟩ := g_no hok
    refine x_iast (k := s0__acts.toNatClampNeg) hx hb hK hP hD hS 1 0 rfl rfl hin rfl dX6_beginsAct_39 (fun H locs hP hD hS => ?_)
    have hP : va_P G vwCl (wm_X6_beginsAct cA h0 h0_letters h0_firsts h0_seconds h0_bytes s0__size s0__acts s0__state s0__numbersLeft s0__inSecond s0__isBelow (upd s0_letters s0__acts.toNatClampNeg r1) s0_firsts s0_seconds) H := hP
    have hD : va_D A (wm_X6_beginsAct cA h0 h0_letters h0_firsts h0_seconds h0_bytes s0__size s0__acts s0__state s0__numbersLeft s0__inSecond s0__isBelow (upd s0_letters s0__acts.toNatClampNeg r1) s0_firsts s0_seconds) := hD
    refine lv_aload_n hx hb dX6_beginsAct_40 rfl (lv_at hl 1 rfl) ?_
    refine va_get (ci := 6) (v := .ref h0_firsts) (C := RX6) (T := TX6) (N := 10) hx hb hts hinX6 hown hK hP 0 rfl rfl 3 (by decide) (hts _ (List.mem_of_getElem? (i := 3) rfl)) (fun _ h9 => h9) rfl dX6_beginsAct_41 ?_
    refine lv_aload_n hx hb dX6_beginsAct_44 rfl (lv_at hl 1 rfl) ?_
    refine va_get (ci := 6) (v := .int s0__acts) (C := RX6) (T := TX6) (N := 10) hx hb hts hinX6 hown hK hP 0 rfl rfl 5 (by decide) (hts _ (List.mem_of_getElem? (i := 1) rfl)) (fun _ h9 => h9) rfl dX6_beginsAct_45 ?_
    refine lv_iconst (v := 0) hx hb dX6_beginsAct_48 (by decide) ?_
    obtain ⟨hin, hok⟩ := g_no hok
    refine x_iast (k := s0__acts.toNatClampNeg) hx hb hK hP hD hS 2 0 rfl rfl hin rfl dX6_beginsAct_49 (fun H locs hP hD hS => ?_)
    have hP : va_P G vwCl (wm_X6_beginsAct cA h0 h0_letters h0_firsts h0_seconds h0_bytes s0__size s0__acts s0__state s0__numbersLeft s0__inSecond s0__isBelow (upd s0_letters s0__acts.toNatClampNeg r1) (upd s0_firsts s0__acts.toNatClampNeg (0:Int32)) s0_seconds) H := hP
    have hD : va_D A (wm_X6_beginsAct cA h0 h0_letters h0_firsts h0_seconds h0_bytes s0__size s0__acts s0__state s0__numbersLeft s0__inSecond s0__isBelow (upd s0_letters s0__acts.toNatClampNeg r1) (upd s0_firsts s0__acts.toNatClampNeg (0:Int32)) s0_seconds) := hD
    refine lv_aload_n hx hb dX6_beginsAct_50 rfl (lv_at hl 1 rfl) ?_
    refine va_get (ci := 6) (v := .ref h0_seconds) (C := RX6) (T := TX6) (N := 10) hx hb hts hinX6 hown hK hP 0 rfl rfl 4 (by decide) (hts _ (List.mem_of_getElem? (i := 4) rfl)) (fun _ h9 => h9) rfl dX6_beginsAct_51 ?_
    refine lv_aload_n hx hb dX6_beginsAct_54 rfl (lv_at hl 1 rfl) ?_
    refine va_get (ci := 6) (v := .int s0__acts) (C := RX6) (T := TX6) (N := 10) hx hb hts hinX6 hown hK hP 0 rfl rfl 5 (by decide) (hts _ (List.mem_of_getElem? (i := 1) rfl)) (fun _ h9 => h9) rfl dX6_beginsAct_55 ?_
    refine lv_iconst (v := 0) hx hb dX6_beginsAct_58 (by decide) ?_
    obtain ⟨hin, hok⟩ := g_no hok
    refine x_iast (k := s0__acts.toNatClampNeg) hx hb hK hP hD hS 3 0 rfl rfl hin rfl dX6_beginsAct_59 (fun H locs hP hD hS => ?_)
    have hP : va_P G vwCl (wm_X6_beginsAct cA h0 h0_letters h0_firsts h0_seconds h0_bytes s0__size s0__acts s0__state s0__numbersLeft s0__inSecond s0__isBelow (upd s0_letters s0__acts.toNatClampNeg r1) (upd s0_firsts s0__acts.toNatClampNeg (0:Int32)) (upd s0_seconds s0__acts.toNatClampNeg (0:Int32))) H := hP
    have hD : va_D A (wm_X6_beginsAct cA h0 h0_letters h0_firsts h0_seconds h0_bytes s0__size s0__acts s0__state s0__numbersLeft s0__inSecond s0__isBelow (upd s0_letters s0__acts.toNatClampNeg r1) (upd s0_firsts s0__acts.toNatClampNeg (0:Int32)) (upd s0_seconds s0__acts.toNatClampNeg (0:Int32))) := hD
    refine lv_aload_n hx hb dX6_beginsAct_60 rfl (lv_at hl 1 rfl) ?_
    refine lv_dup hx hb dX6_beginsAct_61 rfl ?_
    refine va_get (ci := 6) (v := .int s0__acts) (C := RX6) (T := TX6) (N := 10) hx hb hts hinX6 hown hK hP 0 rfl rfl 5 (by decide) (hts _ (List.mem_of_getElem? (i := 1) rfl)) (fun _ h9 => h9) rfl dX6_beginsAct_62 ?_
    refine lv_iconst (v := 1) hx hb dX6_beginsAct_65 (by decide) ?_
    refine lv_iadd hx hb dX6_beginsAct_66 ?_
    refine va_put (D := G) (ci := 6) (v := .int (s0__acts + (1:Int32))) (ty := .int) (C := RX6) (T := TX6) (N := 10) hx hb hts hinX6 tyX6 tyX6_ok nmX6 hown hK hP hD hS 0 rfl rfl 5 (by decide) (hts _ (List.mem_of_getElem? (i := 1) rfl)) (fun _ h9 => h9) rfl (by decide +kernel) rfl rfl (Nat.le_of_ble_eq_true rfl) dX6_beginsAct_67 (fun H locs hP hD hS => ?_)
    have hP : va_P G vwCl (wm_X6_beginsAct cA h0 h0_letters h0_firsts h0_seconds h0_bytes s0__size (s0__acts + (1:Int32)) s0__state s0__numbersLeft s0__inSecond s0__isBelow (upd s0_letters s0__acts.toNatClampNeg r1) (upd s0_firsts s0__acts.toNatClampNeg (0:Int32)) (upd s0_seconds s0__acts.toNatClampNeg (0:Int32))) H := hP
    have hD : va_D A (wm_X6_beginsAct cA h0 h0_letters h0_firsts h0_seconds h0_bytes s0__size (s0__acts + (1:Int32)) s0__state s0__numbersLeft s0__inSecond s0__isBelow (upd s0_letters s0__acts.toNatClampNeg r1) (upd s0_firsts s0__acts.toNatClampNeg (0:Int32)) (upd s0_seconds s0__acts.toNatClampNeg (0:Int32))) := hD
    refine lv_aload_n hx hb dX6_beginsAct_70 rfl (lv_at hl 1 rfl) ?_
    refine lv_iload_n hx hb dX6_beginsAct_71 rfl (lv_at hl 0 rfl) ?_
    refine lv_iconst (v := 2) hx hb dX6_beginsAct_72 (by decide) ?_
    refine lv_icmp_eq (tgt := 82) hx hb dX6_beginsAct_73 (by decide) (fun c => ?_) (fun c => ?_)
    · replace hok := g_pos hok c
      exact J_82 (s0__acts + (1:Int32)) s0__state s0__numbersLeft s0__inSecond s0__isBelow (upd s0_letters s0__acts.toNatClampNeg r1) (upd s0_firsts s0__acts.toNatClampNeg (0:Int32)) (upd s0_seconds s0__acts.toNatClampNeg (0:Int32)) _ _ _ hP hD hS (lv_sub hl [1] rfl) hok
    replace hok := g_neg hok c
    refine lv_iload_n hx hb dX6_beginsAct_76 rfl (lv_at hl 0 rfl) ?_
    refine lv_bipush (v := 8) hx hb dX6_beginsAct_77 (by decide) ?_
    refine lv_icmp_ne (tgt := 86) hx hb dX6_beginsAct_79 (by decide) (fun c => ?_) (fun c => ?_)
    · replace hok := g_neg hok c
      refine lv_iconst (v := 0) hx hb dX6_beginsAct_86 (by decide) ?_
      exact J_87 (0:Int32) (s0__acts + (1:Int32)) s0__state s0__numbersLeft s0__inSecond s0__isBelow (upd s0_letters s0__acts.toNatClampNeg r1) (upd s0_firsts s0__acts.toNatClampNeg (0:Int32)) (upd s0_seconds s0__acts.toNatClampNeg (0:Int32)) _ _ _ hP hD hS (lv_sub hl [1] rfl) hok
    replace hok := g_pos hok c
    exact J_82 (s0__acts + (1:Int32)) s0__state s0__numbersLeft s0__inSecond s0__isBelow (upd s0_letters s0__acts.toNatClampNeg r1) (upd s0_firsts s0__acts.toNatClampNeg (0:Int32)) (upd s0_seconds s0__acts.toNatClampNeg (0:Int32)) _ _ _ hP hD hS (lv_sub hl [1] rfl) hok
  replace hok := g_neg hok c
  refine lv_iconst (v := 0) hx hb dX6_beginsAct_28 (by decide) ?_
  cases hok
  exact cr_z (ty := .boolean) (by decide +kernel) hx hb hr hlocks hQ dX6_beginsAct_29 hP hS
set_option maxHeartbeats 40000000 in
set_option maxRecDepth 100000 in
theorem c_X6_addsFigure (l : Launch) (G : va_G) (cA : Nat → ClassId) (ts : Nat → Nat) (h0 : Nat) (h0_firsts : Nat) (h0_seconds : Nat) (h0_bytes : Nat) (h0_letters : Nat) (x1 : Int32) (x2 : Int32) (s0__size : Int32) (s0__acts : Int32) (s0__state : Int32) (s0__numbersLeft : Int32) (s0__inSecond : Int32) (s0__isBelow : Int32) (s0_firsts : Nat → Int32) (s0_seconds : Nat → Int32) (r : Int32) (o0__state : Int32) (o0_firsts : Nat → Int32) (o0_seconds : Nat → Int32) (hok : fX6_addsFigure x1 x2 s0__acts s0__state s0__inSecond s0__isBelow s0_firsts s0_seconds = some (r, o0__state, o0_firsts, o0_seconds)) : Ct l G cA ts yX6_addsFigure wsX6_addsFigure 1 40 [.ref h0, .int x1, .int x2] (wm_X6_addsFigure cA h0 h0_firsts h0_seconds h0_bytes h0_letters s0__size s0__acts s0__state s0__numbersLeft s0__inSecond s0__isBelow s0_firsts s0_seconds) (wm_X6_addsFigure cA h0 h0_firsts h0_seconds h0_bytes h0_letters s0__size s0__acts o0__state s0__numbersLeft s0__inSecond s0__isBelow o0_firsts o0_seconds) (some (.int r)) := by
  refine Ct.intro (cc := cX6_addsFigure) (maxL := 5) (ret := some .boolean) (by decide +kernel) rfl (Nat.le_of_ble_eq_true rfl) ?_
  intro p e s m ar below meth c A Q hx hb hr hml hown hlocks hts hK hZ hA hQ hP hD hS ls hl
  have hown : s.vm.findClass RX6 = some m.cls := hown
  have hinX6 : ∀ w ∈ wsX60, w ∈ wsX6_addsFigure := fun _ h => List.mem_cons_of_mem _ (List.mem_append_right _ (h))
  have hl : lv_has ls 5 [(0, .ref h0), (1, .int x1), (2, .int x2)] := hl
  have hP : va_P G vwCl (wm_X6_addsFigure cA h0 h0_firsts h0_seconds h0_bytes h0_letters s0__size s0__acts s0__state s0__numbersLeft s0__inSecond s0__isBelow s0_firsts s0_seconds) s.heap := hP
  have hD : va_D A (wm_X6_addsFigure cA h0 h0_firsts h0_seconds h0_bytes h0_letters s0__size s0__acts s0__state s0__numbersLeft s0__inSecond s0__isBelow s0_firsts s0_seconds) := hD
  have J_49 : ∀ (y3 : Int32) (z0 : Int32) (c0__state : Int32) (c0_firsts : Nat → Int32) (c0_seconds : Nat → Int32) (H : Heap) (locs : List Loc) (ls : Array Slot), va_P G vwCl (wm_X6_addsFigure cA h0 h0_firsts h0_seconds h0_bytes h0_letters s0__size s0__acts c0__state s0__numbersLeft s0__inSecond s0__isBelow c0_firsts c0_seconds) H → va_D A (wm_X6_addsFigure cA h0 h0_firsts h0_seconds h0_bytes h0_letters s0__size s0__acts c0__state s0__numbersLeft s0__inSecond s0__isBelow c0_firsts c0_seconds) → va_S A s.heap H locs → lv_has ls 5 [(0, .ref h0), (2, .int x2), (3, .int y3)] → fX6_addsFigure_j49 x1 x2 s0__acts s0__inSecond s0__isBelow y3 z0 c0__state c0_firsts c0_seconds = some (r, o0__state, o0_firsts, o0_seconds) → W p l e (rmX 1 40) s m ar below meth c H locs 0 0 Q (F0 m 49 ls [.int z0]) := by
    intro y3 z0 c0__state c0_firsts c0_seconds H locs ls hP hD hS hl hok
    unfold fX6_addsFigure_j49 at hok
    refine lv_istore (lv' := [(4, .int z0), (0, .ref h0), (2, .int x2), (3, .int y3)]) hx hb dX6_addsFigure_49 hl (by decide) rfl (fun ls hl => ?_)
    refine lv_aload_n hx hb dX6_addsFigure_51 rfl (lv_at hl 1 rfl) ?_
    refine va_get (ci := 6) (v := .int s0__inSecond) (C := RX6) (T := TX6) (N := 10) hx hb hts hinX6 hown hK hP 0 rfl rfl 8 (by decide) (hts _ (List.mem_of_getElem? (i := 3) rfl)) (fun _ h9 => h9) rfl dX6_addsFigure_52 ?_
    refine lv_if_eq (tgt := 79) hx hb dX6_addsFigure_55 (by decide) (fun c => ?_) (fun c => ?_)
    · replace hok := g_pos hok c
      refine lv_aload_n hx hb dX6_addsFigure_79 rfl (lv_at hl 1 rfl) ?_
      refine va_get (ci := 6) (v := .ref h0_firsts) (C := RX6) (T := TX6) (N := 10) hx hb hts hinX6 hown hK hP 0 rfl rfl 3 (by decide) (hts _ (List.mem_of_getElem? (i := 5) rfl)) (fun _ h9 => h9) rfl dX6_addsFigure_80 ?_
      refine lv_iload_n hx hb dX6_addsFigure_83 rfl (lv_at hl 3 rfl) ?_
      refine lv_aload_n hx hb dX6_addsFigure_84 rfl (lv_at hl 1 rfl) ?_
      refine va_get (ci := 6) (v := .ref h0_firsts) (C := RX6) (T := TX6) (N := 10) hx hb hts hinX6 hown hK hP 0 rfl rfl 3 (by decide) (hts _ (List.mem_of_getElem? (i := 5) rfl)) (fun _ h9 => h9) rfl dX6_addsFigure_85 ?_
      refine lv_iload_n hx hb dX6_addsFigure_88 rfl (lv_at hl 3 rfl) ?_
      obtain ⟨hin, hok⟩ := g_no hok
      refine x_iald (k := y3.toNatClampNeg) hx hb hK hP 1 0 rfl rfl hin rfl dX6_addsFigure_89 ?_
      refine lv_bipush (v := 10) hx hb dX6_addsFigure_90 (by decide) ?_
      refine lv_imul hx hb dX6_addsFigure_92 ?_
      refine lv_iload hx hb dX6_addsFigure_93 (lv_at hl 0 rfl) ?_
      refine lv_iadd hx hb dX6_addsFigure_95 ?_
      obtain ⟨hin, hok⟩ := g_no hok
      refine x_iast (k := y3.toNatClampNeg) hx hb hK hP hD hS 1 0 rfl rfl hin rfl dX6_addsFigure_96 (fun H locs hP hD hS => ?_)
      have hP : va_P G vwCl (wm_X6_addsFigure cA h0 h0_firsts h0_seconds h0_bytes h0_letters s0__size s0__acts c0__state s0__numbersLeft s0__inSecond s0__isBelow (upd c0_firsts y3.toNatClampNeg (((c0_firsts y3.toNatClampNeg) * (10:Int32)) + z0)) c0_seconds) H := hP
      have hD : va_D A (wm_X6_addsFigure cA h0 h0_firsts h0_seconds h0_bytes h0_letters s0__size s0__acts c0__state s0__numbersLeft s0__inSecond s0__isBelow (upd c0_firsts y3.toNatClampNeg (((c0_firsts y3.toNatClampNeg) * (10:Int32)) + z0)) c0_seconds) := hD
      refine lv_aload_n hx hb dX6_addsFigure_97 rfl (lv_at hl 1 rfl) ?_
      refine lv_iload_n hx hb dX6_addsFigure_98 rfl (lv_at hl 2 rfl) ?_
      refine va_put (D := G) (ci := 6) (v := .int x2) (ty := .int) (C := RX6) (T := TX6) (N := 10) hx hb hts hinX6 tyX6 tyX6_ok nmX6 hown hK hP hD hS 0 rfl rfl 6 (by decide) (hts _ (List.mem_of_getElem? (i := 6) rfl)) (fun _ h9 => h9) rfl (by decide +kernel) rfl rfl (Nat.le_of_ble_eq_true rfl) dX6_addsFigure_99 (fun H locs hP hD hS => ?_)
      have hP : va_P G vwCl (wm_X6_addsFigure cA h0 h0_firsts h0_seconds h0_bytes h0_letters s0__size s0__acts x2 s0__numbersLeft s0__inSecond s0__isBelow (upd c0_firsts y3.toNatClampNeg (((c0_firsts y3.toNatClampNeg) * (10:Int32)) + z0)) c0_seconds) H := hP
      have hD : va_D A (wm_X6_addsFigure cA h0 h0_firsts h0_seconds h0_bytes h0_letters s0__size s0__acts x2 s0__numbersLeft s0__inSecond s0__isBelow (upd c0_firsts y3.toNatClampNeg (((c0_firsts y3.toNatClampNeg) * (10:Int32)) + z0)) c0_seconds) := hD
      refine lv_iconst (v := 1) hx hb dX6_addsFigure_102 (by decide) ?_
      cases hok
      exact cr_z (ty := .boolean) (by decide +kernel) hx hb hr hlocks hQ dX6_addsFigure_103 hP hS
    replace hok := g_neg hok c
    refine lv_aload_n hx hb dX6_addsFigure_58 rfl (lv_at hl 1 rfl) ?_
    refine va_get (ci := 6) (v := .ref h0_seconds) (C := RX6) (T := TX6) (N := 10) hx hb hts hinX6 hown hK hP 0 rfl rfl 4 (by decide) (hts _ (List.mem_of_getElem? (i := 4) rfl)) (fun _ h9 => h9) rfl dX6_addsFigure_59 ?_
    refine lv_iload_n hx hb dX6_addsFigure_62 rfl (lv_at hl 3 rfl) ?_
    refine lv_aload_n hx hb dX6_addsFigure_63 rfl (lv_at hl 1 rfl) ?_
    refine va_get (ci := 6) (v := .ref h0_seconds) (C := RX6) (T := TX6) (N := 10) hx hb hts hinX6 hown hK hP 0 rfl rfl 4 (by decide) (hts _ (List.mem_of_getElem? (i := 4) rfl)) (fun _ h9 => h9) rfl dX6_addsFigure_64 ?_
    refine lv_iload_n hx hb dX6_addsFigure_67 rfl (lv_at hl 3 rfl) ?_
    obtain ⟨hin, hok⟩ := g_no hok
    refine x_iald (k := y3.toNatClampNeg) hx hb hK hP 2 0 rfl rfl hin rfl dX6_addsFigure_68 ?_
    refine lv_bipush (v := 10) hx hb dX6_addsFigure_69 (by decide) ?_
    refine lv_imul hx hb dX6_addsFigure_71 ?_
    refine lv_iload hx hb dX6_addsFigure_72 (lv_at hl 0 rfl) ?_
    refine lv_iadd hx hb dX6_addsFigure_74 ?_
    obtain ⟨hin, hok⟩ := g_no hok
    refine x_iast (k := y3.toNatClampNeg) hx hb hK hP hD hS 2 0 rfl rfl hin rfl dX6_addsFigure_75 (fun H locs hP hD hS => ?_)
    have hP : va_P G vwCl (wm_X6_addsFigure cA h0 h0_firsts h0_seconds h0_bytes h0_letters s0__size s0__acts c0__state s0__numbersLeft s0__inSecond s0__isBelow c0_firsts (upd c0_seconds y3.toNatClampNeg (((c0_seconds y3.toNatClampNeg) * (10:Int32)) + z0))) H := hP
    have hD : va_D A (wm_X6_addsFigure cA h0 h0_firsts h0_seconds h0_bytes h0_letters s0__size s0__acts c0__state s0__numbersLeft s0__inSecond s0__isBelow c0_firsts (upd c0_seconds y3.toNatClampNeg (((c0_seconds y3.toNatClampNeg) * (10:Int32)) + z0))) := hD
    refine lv_goto (tgt := 97) hx hb dX6_addsFigure_76 (by decide) ?_
    refine lv_aload_n hx hb dX6_addsFigure_97 rfl (lv_at hl 1 rfl) ?_
    refine lv_iload_n hx hb dX6_addsFigure_98 rfl (lv_at hl 2 rfl) ?_
    refine va_put (D := G) (ci := 6) (v := .int x2) (ty := .int) (C := RX6) (T := TX6) (N := 10) hx hb hts hinX6 tyX6 tyX6_ok nmX6 hown hK hP hD hS 0 rfl rfl 6 (by decide) (hts _ (List.mem_of_getElem? (i := 6) rfl)) (fun _ h9 => h9) rfl (by decide +kernel) rfl rfl (Nat.le_of_ble_eq_true rfl) dX6_addsFigure_99 (fun H locs hP hD hS => ?_)
    have hP : va_P G vwCl (wm_X6_addsFigure cA h0 h0_firsts h0_seconds h0_bytes h0_letters s0__size s0__acts x2 s0__numbersLeft s0__inSecond s0__isBelow c0_firsts (upd c0_seconds y3.toNatClampNeg (((c0_seconds y3.toNatClampNeg) * (10:Int32)) + z0))) H := hP
    have hD : va_D A (wm_X6_addsFigure cA h0 h0_firsts h0_seconds h0_bytes h0_letters s0__size s0__acts x2 s0__numbersLeft s0__inSecond s0__isBelow c0_firsts (upd c0_seconds y3.toNatClampNeg (((c0_seconds y3.toNatClampNeg) * (10:Int32)) + z0))) := hD
    refine lv_iconst (v := 1) hx hb dX6_addsFigure_102 (by decide) ?_
    cases hok
    exact cr_z (ty := .boolean) (by decide +kernel) hx hb hr hlocks hQ dX6_addsFigure_103 hP hS
  unfold fX6_addsFigure at hok
  refine lv_aload_n hx hb dX6_addsFigure_0 rfl (lv_at hl 0 rfl) ?_
  refine va_get (ci := 6) (v := .int s0__acts) (C := RX6) (T := TX6) (N := 10) hx hb hts hinX6 hown hK hP 0 rfl rfl 5 (by decide) (hts _ (List.mem_of_getElem? (i := 1) rfl)) (fun _ h9 => h9) rfl dX6_addsFigure_1 ?_
  refine lv_iconst (v := 1) hx hb dX6_addsFigure_4 (by decide) ?_
  refine lv_isub hx hb dX6_addsFigure_5 ?_
  refine lv_istore_n (lv' := [(3, .int (s0__acts - (1:Int32))), (0, .ref h0), (1, .int x1), (2, .int x2)]) hx hb dX6_addsFigure_6 rfl hl (by decide) rfl (fun ls hl => ?_)
  refine lv_iload_n hx hb dX6_addsFigure_7 rfl (lv_at hl 2 rfl) ?_
  refine lv_bipush (v := 48) hx hb dX6_addsFigure_8 (by decide) ?_
  refine lv_icmp_lt (tgt := 29) hx hb dX6_addsFigure_10 (by decide) (fun c => ?_) (fun c => ?_)
  · replace hok := g_pos hok c
    refine lv_iconst (v := 0) hx hb dX6_addsFigure_29 (by decide) ?_
    cases hok
    exact cr_z (ty := .boolean) (by decide +kernel) hx hb hr hlocks hQ dX6_addsFigure_30 hP hS
  replace hok := g_neg hok c
  refine lv_iload_n hx hb dX6_addsFigure_13 rfl (lv_at hl 2 rfl) ?_
  refine lv_bipush (v := 57) hx hb dX6_addsFigure_14 (by decide) ?_
  refine lv_icmp_gt (tgt := 29) hx hb dX6_addsFigure_16 (by decide) (fun c => ?_) (fun c => ?_)
  · replace hok := g_pos hok c
    refine lv_iconst (v := 0) hx hb dX6_addsFigure_29 (by decide) ?_
    cases hok
    exact cr_z (ty := .boolean) (by decide +kernel) hx hb hr hlocks hQ dX6_addsFigure_30 hP hS
  replace hok := g_neg hok c
  refine lv_iload_n hx hb dX6_addsFigure_19 rfl (lv_at hl 0 rfl) ?_
  refine lv_if_lt (tgt := 29) hx hb dX6_addsFigure_20 (by decide) (fun c => ?_) (fun c => ?_)
  · replace hok := g_pos hok c
    refine lv_iconst (v := 0) hx hb dX6_addsFigure_29 (by decide) ?_
    cases hok
    exact cr_z (ty := .boolean) (by decide +kernel) hx hb hr hlocks hQ dX6_addsFigure_30 hP hS
  replace hok := g_neg hok c
  refine lv_iload_n hx hb dX6_addsFigure_23 rfl (lv_at hl 0 rfl) ?_
  refine lv_bipush (v := 80) hx hb dX6_addsFigure_24 (by decide) ?_
  refine lv_icmp_lt (tgt := 31) hx hb dX6_addsFigure_26 (by decide) (fun c => ?_) (fun c => ?_)
  · replace hok := g_pos hok c
    refine lv_aload_n hx hb dX6_addsFigure_31 rfl (lv_at hl 1 rfl) ?_
    refine va_get (ci := 6) (v := .int s0__isBelow) (C := RX6) (T := TX6) (N := 10) hx hb hts hinX6 hown hK hP 0 rfl rfl 9 (by decide) (hts _ (List.mem_of_getElem? (i := 2) rfl)) (fun _ h9 => h9) rfl dX6_addsFigure_32 ?_
    refine lv_if_eq (tgt := 45) hx hb dX6_addsFigure_35 (by decide) (fun c => ?_) (fun c => ?_)
    · replace hok := g_pos hok c
      refine lv_iload_n hx hb dX6_addsFigure_45 rfl (lv_at hl 2 rfl) ?_
      refine lv_bipush (v := 48) hx hb dX6_addsFigure_46 (by decide) ?_
      refine lv_isub hx hb dX6_addsFigure_48 ?_
      exact J_49 (s0__acts - (1:Int32)) (x1 - (48:Int32)) s0__state s0_firsts s0_seconds _ _ _ hP hD hS (lv_sub hl [1, 3, 0] rfl) hok
    replace hok := g_neg hok c
    refine lv_bipush (v := 48) hx hb dX6_addsFigure_38 (by decide) ?_
    refine lv_iload_n hx hb dX6_addsFigure_40 rfl (lv_at hl 2 rfl) ?_
    refine lv_isub hx hb dX6_addsFigure_41 ?_
    refine lv_goto (tgt := 49) hx hb dX6_addsFigure_42 (by decide) ?_
    exact J_49 (s0__acts - (1:Int32)) ((48:Int32) - x1) s0__state s0_firsts s0_seconds _ _ _ hP hD hS (lv_sub hl [1, 3, 0] rfl) hok
  replace hok := g_neg hok c
  refine lv_iconst (v := 0) hx hb dX6_addsFigure_29 (by decide) ?_
  cases hok
  exact cr_z (ty := .boolean) (by decide +kernel) hx hb hr hlocks hQ dX6_addsFigure_30 hP hS
set_option maxHeartbeats 40000000 in
set_option maxRecDepth 100000 in
theorem c_X6_beginsNumber (l : Launch) (G : va_G) (cA : Nat → ClassId) (ts : Nat → Nat) (h0 : Nat) (h0_firsts : Nat) (h0_seconds : Nat) (h0_bytes : Nat) (h0_letters : Nat) (x1 : Int32) (s0__size : Int32) (s0__acts : Int32) (s0__state : Int32) (s0__numbersLeft : Int32) (s0__inSecond : Int32) (s0__isBelow : Int32) (s0_firsts : Nat → Int32) (s0_seconds : Nat → Int32) (r : Int32) (o0__state : Int32) (o0__isBelow : Int32) (o0_firsts : Nat → Int32) (o0_seconds : Nat → Int32) (hok : fX6_beginsNumber x1 s0__acts s0__state s0__inSecond s0__isBelow s0_firsts s0_seconds = some (r, o0__state, o0__isBelow, o0_firsts, o0_seconds)) : Ct l G cA ts yX6_beginsNumber wsX6_beginsNumber 2 64 [.ref h0, .int x1] (wm_X6_addsFigure cA h0 h0_firsts h0_seconds h0_bytes h0_letters s0__size s0__acts s0__state s0__numbersLeft s0__inSecond s0__isBelow s0_firsts s0_seconds) (wm_X6_addsFigure cA h0 h0_firsts h0_seconds h0_bytes h0_letters s0__size s0__acts o0__state s0__numbersLeft s0__inSecond o0__isBelow o0_firsts o0_seconds) (some (.int r)) := by
  refine Ct.intro (cc := cX6_beginsNumber) (maxL := 2) (ret := some .boolean) (by decide +kernel) rfl (Nat.le_of_ble_eq_true rfl) ?_
  intro p e s m ar below meth c A Q hx hb hr hml hown hlocks hts hK hZ hA hQ hP hD hS ls hl
  have hown : s.vm.findClass RX6 = some m.cls := hown
  have hinX6 : ∀ w ∈ wsX60, w ∈ wsX6_beginsNumber := fun _ h => List.mem_cons_of_mem _ (List.mem_append_right _ (h))
  have hl : lv_has ls 2 [(0, .ref h0), (1, .int x1)] := hl
  have hP : va_P G vwCl (wm_X6_addsFigure cA h0 h0_firsts h0_seconds h0_bytes h0_letters s0__size s0__acts s0__state s0__numbersLeft s0__inSecond s0__isBelow s0_firsts s0_seconds) s.heap := hP
  have hD : va_D A (wm_X6_addsFigure cA h0 h0_firsts h0_seconds h0_bytes h0_letters s0__size s0__acts s0__state s0__numbersLeft s0__inSecond s0__isBelow s0_firsts s0_seconds) := hD
  unfold fX6_beginsNumber at hok
  refine lv_iload_n hx hb dX6_beginsNumber_0 rfl (lv_at hl 1 rfl) ?_
  refine lv_bipush (v := 45) hx hb dX6_beginsNumber_1 (by decide) ?_
  refine lv_icmp_ne (tgt := 18) hx hb dX6_beginsNumber_3 (by decide) (fun c => ?_) (fun c => ?_)
  · replace hok := g_neg hok c
    refine lv_aload_n hx hb dX6_beginsNumber_18 rfl (lv_at hl 0 rfl) ?_
    refine lv_iload_n hx hb dX6_beginsNumber_19 rfl (lv_at hl 1 rfl) ?_
    refine lv_iconst (v := 3) hx hb dX6_beginsNumber_20 (by decide) ?_
    obtain ⟨r1, o2, o3, o4, hq, hok⟩ := g_bnd4 hok
    refine cG (is := [0, 1, 2]) (wc := (wm_X6_addsFigure cA h0 h0_firsts h0_seconds h0_bytes h0_letters s0__size s0__acts s0__state s0__numbersLeft s0__inSecond s0__isBelow s0_firsts s0_seconds)) (w1 := (wm_X6_addsFigure cA h0 h0_firsts h0_seconds h0_bytes h0_letters s0__size s0__acts o2 s0__numbersLeft s0__inSecond s0__isBelow o3 o4)) (rv := (some (.int r1))) (st1 := [.int r1]) (va_runV (Ts := wsX6_beginsNumber) (As := [.int x1, .int (3:Int32)]) (rest := []) ⟨hx, hb, hml, hown, hts⟩ (c_X6_addsFigure l G cA ts h0 h0_firsts h0_seconds h0_bytes h0_letters x1 (3:Int32) s0__size s0__acts s0__state s0__numbersLeft s0__inSecond s0__isBelow s0_firsts s0_seconds r1 o2 o3 o4 hq s.heap.size) (cwV 2 hts gX6_beginsNumber_X6_addsFigure rfl rfl rfl (by decide +kernel) ⟨Nat.le_of_ble_eq_true rfl, Nat.le_of_ble_eq_true rfl⟩) (pre_V (ci := 6) (q0 := 0) (is := [0, 1, 2]) rfl rfl hP hD hS hA hK hZ (by decide +kernel) (by rfl)) rfl rfl hl.1 rfl (by exact lv_room (Nat.le_of_ble_eq_true rfl)) dX6_beginsNumber_21 ⟨Nat.le_refl _, Nat.le_refl _⟩) hP hD hS hA (by decide +kernel) (by rfl) (by rfl) rfl (fun H locs hP hD hS => ?_)
    have hP : va_P G vwCl (wm_X6_addsFigure cA h0 h0_firsts h0_seconds h0_bytes h0_letters s0__size s0__acts o2 s0__numbersLeft s0__inSecond s0__isBelow o3 o4) H := hP
    have hD : va_D A (wm_X6_addsFigure cA h0 h0_firsts h0_seconds h0_bytes h0_letters s0__size s0__acts o2 s0__numbersLeft s0__inSecond s0__isBelow o3 o4) := hD
    obtain ⟨hin, hok⟩ := g_no hok
    cases hok
    exact cr_z (ty := .boolean) (nar_z hin) hx hb hr hlocks hQ dX6_beginsNumber_24 hP hS
  replace hok := g_pos hok c
  refine lv_aload_n hx hb dX6_beginsNumber_6 rfl (lv_at hl 0 rfl) ?_
  refine lv_iconst (v := 1) hx hb dX6_beginsNumber_7 (by decide) ?_
  refine va_put (D := G) (ci := 6) (v := .int (1:Int32)) (ty := .boolean) (C := RX6) (T := TX6) (N := 10) hx hb hts hinX6 tyX6 tyX6_ok nmX6 hown hK hP hD hS 0 rfl rfl 9 (by decide) (hts _ (List.mem_of_getElem? (i := 1) rfl)) (fun _ h9 => h9) rfl (by decide +kernel) (by decide +kernel) (by decide +kernel) (Nat.le_of_ble_eq_true rfl) dX6_beginsNumber_8 (fun H locs hP hD hS => ?_)
  have hP : va_P G vwCl (wm_X6_addsFigure cA h0 h0_firsts h0_seconds h0_bytes h0_letters s0__size s0__acts s0__state s0__numbersLeft s0__inSecond (1:Int32) s0_firsts s0_seconds) H := hP
  have hD : va_D A (wm_X6_addsFigure cA h0 h0_firsts h0_seconds h0_bytes h0_letters s0__size s0__acts s0__state s0__numbersLeft s0__inSecond (1:Int32) s0_firsts s0_seconds) := hD
  refine lv_aload_n hx hb dX6_beginsNumber_11 rfl (lv_at hl 0 rfl) ?_
  refine lv_iconst (v := 2) hx hb dX6_beginsNumber_12 (by decide) ?_
  refine va_put (D := G) (ci := 6) (v := .int (2:Int32)) (ty := .int) (C := RX6) (T := TX6) (N := 10) hx hb hts hinX6 tyX6 tyX6_ok nmX6 hown hK hP hD hS 0 rfl rfl 6 (by decide) (hts _ (List.mem_of_getElem? (i := 2) rfl)) (fun _ h9 => h9) rfl (by decide +kernel) rfl rfl (Nat.le_of_ble_eq_true rfl) dX6_beginsNumber_13 (fun H locs hP hD hS => ?_)
  have hP : va_P G vwCl (wm_X6_addsFigure cA h0 h0_firsts h0_seconds h0_bytes h0_letters s0__size s0__acts (2:Int32) s0__numbersLeft s0__inSecond (1:Int32) s0_firsts s0_seconds) H := hP
  have hD : va_D A (wm_X6_addsFigure cA h0 h0_firsts h0_seconds h0_bytes h0_letters s0__size s0__acts (2:Int32) s0__numbersLeft s0__inSecond (1:Int32) s0_firsts s0_seconds) := hD
  refine lv_iconst (v := 1) hx hb dX6_beginsNumber_16 (by decide) ?_
  cases hok
  exact cr_z (ty := .boolean) (by decide +kernel) hx hb hr hlocks hQ dX6_beginsNumber_17 hP hS
set_option maxHeartbeats 40000000 in
set_option maxRecDepth 100000 in
theorem c_X6_endsNumberWith (l : Launch) (G : va_G) (cA : Nat → ClassId) (ts : Nat → Nat) (h0 : Nat) (h0_bytes : Nat) (h0_letters : Nat) (h0_firsts : Nat) (h0_seconds : Nat) (x1 : Int32) (s0__size : Int32) (s0__acts : Int32) (s0__state : Int32) (s0__numbersLeft : Int32) (s0__inSecond : Int32) (s0__isBelow : Int32) (r : Int32) (o0__state : Int32) (o0__numbersLeft : Int32) (o0__inSecond : Int32) (o0__isBelow : Int32) (hok : fX6_endsNumberWith x1 s0__state s0__numbersLeft s0__inSecond s0__isBelow = some (r, o0__state, o0__numbersLeft, o0__inSecond, o0__isBelow)) : Ct l G cA ts yX6_endsNumberWith wsX6_endsNumberWith 1 40 [.ref h0, .int x1] (wm_X6_endsNumberWith cA h0 h0_bytes h0_letters h0_firsts h0_seconds s0__size s0__acts s0__state s0__numbersLeft s0__inSecond s0__isBelow) (wm_X6_endsNumberWith cA h0 h0_bytes h0_letters h0_firsts h0_seconds s0__size s0__acts o0__state o0__numbersLeft o0__inSecond o0__isBelow) (some (.int r)) := by
  refine Ct.intro (cc := cX6_endsNumberWith) (maxL := 2) (ret := some .boolean) (by decide +kernel) rfl (Nat.le_of_ble_eq_true rfl) ?_
  intro p e s m ar below meth c A Q hx hb hr hml hown hlocks hts hK hZ hA hQ hP hD hS ls hl
  have hown : s.vm.findClass RX6 = some m.cls := hown
  have hinX6 : ∀ w ∈ wsX60, w ∈ wsX6_endsNumberWith := fun _ h => List.mem_cons_of_mem _ (List.mem_append_right _ (h))
  have hl : lv_has ls 2 [(0, .ref h0), (1, .int x1)] := hl
  have hP : va_P G vwCl (wm_X6_endsNumberWith cA h0 h0_bytes h0_letters h0_firsts h0_seconds s0__size s0__acts s0__state s0__numbersLeft s0__inSecond s0__isBelow) s.heap := hP
  have hD : va_D A (wm_X6_endsNumberWith cA h0 h0_bytes h0_letters h0_firsts h0_seconds s0__size s0__acts s0__state s0__numbersLeft s0__inSecond s0__isBelow) := hD
  have J_35 : ∀ (c0__state : Int32) (c0__numbersLeft : Int32) (c0__inSecond : Int32) (c0__isBelow : Int32) (H : Heap) (locs : List Loc) (ls : Array Slot), va_P G vwCl (wm_X6_endsNumberWith cA h0 h0_bytes h0_letters h0_firsts h0_seconds s0__size s0__acts c0__state c0__numbersLeft c0__inSecond c0__isBelow) H → va_D A (wm_X6_endsNumberWith cA h0 h0_bytes h0_letters h0_firsts h0_seconds s0__size s0__acts c0__state c0__numbersLeft c0__inSecond c0__isBelow) → va_S A s.heap H locs → lv_has ls 2 [(0, .ref h0), (1, .int x1)] → fX6_endsNumberWith_j35 x1 c0__state c0__numbersLeft c0__inSecond c0__isBelow = some (r, o0__state, o0__numbersLeft, o0__inSecond, o0__isBelow) → W p l e (rmX 1 40) s m ar below meth c H locs 0 0 Q (F0 m 35 ls []) := by
    intro c0__state c0__numbersLeft c0__inSecond c0__isBelow H locs ls hP hD hS hl hok
    unfold fX6_endsNumberWith_j35 at hok
    refine lv_iload_n hx hb dX6_endsNumberWith_35 rfl (lv_at hl 1 rfl) ?_
    refine lv_bipush (v := 59) hx hb dX6_endsNumberWith_36 (by decide) ?_
    refine lv_icmp_ne (tgt := 55) hx hb dX6_endsNumberWith_38 (by decide) (fun c => ?_) (fun c => ?_)
    · replace hok := g_neg hok c
      refine lv_iconst (v := 0) hx hb dX6_endsNumberWith_55 (by decide) ?_
      cases hok
      exact cr_z (ty := .boolean) (by decide +kernel) hx hb hr hlocks hQ dX6_endsNumberWith_56 hP hS
    replace hok := g_pos hok c
    refine lv_aload_n hx hb dX6_endsNumberWith_41 rfl (lv_at hl 0 rfl) ?_
    refine va_get (ci := 6) (v := .int c0__numbersLeft) (C := RX6) (T := TX6) (N := 10) hx hb hts hinX6 hown hK hP 0 rfl rfl 7 (by decide) (hts _ (List.mem_of_getElem? (i := 1) rfl)) (fun _ h9 => h9) rfl dX6_endsNumberWith_42 ?_
    refine lv_if_ne (tgt := 55) hx hb dX6_endsNumberWith_45 (by decide) (fun c => ?_) (fun c => ?_)
    · replace hok := g_neg hok c
      refine lv_iconst (v := 0) hx hb dX6_endsNumberWith_55 (by decide) ?_
      cases hok
      exact cr_z (ty := .boolean) (by decide +kernel) hx hb hr hlocks hQ dX6_endsNumberWith_56 hP hS
    replace hok := g_pos hok c
    refine lv_aload_n hx hb dX6_endsNumberWith_48 rfl (lv_at hl 0 rfl) ?_
    refine lv_iconst (v := 0) hx hb dX6_endsNumberWith_49 (by decide) ?_
    refine va_put (D := G) (ci := 6) (v := .int (0:Int32)) (ty := .int) (C := RX6) (T := TX6) (N := 10) hx hb hts hinX6 tyX6 tyX6_ok nmX6 hown hK hP hD hS 0 rfl rfl 6 (by decide) (hts _ (List.mem_of_getElem? (i := 4) rfl)) (fun _ h9 => h9) rfl (by decide +kernel) rfl rfl (Nat.le_of_ble_eq_true rfl) dX6_endsNumberWith_50 (fun H locs hP hD hS => ?_)
    have hP : va_P G vwCl (wm_X6_endsNumberWith cA h0 h0_bytes h0_letters h0_firsts h0_seconds s0__size s0__acts (0:Int32) c0__numbersLeft c0__inSecond c0__isBelow) H := hP
    have hD : va_D A (wm_X6_endsNumberWith cA h0 h0_bytes h0_letters h0_firsts h0_seconds s0__size s0__acts (0:Int32) c0__numbersLeft c0__inSecond c0__isBelow) := hD
    refine lv_iconst (v := 1) hx hb dX6_endsNumberWith_53 (by decide) ?_
    cases hok
    exact cr_z (ty := .boolean) (by decide +kernel) hx hb hr hlocks hQ dX6_endsNumberWith_54 hP hS
  unfold fX6_endsNumberWith at hok
  refine lv_iload_n hx hb dX6_endsNumberWith_0 rfl (lv_at hl 1 rfl) ?_
  refine lv_bipush (v := 44) hx hb dX6_endsNumberWith_1 (by decide) ?_
  refine lv_icmp_ne (tgt := 35) hx hb dX6_endsNumberWith_3 (by decide) (fun c => ?_) (fun c => ?_)
  · replace hok := g_neg hok c
    exact J_35 s0__state s0__numbersLeft s0__inSecond s0__isBelow _ _ _ hP hD hS (lv_sub hl [0, 1] rfl) hok
  replace hok := g_pos hok c
  refine lv_aload_n hx hb dX6_endsNumberWith_6 rfl (lv_at hl 0 rfl) ?_
  refine va_get (ci := 6) (v := .int s0__numbersLeft) (C := RX6) (T := TX6) (N := 10) hx hb hts hinX6 hown hK hP 0 rfl rfl 7 (by decide) (hts _ (List.mem_of_getElem? (i := 1) rfl)) (fun _ h9 => h9) rfl dX6_endsNumberWith_7 ?_
  refine lv_if_le (tgt := 35) hx hb dX6_endsNumberWith_10 (by decide) (fun c => ?_) (fun c => ?_)
  · replace hok := g_pos hok c
    exact J_35 s0__state s0__numbersLeft s0__inSecond s0__isBelow _ _ _ hP hD hS (lv_sub hl [0, 1] rfl) hok
  replace hok := g_neg hok c
  refine lv_aload_n hx hb dX6_endsNumberWith_13 rfl (lv_at hl 0 rfl) ?_
  refine lv_iconst (v := 0) hx hb dX6_endsNumberWith_14 (by decide) ?_
  refine va_put (D := G) (ci := 6) (v := .int (0:Int32)) (ty := .int) (C := RX6) (T := TX6) (N := 10) hx hb hts hinX6 tyX6 tyX6_ok nmX6 hown hK hP hD hS 0 rfl rfl 7 (by decide) (hts _ (List.mem_of_getElem? (i := 1) rfl)) (fun _ h9 => h9) rfl (by decide +kernel) rfl rfl (Nat.le_of_ble_eq_true rfl) dX6_endsNumberWith_15 (fun H locs hP hD hS => ?_)
  have hP : va_P G vwCl (wm_X6_endsNumberWith cA h0 h0_bytes h0_letters h0_firsts h0_seconds s0__size s0__acts s0__state (0:Int32) s0__inSecond s0__isBelow) H := hP
  have hD : va_D A (wm_X6_endsNumberWith cA h0 h0_bytes h0_letters h0_firsts h0_seconds s0__size s0__acts s0__state (0:Int32) s0__inSecond s0__isBelow) := hD
  refine lv_aload_n hx hb dX6_endsNumberWith_18 rfl (lv_at hl 0 rfl) ?_
  refine lv_iconst (v := 1) hx hb dX6_endsNumberWith_19 (by decide) ?_
  refine va_put (D := G) (ci := 6) (v := .int (1:Int32)) (ty := .boolean) (C := RX6) (T := TX6) (N := 10) hx hb hts hinX6 tyX6 tyX6_ok nmX6 hown hK hP hD hS 0 rfl rfl 8 (by decide) (hts _ (List.mem_of_getElem? (i := 2) rfl)) (fun _ h9 => h9) rfl (by decide +kernel) (by decide +kernel) (by decide +kernel) (Nat.le_of_ble_eq_true rfl) dX6_endsNumberWith_20 (fun H locs hP hD hS => ?_)
  have hP : va_P G vwCl (wm_X6_endsNumberWith cA h0 h0_bytes h0_letters h0_firsts h0_seconds s0__size s0__acts s0__state (0:Int32) (1:Int32) s0__isBelow) H := hP
  have hD : va_D A (wm_X6_endsNumberWith cA h0 h0_bytes h0_letters h0_firsts h0_seconds s0__size s0__acts s0__state (0:Int32) (1:Int32) s0__isBelow) := hD
  refine lv_aload_n hx hb dX6_endsNumberWith_23 rfl (lv_at hl 0 rfl) ?_
  refine lv_iconst (v := 0) hx hb dX6_endsNumberWith_24 (by decide) ?_
  refine va_put (D := G) (ci := 6) (v := .int (0:Int32)) (ty := .boolean) (C := RX6) (T := TX6) (N := 10) hx hb hts hinX6 tyX6 tyX6_ok nmX6 hown hK hP hD hS 0 rfl rfl 9 (by decide) (hts _ (List.mem_of_getElem? (i := 3) rfl)) (fun _ h9 => h9) rfl (by decide +kernel) (by decide +kernel) (by decide +kernel) (Nat.le_of_ble_eq_true rfl) dX6_endsNumberWith_25 (fun H locs hP hD hS => ?_)
  have hP : va_P G vwCl (wm_X6_endsNumberWith cA h0 h0_bytes h0_letters h0_firsts h0_seconds s0__size s0__acts s0__state (0:Int32) (1:Int32) (0:Int32)) H := hP
  have hD : va_D A (wm_X6_endsNumberWith cA h0 h0_bytes h0_letters h0_firsts h0_seconds s0__size s0__acts s0__state (0:Int32) (1:Int32) (0:Int32)) := hD
  refine lv_aload_n hx hb dX6_endsNumberWith_28 rfl (lv_at hl 0 rfl) ?_
  refine lv_iconst (v := 1) hx hb dX6_endsNumberWith_29 (by decide) ?_
  refine va_put (D := G) (ci := 6) (v := .int (1:Int32)) (ty := .int) (C := RX6) (T := TX6) (N := 10) hx hb hts hinX6 tyX6 tyX6_ok nmX6 hown hK hP hD hS 0 rfl rfl 6 (by decide) (hts _ (List.mem_of_getElem? (i := 4) rfl)) (fun _ h9 => h9) rfl (by decide +kernel) rfl rfl (Nat.le_of_ble_eq_true rfl) dX6_endsNumberWith_30 (fun H locs hP hD hS => ?_)
  have hP : va_P G vwCl (wm_X6_endsNumberWith cA h0 h0_bytes h0_letters h0_firsts h0_seconds s0__size s0__acts (1:Int32) (0:Int32) (1:Int32) (0:Int32)) H := hP
  have hD : va_D A (wm_X6_endsNumberWith cA h0 h0_bytes h0_letters h0_firsts h0_seconds s0__size s0__acts (1:Int32) (0:Int32) (1:Int32) (0:Int32)) := hD
  refine lv_iconst (v := 1) hx hb dX6_endsNumberWith_33 (by decide) ?_
  cases hok
  exact cr_z (ty := .boolean) (by decide +kernel) hx hb hr hlocks hQ dX6_endsNumberWith_34 hP hS
set_option maxHeartbeats 40000000 in
set_option maxRecDepth 100000 in
theorem c_X6_goesOnWith (l : Launch) (G : va_G) (cA : Nat → ClassId) (ts : Nat → Nat) (h0 : Nat) (h0_letters : Nat) (h0_firsts : Nat) (h0_seconds : Nat) (h0_bytes : Nat) (x1 : Int32) (s0__size : Int32) (s0__acts : Int32) (s0__state : Int32) (s0__numbersLeft : Int32) (s0__inSecond : Int32) (s0__isBelow : Int32) (s0_letters : Nat → Int32) (s0_firsts : Nat → Int32) (s0_seconds : Nat → Int32) (r : Int32) (o0__acts : Int32) (o0__state : Int32) (o0__numbersLeft : Int32) (o0__inSecond : Int32) (o0__isBelow : Int32) (o0_letters : Nat → Int32) (o0_firsts : Nat → Int32) (o0_seconds : Nat → Int32) (hok : fX6_goesOnWith x1 s0__acts s0__state s0__numbersLeft s0__inSecond s0__isBelow s0_letters s0_firsts s0_seconds = some (r, o0__acts, o0__state, o0__numbersLeft, o0__inSecond, o0__isBelow, o0_letters, o0_firsts, o0_seconds)) : Ct l G cA ts yX6_goesOnWith wsX6_goesOnWith 6 168 [.ref h0, .int x1] (wm_X6_beginsAct cA h0 h0_letters h0_firsts h0_seconds h0_bytes s0__size s0__acts s0__state s0__numbersLeft s0__inSecond s0__isBelow s0_letters s0_firsts s0_seconds) (wm_X6_beginsAct cA h0 h0_letters h0_firsts h0_seconds h0_bytes s0__size o0__acts o0__state o0__numbersLeft o0__inSecond o0__isBelow o0_letters o0_firsts o0_seconds) (some (.int r)) := by
  refine Ct.intro (cc := cX6_goesOnWith) (maxL := 2) (ret := some .boolean) (by decide +kernel) rfl (Nat.le_of_ble_eq_true rfl) ?_
  intro p e s m ar below meth c A Q hx hb hr hml hown hlocks hts hK hZ hA hQ hP hD hS ls hl
  have hown : s.vm.findClass RX6 = some m.cls := hown
  have hinX6 : ∀ w ∈ wsX60, w ∈ wsX6_goesOnWith := fun _ h => List.mem_cons_of_mem _ (List.mem_append_right _ (h))
  have hl : lv_has ls 2 [(0, .ref h0), (1, .int x1)] := hl
  have hP : va_P G vwCl (wm_X6_beginsAct cA h0 h0_letters h0_firsts h0_seconds h0_bytes s0__size s0__acts s0__state s0__numbersLeft s0__inSecond s0__isBelow s0_letters s0_firsts s0_seconds) s.heap := hP
  have hD : va_D A (wm_X6_beginsAct cA h0 h0_letters h0_firsts h0_seconds h0_bytes s0__size s0__acts s0__state s0__numbersLeft s0__inSecond s0__isBelow s0_letters s0_firsts s0_seconds) := hD
  unfold fX6_goesOnWith at hok
  refine lv_aload_n hx hb dX6_goesOnWith_0 rfl (lv_at hl 0 rfl) ?_
  refine va_get (ci := 6) (v := .int s0__state) (C := RX6) (T := TX6) (N := 10) hx hb hts hinX6 hown hK hP 0 rfl rfl 6 (by decide) (hts _ (List.mem_of_getElem? (i := 1) rfl)) (fun _ h9 => h9) rfl dX6_goesOnWith_1 ?_
  by_cases c0 : s0__state = 0
  · replace hok := g_pos hok c0
    have e9 : (s0__state).toInt = 0 := by rw [c0]; rfl
    refine lv_tableIn (tgt := 36) (off := 32) hx hb dX6_goesOnWith_4 (by rw [e9]; decide) (by rw [e9]; decide) (by rw [e9]; rfl) (by decide) ?_
    refine lv_aload_n hx hb dX6_goesOnWith_36 rfl (lv_at hl 0 rfl) ?_
    refine lv_iload_n hx hb dX6_goesOnWith_37 rfl (lv_at hl 1 rfl) ?_
    obtain ⟨r1, o2, o3, o4, o5, o6, o7, o8, o9, hq, hok⟩ := g_bnd9 hok
    refine cG (is := [0, 1, 2, 3]) (wc := (wm_X6_beginsAct cA h0 h0_letters h0_firsts h0_seconds h0_bytes s0__size s0__acts s0__state s0__numbersLeft s0__inSecond s0__isBelow s0_letters s0_firsts s0_seconds)) (w1 := (wm_X6_beginsAct cA h0 h0_letters h0_firsts h0_seconds h0_bytes s0__size o2 o3 o4 o5 o6 o7 o8 o9)) (rv := (some (.int r1))) (st1 := [.int r1]) (va_runV (Ts := wsX6_goesOnWith) (As := [.int x1]) (rest := []) ⟨hx, hb, hml, hown, hts⟩ (c_X6_beginsAct l G cA ts h0 h0_letters h0_firsts h0_seconds h0_bytes x1 s0__size s0__acts s0__state s0__numbersLeft s0__inSecond s0__isBelow s0_letters s0_firsts s0_seconds r1 o2 o3 o4 o5 o6 o7 o8 o9 hq s.heap.size) (cwV 1 hts gX6_goesOnWith_X6_beginsAct rfl rfl rfl (by decide +kernel) ⟨Nat.le_of_ble_eq_true rfl, Nat.le_of_ble_eq_true rfl⟩) (pre_V (ci := 6) (q0 := 0) (is := [0, 1, 2, 3]) rfl rfl hP hD hS hA hK hZ (by decide +kernel) (by rfl)) rfl rfl hl.1 rfl (by exact lv_room (Nat.le_of_ble_eq_true rfl)) dX6_goesOnWith_38 ⟨Nat.le_refl _, Nat.le_refl _⟩) hP hD hS hA (by decide +kernel) (by rfl) (by rfl) rfl (fun H locs hP hD hS => ?_)
    have hP : va_P G vwCl (wm_X6_beginsAct cA h0 h0_letters h0_firsts h0_seconds h0_bytes s0__size o2 o3 o4 o5 o6 o7 o8 o9) H := hP
    have hD : va_D A (wm_X6_beginsAct cA h0 h0_letters h0_firsts h0_seconds h0_bytes s0__size o2 o3 o4 o5 o6 o7 o8 o9) := hD
    obtain ⟨hin, hok⟩ := g_no hok
    cases hok
    exact cr_z (ty := .boolean) (nar_z hin) hx hb hr hlocks hQ dX6_goesOnWith_41 hP hS
  replace hok := g_neg hok c0
  by_cases c1 : s0__state = 1
  · replace hok := g_pos hok c1
    have e9 : (s0__state).toInt = 1 := by rw [c1]; rfl
    refine lv_tableIn (tgt := 42) (off := 38) hx hb dX6_goesOnWith_4 (by rw [e9]; decide) (by rw [e9]; decide) (by rw [e9]; rfl) (by decide) ?_
    refine lv_aload_n hx hb dX6_goesOnWith_42 rfl (lv_at hl 0 rfl) ?_
    refine lv_iload_n hx hb dX6_goesOnWith_43 rfl (lv_at hl 1 rfl) ?_
    obtain ⟨r10, o11, o12, o13, o14, hq, hok⟩ := g_bnd5 hok
    refine cG (is := [0, 2, 3]) (wc := (wm_X6_addsFigure cA h0 h0_firsts h0_seconds h0_bytes h0_letters s0__size s0__acts s0__state s0__numbersLeft s0__inSecond s0__isBelow s0_firsts s0_seconds)) (w1 := (wm_X6_addsFigure cA h0 h0_firsts h0_seconds h0_bytes h0_letters s0__size s0__acts o11 s0__numbersLeft s0__inSecond o12 o13 o14)) (rv := (some (.int r10))) (st1 := [.int r10]) (va_runV (Ts := wsX6_goesOnWith) (As := [.int x1]) (rest := []) ⟨hx, hb, hml, hown, hts⟩ (c_X6_beginsNumber l G cA ts h0 h0_firsts h0_seconds h0_bytes h0_letters x1 s0__size s0__acts s0__state s0__numbersLeft s0__inSecond s0__isBelow s0_firsts s0_seconds r10 o11 o12 o13 o14 hq s.heap.size) (cwV 1 hts gX6_goesOnWith_X6_beginsNumber rfl rfl rfl (by decide +kernel) ⟨Nat.le_of_ble_eq_true rfl, Nat.le_of_ble_eq_true rfl⟩) (pre_V (ci := 6) (q0 := 0) (is := [0, 2, 3]) rfl rfl hP hD hS hA hK hZ (by decide +kernel) (by rfl)) rfl rfl hl.1 rfl (by exact lv_room (Nat.le_of_ble_eq_true rfl)) dX6_goesOnWith_44 ⟨Nat.le_refl _, Nat.le_refl _⟩) hP hD hS hA (by decide +kernel) (by rfl) (by rfl) rfl (fun H locs hP hD hS => ?_)
    have hP : va_P G vwCl (wm_X6_beginsAct cA h0 h0_letters h0_firsts h0_seconds h0_bytes s0__size s0__acts o11 s0__numbersLeft s0__inSecond o12 s0_letters o13 o14) H := hP
    have hD : va_D A (wm_X6_beginsAct cA h0 h0_letters h0_firsts h0_seconds h0_bytes s0__size s0__acts o11 s0__numbersLeft s0__inSecond o12 s0_letters o13 o14) := hD
    obtain ⟨hin, hok⟩ := g_no hok
    cases hok
    exact cr_z (ty := .boolean) (nar_z hin) hx hb hr hlocks hQ dX6_goesOnWith_47 hP hS
  replace hok := g_neg hok c1
  by_cases c2 : s0__state = 2
  · replace hok := g_pos hok c2
    have e9 : (s0__state).toInt = 2 := by rw [c2]; rfl
    refine lv_tableIn (tgt := 48) (off := 44) hx hb dX6_goesOnWith_4 (by rw [e9]; decide) (by rw [e9]; decide) (by rw [e9]; rfl) (by decide) ?_
    refine lv_aload_n hx hb dX6_goesOnWith_48 rfl (lv_at hl 0 rfl) ?_
    refine lv_iload_n hx hb dX6_goesOnWith_49 rfl (lv_at hl 1 rfl) ?_
    refine lv_iconst (v := 3) hx hb dX6_goesOnWith_50 (by decide) ?_
    obtain ⟨r15, o16, o17, o18, hq, hok⟩ := g_bnd4 hok
    refine cG (is := [0, 2, 3]) (wc := (wm_X6_addsFigure cA h0 h0_firsts h0_seconds h0_bytes h0_letters s0__size s0__acts s0__state s0__numbersLeft s0__inSecond s0__isBelow s0_firsts s0_seconds)) (w1 := (wm_X6_addsFigure cA h0 h0_firsts h0_seconds h0_bytes h0_letters s0__size s0__acts o16 s0__numbersLeft s0__inSecond s0__isBelow o17 o18)) (rv := (some (.int r15))) (st1 := [.int r15]) (va_runV (Ts := wsX6_goesOnWith) (As := [.int x1, .int (3:Int32)]) (rest := []) ⟨hx, hb, hml, hown, hts⟩ (c_X6_addsFigure l G cA ts h0 h0_firsts h0_seconds h0_bytes h0_letters x1 (3:Int32) s0__size s0__acts s0__state s0__numbersLeft s0__inSecond s0__isBelow s0_firsts s0_seconds r15 o16 o17 o18 hq s.heap.size) (cwV 2 hts gX6_goesOnWith_X6_addsFigure rfl rfl rfl (by decide +kernel) ⟨Nat.le_of_ble_eq_true rfl, Nat.le_of_ble_eq_true rfl⟩) (pre_V (ci := 6) (q0 := 0) (is := [0, 2, 3]) rfl rfl hP hD hS hA hK hZ (by decide +kernel) (by rfl)) rfl rfl hl.1 rfl (by exact lv_room (Nat.le_of_ble_eq_true rfl)) dX6_goesOnWith_51 ⟨Nat.le_refl _, Nat.le_refl _⟩) hP hD hS hA (by decide +kernel) (by rfl) (by rfl) rfl (fun H locs hP hD hS => ?_)
    have hP : va_P G vwCl (wm_X6_beginsAct cA h0 h0_letters h0_firsts h0_seconds h0_bytes s0__size s0__acts o16 s0__numbersLeft s0__inSecond s0__isBelow s0_letters o17 o18) H := hP
    have hD : va_D A (wm_X6_beginsAct cA h0 h0_letters h0_firsts h0_seconds h0_bytes s0__size s0__acts o16 s0__numbersLeft s0__inSecond s0__isBelow s0_letters o17 o18) := hD
    obtain ⟨hin, hok⟩ := g_no hok
    cases hok
    exact cr_z (ty := .boolean) (nar_z hin) hx hb hr hlocks hQ dX6_goesOnWith_54 hP hS
  replace hok := g_neg hok c2
  by_cases c3 : s0__state = 3
  · replace hok := g_pos hok c3
    have e9 : (s0__state).toInt = 3 := by rw [c3]; rfl
    refine lv_tableIn (tgt := 55) (off := 51) hx hb dX6_goesOnWith_4 (by rw [e9]; decide) (by rw [e9]; decide) (by rw [e9]; rfl) (by decide) ?_
    refine lv_aload_n hx hb dX6_goesOnWith_55 rfl (lv_at hl 0 rfl) ?_
    refine lv_iload_n hx hb dX6_goesOnWith_56 rfl (lv_at hl 1 rfl) ?_
    refine lv_iconst (v := 4) hx hb dX6_goesOnWith_57 (by decide) ?_
    obtain ⟨r19, o20, o21, o22, hq, hok⟩ := g_bnd4 hok
    refine cG (is := [0, 2, 3]) (wc := (wm_X6_addsFigure cA h0 h0_firsts h0_seconds h0_bytes h0_letters s0__size s0__acts s0__state s0__numbersLeft s0__inSecond s0__isBelow s0_firsts s0_seconds)) (w1 := (wm_X6_addsFigure cA h0 h0_firsts h0_seconds h0_bytes h0_letters s0__size s0__acts o20 s0__numbersLeft s0__inSecond s0__isBelow o21 o22)) (rv := (some (.int r19))) (st1 := [.int r19]) (va_runV (Ts := wsX6_goesOnWith) (As := [.int x1, .int (4:Int32)]) (rest := []) ⟨hx, hb, hml, hown, hts⟩ (c_X6_addsFigure l G cA ts h0 h0_firsts h0_seconds h0_bytes h0_letters x1 (4:Int32) s0__size s0__acts s0__state s0__numbersLeft s0__inSecond s0__isBelow s0_firsts s0_seconds r19 o20 o21 o22 hq s.heap.size) (cwV 2 hts gX6_goesOnWith_X6_addsFigure rfl rfl rfl (by decide +kernel) ⟨Nat.le_of_ble_eq_true rfl, Nat.le_of_ble_eq_true rfl⟩) (pre_V (ci := 6) (q0 := 0) (is := [0, 2, 3]) rfl rfl hP hD hS hA hK hZ (by decide +kernel) (by rfl)) rfl rfl hl.1 rfl (by exact lv_room (Nat.le_of_ble_eq_true rfl)) dX6_goesOnWith_58 ⟨Nat.le_refl _, Nat.le_refl _⟩) hP hD hS hA (by decide +kernel) (by rfl) (by rfl) rfl (fun H locs hP hD hS => ?_)
    have hP : va_P G vwCl (wm_X6_beginsAct cA h0 h0_letters h0_firsts h0_seconds h0_bytes s0__size s0__acts o20 s0__numbersLeft s0__inSecond s0__isBelow s0_letters o21 o22) H := hP
    have hD : va_D A (wm_X6_beginsAct cA h0 h0_letters h0_firsts h0_seconds h0_bytes s0__size s0__acts o20 s0__numbersLeft s0__inSecond s0__isBelow s0_letters o21 o22) := hD
    refine lv_if_ne (tgt := 72) hx hb dX6_goesOnWith_61 (by decide) (fun c => ?_) (fun c => ?_)
    · replace hok := g_neg hok c
      refine lv_iconst (v := 1) hx hb dX6_goesOnWith_72 (by decide) ?_
      refine lv_goto (tgt := 77) hx hb dX6_goesOnWith_73 (by decide) ?_
      cases hok
      exact cr_z (ty := .boolean) (by decide +kernel) hx hb hr hlocks hQ dX6_goesOnWith_77 hP hS
    replace hok := g_pos hok c
    refine lv_aload_n hx hb dX6_goesOnWith_64 rfl (lv_at hl 0 rfl) ?_
    refine lv_iload_n hx hb dX6_goesOnWith_65 rfl (lv_at hl 1 rfl) ?_
    obtain ⟨r23, o24, o25, o26, o27, hq, hok⟩ := g_bnd5 hok
    refine cG (is := [0]) (wc := (wm_X6_endsNumberWith cA h0 h0_bytes h0_letters h0_firsts h0_seconds s0__size s0__acts o20 s0__numbersLeft s0__inSecond s0__isBelow)) (w1 := (wm_X6_endsNumberWith cA h0 h0_bytes h0_letters h0_firsts h0_seconds s0__size s0__acts o24 o25 o26 o27)) (rv := (some (.int r23))) (st1 := [.int r23]) (va_runV (Ts := wsX6_goesOnWith) (As := [.int x1]) (rest := []) ⟨hx, hb, hml, hown, hts⟩ (c_X6_endsNumberWith l G cA ts h0 h0_bytes h0_letters h0_firsts h0_seconds x1 s0__size s0__acts o20 s0__numbersLeft s0__inSecond s0__isBelow r23 o24 o25 o26 o27 hq H.size) (cwV 1 hts gX6_goesOnWith_X6_endsNumberWith rfl rfl rfl (by decide +kernel) ⟨Nat.le_of_ble_eq_true rfl, Nat.le_of_ble_eq_true rfl⟩) (pre_V (ci := 6) (q0 := 0) (is := [0]) rfl rfl hP hD hS hA hK hZ (by decide +kernel) (by rfl)) rfl rfl hl.1 rfl (by exact lv_room (Nat.le_of_ble_eq_true rfl)) dX6_goesOnWith_66 ⟨Nat.le_refl _, Nat.le_refl _⟩) hP hD hS hA (by decide +kernel) (by rfl) (by rfl) rfl (fun H locs hP hD hS => ?_)
    have hP : va_P G vwCl (wm_X6_beginsAct cA h0 h0_letters h0_firsts h0_seconds h0_bytes s0__size s0__acts o24 o25 o26 o27 s0_letters o21 o22) H := hP
    have hD : va_D A (wm_X6_beginsAct cA h0 h0_letters h0_firsts h0_seconds h0_bytes s0__size s0__acts o24 o25 o26 o27 s0_letters o21 o22) := hD
    refine lv_if_eq (tgt := 76) hx hb dX6_goesOnWith_69 (by decide) (fun c => ?_) (fun c => ?_)
    · replace hok := g_pos hok c
      refine lv_iconst (v := 0) hx hb dX6_goesOnWith_76 (by decide) ?_
      cases hok
      exact cr_z (ty := .boolean) (by decide +kernel) hx hb hr hlocks hQ dX6_goesOnWith_77 hP hS
    replace hok := g_neg hok c
    refine lv_iconst (v := 1) hx hb dX6_goesOnWith_72 (by decide) ?_
    refine lv_goto (tgt := 77) hx hb dX6_goesOnWith_73 (by decide) ?_
    cases hok
    exact cr_z (ty := .boolean) (by decide +kernel) hx hb hr hlocks hQ dX6_goesOnWith_77 hP hS
  replace hok := g_neg hok c3
  refine lv_tableOut (tgt := 78) hx hb dX6_goesOnWith_4 (by have b0 := lv_neT (a := 0) c0 rfl; have b1 := lv_neT (a := 1) c1 rfl; have b2 := lv_neT (a := 2) c2 rfl; have b3 := lv_neT (a := 3) c3 rfl; omega) (by decide) ?_
  refine lv_aload_n hx hb dX6_goesOnWith_78 rfl (lv_at hl 0 rfl) ?_
  refine lv_iload_n hx hb dX6_goesOnWith_79 rfl (lv_at hl 1 rfl) ?_
  obtain ⟨r28, o29, o30, o31, o32, hq, hok⟩ := g_bnd5 hok
  refine cG (is := [0]) (wc := (wm_X6_endsNumberWith cA h0 h0_bytes h0_letters h0_firsts h0_seconds s0__size s0__acts s0__state s0__numbersLeft s0__inSecond s0__isBelow)) (w1 := (wm_X6_endsNumberWith cA h0 h0_bytes h0_letters h0_firsts h0_seconds s0__size s0__acts o29 o30 o31 o32)) (rv := (some (.int r28))) (st1 := [.int r28]) (va_runV (Ts := wsX6_goesOnWith) (As := [.int x1]) (rest := []) ⟨hx, hb, hml, hown, hts⟩ (c_X6_endsNumberWith l G cA ts h0 h0_bytes h0_letters h0_firsts h0_seconds x1 s0__size s0__acts s0__state s0__numbersLeft s0__inSecond s0__isBelow r28 o29 o30 o31 o32 hq s.heap.size) (cwV 1 hts gX6_goesOnWith_X6_endsNumberWith rfl rfl rfl (by decide +kernel) ⟨Nat.le_of_ble_eq_true rfl, Nat.le_of_ble_eq_true rfl⟩) (pre_V (ci := 6) (q0 := 0) (is := [0]) rfl rfl hP hD hS hA hK hZ (by decide +kernel) (by rfl)) rfl rfl hl.1 rfl (by exact lv_room (Nat.le_of_ble_eq_true rfl)) dX6_goesOnWith_80 ⟨Nat.le_refl _, Nat.le_refl _⟩) hP hD hS hA (by decide +kernel) (by rfl) (by rfl) rfl (fun H locs hP hD hS => ?_)
  have hP : va_P G vwCl (wm_X6_beginsAct cA h0 h0_letters h0_firsts h0_seconds h0_bytes s0__size s0__acts o29 o30 o31 o32 s0_letters s0_firsts s0_seconds) H := hP
  have hD : va_D A (wm_X6_beginsAct cA h0 h0_letters h0_firsts h0_seconds h0_bytes s0__size s0__acts o29 o30 o31 o32 s0_letters s0_firsts s0_seconds) := hD
  obtain ⟨hin, hok⟩ := g_no hok
  cases hok
  exact cr_z (ty := .boolean) (nar_z hin) hx hb hr hlocks hQ dX6_goesOnWith_83 hP hS
