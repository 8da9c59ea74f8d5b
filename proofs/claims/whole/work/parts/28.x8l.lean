set_option maxHeartbeats 40000000 in
set_option maxRecDepth 100000 in
theorem c_X8_rowsThere (l : Launch) (G : va_G) (cA : Nat → ClassId) (ts : Nat → Nat) (h0 : Nat) (h0_rows : Nat) (h0_rows_e : Nat → Nat) (h0_filter : Nat) (h0_trial : Nat) (h0_kept : Nat) (h0_ways : Nat) (h0_spread : Nat) (h0_course : Nat) (h0_changes : Nat) (h0_tape : Nat) (h0_bodies : Nat) (h0_causes : Nat) (h0_rows_e_places : Nat → Nat) (s0__hasImage : Int32) (s0__hasCauses : Int32) (s0__stepsDone : Int32) (s0_rows_e__sort : Nat → Int32) (s0_rows_e__size : Nat → Int32) (r : Int32) (hok : fX8_rowsThere s0_rows_e__sort = some r) : Ct l G cA ts yX8_rowsThere wsX8_rowsThere 2 61 [.ref h0] (wm_X8_isMissing cA h0 h0_rows h0_rows_e h0_filter h0_trial h0_kept h0_ways h0_spread h0_course h0_changes h0_tape h0_bodies h0_causes h0_rows_e_places s0__hasImage s0__hasCauses s0__stepsDone s0_rows_e__sort s0_rows_e__size) (wm_X8_isMissing cA h0 h0_rows h0_rows_e h0_filter h0_trial h0_kept h0_ways h0_spread h0_course h0_changes h0_tape h0_bodies h0_causes h0_rows_e_places s0__hasImage s0__hasCauses s0__stepsDone s0_rows_e__sort s0_rows_e__size) (some (.int r)) := by
  refine Ct.intro (cc := cX8_rowsThere) (maxL := 3) (ret := some .int) (by decide +kernel) rfl (Nat.le_of_ble_eq_true rfl) ?_
  intro p e s m ar below meth c A Q hx hb hr hml hown hlocks hts hK hZ hA hQ hP hD hS ls hl
  have hown : s.vm.findClass RX8 = some m.cls := hown
  have hl : lv_has ls 3 [(0, .ref h0)] := hl
  have hP : va_P G vwCl (wm_X8_isMissing cA h0 h0_rows h0_rows_e h0_filter h0_trial h0_kept h0_ways h0_spread h0_course h0_changes h0_tape h0_bodies h0_causes h0_rows_e_places s0__hasImage s0__hasCauses s0__stepsDone s0_rows_e__sort s0_rows_e__size) s.heap := hP
  have hD : va_D A (wm_X8_isMissing cA h0 h0_rows h0_rows_e h0_filter h0_trial h0_kept h0_ways h0_spread h0_course h0_changes h0_tape h0_bodies h0_causes h0_rows_e_places s0__hasImage s0__hasCauses s0__stepsDone s0_rows_e__sort s0_rows_e__size) := hD
  have L_4 : ∀ (n : Nat) (y1 : Int32) (y2 : Int32) (p0_0 : Int32) (H : Heap) (locs : List Loc) (ls : Array Slot), va_P G vwCl (wm_X8_isMissing cA h0 h0_rows h0_rows_e h0_filter h0_trial h0_kept h0_ways h0_spread h0_course h0_changes h0_tape h0_bodies h0_causes h0_rows_e_places s0__hasImage s0__hasCauses s0__stepsDone s0_rows_e__sort s0_rows_e__size) H → va_D A (wm_X8_isMissing cA h0 h0_rows h0_rows_e h0_filter h0_trial h0_kept h0_ways h0_spread h0_course h0_changes h0_tape h0_bodies h0_causes h0_rows_e_places s0__hasImage s0__hasCauses s0__stepsDone s0_rows_e__sort s0_rows_e__size) → va_S A s.heap H locs → lv_has ls 3 [(0, .ref h0), (1, .int y1), (2, .int y2)] → fX8_rowsThere_L4 s0_rows_e__sort n y1 y2 = some p0_0 → (∀ (H : Heap) (locs : List Loc) (ls : Array Slot), va_P G vwCl (wm_X8_isMissing cA h0 h0_rows h0_rows_e h0_filter h0_trial h0_kept h0_ways h0_spread h0_course h0_changes h0_tape h0_bodies h0_causes h0_rows_e_places s0__hasImage s0__hasCauses s0__stepsDone s0_rows_e__sort s0_rows_e__size) H → va_D A (wm_X8_isMissing cA h0 h0_rows h0_rows_e h0_filter h0_trial h0_kept h0_ways h0_spread h0_course h0_changes h0_tape h0_bodies h0_causes h0_rows_e_places s0__hasImage s0__hasCauses s0__stepsDone s0_rows_e__sort s0_rows_e__size) → va_S A s.heap H locs → lv_has ls 3 [(1, .int p0_0)] → W p l e (rmX 2 61) s m ar below meth c H locs 0 0 Q (F0 m 26 ls [])) → W p l e (rmX 2 61) s m ar below meth c H locs 0 0 Q (F0 m 4 ls []) := by
    intro n
    induction n with
    | zero =>
      intro y1 y2 p0_0 H locs ls hP hD hS hl hok
      rw [fX8_rowsThere_L4] at hok
      cases hok
    | succ n ih =>
      intro y1 y2 p0_0 H locs ls hP hD hS hl hok K
      rw [fX8_rowsThere_L4] at hok
      refine lv_iload_n hx hb dX8_rowsThere_4 rfl (lv_at hl 2 rfl) ?_
      refine lv_iconst (v := 4) hx hb dX8_rowsThere_5 (by decide) ?_
      refine lv_icmp_ge (tgt := 26) hx hb dX8_rowsThere_6 (by decide) (fun c => ?_) (fun c => ?_)
      · replace hok := g_pos hok c
        cases hok
        exact K _ _ _ hP hD hS (lv_sub hl [1] rfl)
      replace hok := g_neg hok c
      refine lv_aload_n hx hb dX8_rowsThere_9 rfl (lv_at hl 0 rfl) ?_
      refine lv_iload_n hx hb dX8_rowsThere_10 rfl (lv_at hl 2 rfl) ?_
      obtain ⟨r1, hq, hok⟩ := g_bnd1 hok
      refine cG (is := [0, 1, 2, 3, 4, 5]) (wc := (wm_X8_isMissing cA h0 h0_rows h0_rows_e h0_filter h0_trial h0_kept h0_ways h0_spread h0_course h0_changes h0_tape h0_bodies h0_causes h0_rows_e_places s0__hasImage s0__hasCauses s0__stepsDone s0_rows_e__sort s0_rows_e__size)) (w1 := (wm_X8_isMissing cA h0 h0_rows h0_rows_e h0_filter h0_trial h0_kept h0_ways h0_spread h0_course h0_changes h0_tape h0_bodies h0_causes h0_rows_e_places s0__hasImage s0__hasCauses s0__stepsDone s0_rows_e__sort s0_rows_e__size)) (rv := (some (.int r1))) (st1 := [.int r1]) (va_runV (Ts := wsX8_rowsThere) (As := [.int y2]) (rest := []) ⟨hx, hb, hml, hown, hts⟩ (c_X8_isMissing l G cA ts h0 h0_rows h0_rows_e h0_filter h0_trial h0_kept h0_ways h0_spread h0_course h0_changes h0_tape h0_bodies h0_causes h0_rows_e_places y2 s0__hasImage s0__hasCauses s0__stepsDone s0_rows_e__sort s0_rows_e__size r1 hq H.size) (cwV 1 hts gX8_rowsThere_X8_isMissing rfl rfl rfl (by decide +kernel) ⟨Nat.le_of_ble_eq_true rfl, Nat.le_of_ble_eq_true rfl⟩) (pre_V (ci := 8) (q0 := 0) (is := [0, 1, 2, 3, 4, 5]) rfl rfl hP hD hS hA hK hZ (by decide +kernel) (by rfl)) rfl rfl hl.1 rfl (by exact lv_room (Nat.le_of_ble_eq_true rfl)) dX8_rowsThere_11 ⟨Nat.le_refl _, Nat.le_refl _⟩) hP hD hS hA (by decide +kernel) (by rfl) (by rfl) rfl (fun H locs hP hD hS => ?_)
      have hP : va_P G vwCl (wm_X8_isMissing cA h0 h0_rows h0_rows_e h0_filter h0_trial h0_kept h0_ways h0_spread h0_course h0_changes h0_tape h0_bodies h0_causes h0_rows_e_places s0__hasImage s0__hasCauses s0__stepsDone s0_rows_e__sort s0_rows_e__size) H := hP
      have hD : va_D A (wm_X8_isMissing cA h0 h0_rows h0_rows_e h0_filter h0_trial h0_kept h0_ways h0_spread h0_course h0_changes h0_tape h0_bodies h0_causes h0_rows_e_places s0__hasImage s0__hasCauses s0__stepsDone s0_rows_e__sort s0_rows_e__size) := hD
      refine lv_if_ne (tgt := 20) hx hb dX8_rowsThere_14 (by decide) (fun c => ?_) (fun c => ?_)
      · replace hok := g_neg hok c
        refine lv_iinc (v := (y2 + 1)) (lv' := [(2, .int (y2 + 1)), (0, .ref h0), (1, .int y1)]) hx hb dX8_rowsThere_20 hl (k := 2) rfl rfl (by decide) rfl (fun ls hl => ?_)
        refine lv_goto (tgt := 4) hx hb dX8_rowsThere_23 (by decide) ?_
        exact ih y1 (y2 + 1) p0_0 _ _ _ hP hD hS (lv_sub hl [1, 2, 0] rfl) hok K
      replace hok := g_pos hok c
      refine lv_iinc (v := (y1 + 1)) (lv' := [(1, .int (y1 + 1)), (0, .ref h0), (2, .int y2)]) hx hb dX8_rowsThere_17 hl (k := 1) rfl rfl (by decide) rfl (fun ls hl => ?_)
      refine lv_iinc (v := (y2 + 1)) (lv' := [(2, .int (y2 + 1)), (1, .int (y1 + 1)), (0, .ref h0)]) hx hb dX8_rowsThere_20 hl (k := 2) rfl rfl (by decide) rfl (fun ls hl => ?_)
      refine lv_goto (tgt := 4) hx hb dX8_rowsThere_23 (by decide) ?_
      exact ih (y1 + 1) (y2 + 1) p0_0 _ _ _ hP hD hS (lv_sub hl [2, 1, 0] rfl) hok K
  unfold fX8_rowsThere at hok
  refine lv_iconst (v := 0) hx hb dX8_rowsThere_0 (by decide) ?_
  refine lv_istore_n (lv' := [(1, .int (0:Int32)), (0, .ref h0)]) hx hb dX8_rowsThere_1 rfl hl (by decide) rfl (fun ls hl => ?_)
  refine lv_iconst (v := 0) hx hb dX8_rowsThere_2 (by decide) ?_
  refine lv_istore_n (lv' := [(2, .int (0:Int32)), (1, .int (0:Int32)), (0, .ref h0)]) hx hb dX8_rowsThere_3 rfl hl (by decide) rfl (fun ls hl => ?_)
  obtain ⟨o2, hq, hok⟩ := g_bnd1 hok
  refine L_4 FUEL (0:Int32) (0:Int32) o2 _ _ _ hP hD hS (lv_sub hl [2, 1, 0] rfl) hq (fun H locs ls hP hD hS hl => ?_)
  refine lv_iload_n hx hb dX8_rowsThere_26 rfl (lv_at hl 0 rfl) ?_
  cases hok
  exact cr_i hx hb hr hlocks hQ dX8_rowsThere_27 hP hS
set_option maxHeartbeats 40000000 in
set_option maxRecDepth 100000 in
theorem c_X8_count (l : Launch) (G : va_G) (cA : Nat → ClassId) (ts : Nat → Nat) (h0 : Nat) (h0_rows : Nat) (h0_rows_e : Nat → Nat) (h0_changes : Nat) (h0_tape : Nat) (h0_filter : Nat) (h0_trial : Nat) (h0_kept : Nat) (h0_ways : Nat) (h0_spread : Nat) (h0_course : Nat) (h0_bodies : Nat) (h0_causes : Nat) (h0_rows_e_places : Nat → Nat) (h0_changes_slots : Nat) (h0_changes_olds : Nat) (h0_changes_news : Nat) (h0_tape_bytes : Nat) (h0_tape_letters : Nat) (h0_tape_firsts : Nat) (h0_tape_seconds : Nat) (x1 : Int32) (s0__hasImage : Int32) (s0__hasCauses : Int32) (s0__stepsDone : Int32) (s0_rows_e__sort : Nat → Int32) (s0_rows_e__size : Nat → Int32) (s0_changes__done : Int32) (s0_changes__undone : Int32) (s0_tape__size : Int32) (s0_tape__acts : Int32) (s0_tape__state : Int32) (s0_tape__numbersLeft : Int32) (s0_tape__inSecond : Int32) (s0_tape__isBelow : Int32) (r : Int32) (hok : fX8_count x1 s0__stepsDone s0_rows_e__sort s0_changes__done s0_changes__undone s0_tape__size = some r) : Ct l G cA ts yX8_count wsX8_count 3 83 [.ref h0, .int x1] (wm_X8_count cA h0 h0_rows h0_rows_e h0_changes h0_tape h0_filter h0_trial h0_kept h0_ways h0_spread h0_course h0_bodies h0_causes h0_rows_e_places h0_changes_slots h0_changes_olds h0_changes_news h0_tape_bytes h0_tape_letters h0_tape_firsts h0_tape_seconds s0__hasImage s0__hasCauses s0__stepsDone s0_rows_e__sort s0_rows_e__size s0_changes__done s0_changes__undone s0_tape__size s0_tape__acts s0_tape__state s0_tape__numbersLeft s0_tape__inSecond s0_tape__isBelow) (wm_X8_count cA h0 h0_rows h0_rows_e h0_changes h0_tape h0_filter h0_trial h0_kept h0_ways h0_spread h0_course h0_bodies h0_causes h0_rows_e_places h0_changes_slots h0_changes_olds h0_changes_news h0_tape_bytes h0_tape_letters h0_tape_firsts h0_tape_seconds s0__hasImage s0__hasCauses s0__stepsDone s0_rows_e__sort s0_rows_e__size s0_changes__done s0_changes__undone s0_tape__size s0_tape__acts s0_tape__state s0_tape__numbersLeft s0_tape__inSecond s0_tape__isBelow) (some (.int r)) := by
  refine Ct.intro (cc := cX8_count) (maxL := 2) (ret := some .int) (by decide +kernel) rfl (Nat.le_of_ble_eq_true rfl) ?_
  intro p e s m ar below meth c A Q hx hb hr hml hown hlocks hts hK hZ hA hQ hP hD hS ls hl
  have hown : s.vm.findClass RX8 = some m.cls := hown
  have hinX1 : ∀ w ∈ wsX10, w ∈ wsX8_count := fun _ h => List.mem_cons_of_mem _ (List.mem_append_left _ (List.mem_append_left _ (List.mem_append_right _ (h))))
  have hinX6 : ∀ w ∈ wsX60, w ∈ wsX8_count := fun _ h => List.mem_cons_of_mem _ (List.mem_append_left _ (List.mem_append_right _ (h)))
  have hinX8 : ∀ w ∈ wsX80, w ∈ wsX8_count := fun _ h => List.mem_cons_of_mem _ (List.mem_append_left _ (List.mem_append_left _ (List.mem_append_left _ (List.mem_append_right _ (h)))))
  have hl : lv_has ls 2 [(0, .ref h0), (1, .int x1)] := hl
  have hP : va_P G vwCl (wm_X8_count cA h0 h0_rows h0_rows_e h0_changes h0_tape h0_filter h0_trial h0_kept h0_ways h0_spread h0_course h0_bodies h0_causes h0_rows_e_places h0_changes_slots h0_changes_olds h0_changes_news h0_tape_bytes h0_tape_letters h0_tape_firsts h0_tape_seconds s0__hasImage s0__hasCauses s0__stepsDone s0_rows_e__sort s0_rows_e__size s0_changes__done s0_changes__undone s0_tape__size s0_tape__acts s0_tape__state s0_tape__numbersLeft s0_tape__inSecond s0_tape__isBelow) s.heap := hP
  have hD : va_D A (wm_X8_count cA h0 h0_rows h0_rows_e h0_changes h0_tape h0_filter h0_trial h0_kept h0_ways h0_spread h0_course h0_bodies h0_causes h0_rows_e_places h0_changes_slots h0_changes_olds h0_changes_news h0_tape_bytes h0_tape_letters h0_tape_firsts h0_tape_seconds s0__hasImage s0__hasCauses s0__stepsDone s0_rows_e__sort s0_rows_e__size s0_changes__done s0_changes__undone s0_tape__size s0_tape__acts s0_tape__state s0_tape__numbersLeft s0_tape__inSecond s0_tape__isBelow) := hD
  unfold fX8_count at hok
  refine lv_iload_n hx hb dX8_count_0 rfl (lv_at hl 1 rfl) ?_
  by_cases c0 : x1 = 0
  · replace hok := g_pos hok c0
    have e9 : (x1).toInt = 0 := by rw [c0]; rfl
    refine lv_tableIn (tgt := 36) (off := 35) hx hb dX8_count_1 (by rw [e9]; decide) (by rw [e9]; decide) (by rw [e9]; rfl) (by decide) ?_
    refine lv_aload_n hx hb dX8_count_36 rfl (lv_at hl 0 rfl) ?_
    refine va_get (ci := 8) (v := .ref h0_changes) (C := RX8) (T := TX8) (N := 14) hx hb hts hinX8 hown hK hP 0 rfl rfl 8 (by decide) (hts _ (List.mem_of_getElem? (i := 1) rfl)) (fun _ h9 => h9) rfl dX8_count_37 ?_
    refine va_get (ci := 1) (v := .int s0_changes__done) (C := RX1) (T := TX1) (N := 5) hx hb hts hinX1 hown hK hP 6 rfl rfl 3 (by decide) (hts _ (List.mem_of_getElem? (i := 2) rfl)) (fun _ h9 => h9) rfl dX8_count_40 ?_
    cases hok
    exact cr_i hx hb hr hlocks hQ dX8_count_43 hP hS
  replace hok := g_neg hok c0
  by_cases c1 : x1 = 1
  · replace hok := g_pos hok c1
    have e9 : (x1).toInt = 1 := by rw [c1]; rfl
    refine lv_tableIn (tgt := 44) (off := 43) hx hb dX8_count_1 (by rw [e9]; decide) (by rw [e9]; decide) (by rw [e9]; rfl) (by decide) ?_
    refine lv_aload_n hx hb dX8_count_44 rfl (lv_at hl 0 rfl) ?_
    refine va_get (ci := 8) (v := .ref h0_changes) (C := RX8) (T := TX8) (N := 14) hx hb hts hinX8 hown hK hP 0 rfl rfl 8 (by decide) (hts _ (List.mem_of_getElem? (i := 1) rfl)) (fun _ h9 => h9) rfl dX8_count_45 ?_
    refine va_get (ci := 1) (v := .int s0_changes__undone) (C := RX1) (T := TX1) (N := 5) hx hb hts hinX1 hown hK hP 6 rfl rfl 4 (by decide) (hts _ (List.mem_of_getElem? (i := 3) rfl)) (fun _ h9 => h9) rfl dX8_count_48 ?_
    cases hok
    exact cr_i hx hb hr hlocks hQ dX8_count_51 hP hS
  replace hok := g_neg hok c1
  by_cases c2 : x1 = 2
  · replace hok := g_pos hok c2
    have e9 : (x1).toInt = 2 := by rw [c2]; rfl
    refine lv_tableIn (tgt := 52) (off := 51) hx hb dX8_count_1 (by rw [e9]; decide) (by rw [e9]; decide) (by rw [e9]; rfl) (by decide) ?_
    refine lv_aload_n hx hb dX8_count_52 rfl (lv_at hl 0 rfl) ?_
    refine va_get (ci := 8) (v := .ref h0_tape) (C := RX8) (T := TX8) (N := 14) hx hb hts hinX8 hown hK hP 0 rfl rfl 9 (by decide) (hts _ (List.mem_of_getElem? (i := 4) rfl)) (fun _ h9 => h9) rfl dX8_count_53 ?_
    refine va_get (ci := 6) (v := .int s0_tape__size) (C := RX6) (T := TX6) (N := 10) hx hb hts hinX6 hown hK hP 7 rfl rfl 1 (by decide) (hts _ (List.mem_of_getElem? (i := 5) rfl)) (fun _ h9 => h9) rfl dX8_count_56 ?_
    cases hok
    exact cr_i hx hb hr hlocks hQ dX8_count_59 hP hS
  replace hok := g_neg hok c2
  by_cases c3 : x1 = 3
  · replace hok := g_pos hok c3
    have e9 : (x1).toInt = 3 := by rw [c3]; rfl
    refine lv_tableIn (tgt := 60) (off := 59) hx hb dX8_count_1 (by rw [e9]; decide) (by rw [e9]; decide) (by rw [e9]; rfl) (by decide) ?_
    refine lv_aload_n hx hb dX8_count_60 rfl (lv_at hl 0 rfl) ?_
    obtain ⟨r1, hq, hok⟩ := g_bnd1 hok
    refine cG (is := [0, 1, 2, 3, 4, 5]) (wc := (wm_X8_isMissing cA h0 h0_rows h0_rows_e h0_filter h0_trial h0_kept h0_ways h0_spread h0_course h0_changes h0_tape h0_bodies h0_causes h0_rows_e_places s0__hasImage s0__hasCauses s0__stepsDone s0_rows_e__sort s0_rows_e__size)) (w1 := (wm_X8_isMissing cA h0 h0_rows h0_rows_e h0_filter h0_trial h0_kept h0_ways h0_spread h0_course h0_changes h0_tape h0_bodies h0_causes h0_rows_e_places s0__hasImage s0__hasCauses s0__stepsDone s0_rows_e__sort s0_rows_e__size)) (rv := (some (.int r1))) (st1 := [.int r1]) (va_runV (Ts := wsX8_count) (As := []) (rest := []) ⟨hx, hb, hml, hown, hts⟩ (c_X8_rowsThere l G cA ts h0 h0_rows h0_rows_e h0_filter h0_trial h0_kept h0_ways h0_spread h0_course h0_changes h0_tape h0_bodies h0_causes h0_rows_e_places s0__hasImage s0__hasCauses s0__stepsDone s0_rows_e__sort s0_rows_e__size r1 hq s.heap.size) (cwV 0 hts gX8_count_X8_rowsThere rfl rfl rfl (by decide +kernel) ⟨Nat.le_of_ble_eq_true rfl, Nat.le_of_ble_eq_true rfl⟩) (pre_V (ci := 8) (q0 := 0) (is := [0, 1, 2, 3, 4, 5]) rfl rfl hP hD hS hA hK hZ (by decide +kernel) (by rfl)) rfl rfl hl.1 rfl (by exact lv_room (Nat.le_of_ble_eq_true rfl)) dX8_count_61 ⟨Nat.le_refl _, Nat.le_refl _⟩) hP hD hS hA (by decide +kernel) (by rfl) (by rfl) rfl (fun H locs hP hD hS => ?_)
    have hP : va_P G vwCl (wm_X8_count cA h0 h0_rows h0_rows_e h0_changes h0_tape h0_filter h0_trial h0_kept h0_ways h0_spread h0_course h0_bodies h0_causes h0_rows_e_places h0_changes_slots h0_changes_olds h0_changes_news h0_tape_bytes h0_tape_letters h0_tape_firsts h0_tape_seconds s0__hasImage s0__hasCauses s0__stepsDone s0_rows_e__sort s0_rows_e__size s0_changes__done s0_changes__undone s0_tape__size s0_tape__acts s0_tape__state s0_tape__numbersLeft s0_tape__inSecond s0_tape__isBelow) H := hP
    have hD : va_D A (wm_X8_count cA h0 h0_rows h0_rows_e h0_changes h0_tape h0_filter h0_trial h0_kept h0_ways h0_spread h0_course h0_bodies h0_causes h0_rows_e_places h0_changes_slots h0_changes_olds h0_changes_news h0_tape_bytes h0_tape_letters h0_tape_firsts h0_tape_seconds s0__hasImage s0__hasCauses s0__stepsDone s0_rows_e__sort s0_rows_e__size s0_changes__done s0_changes__undone s0_tape__size s0_tape__acts s0_tape__state s0_tape__numbersLeft s0_tape__inSecond s0_tape__isBelow) := hD
    cases hok
    exact cr_i hx hb hr hlocks hQ dX8_count_64 hP hS
  replace hok := g_neg hok c3
  by_cases c4 : x1 = 4
  · replace hok := g_pos hok c4
    have e9 : (x1).toInt = 4 := by rw [c4]; rfl
    refine lv_tableIn (tgt := 65) (off := 64) hx hb dX8_count_1 (by rw [e9]; decide) (by rw [e9]; decide) (by rw [e9]; rfl) (by decide) ?_
    refine lv_aload_n hx hb dX8_count_65 rfl (lv_at hl 0 rfl) ?_
    refine va_get (ci := 8) (v := .int s0__stepsDone) (C := RX8) (T := TX8) (N := 14) hx hb hts hinX8 hown hK hP 0 rfl rfl 13 (by decide) (hts _ (List.mem_of_getElem? (i := 6) rfl)) (fun _ h9 => h9) rfl dX8_count_66 ?_
    cases hok
    exact cr_i hx hb hr hlocks hQ dX8_count_69 hP hS
  replace hok := g_neg hok c4
  refine lv_tableOut (tgt := 70) hx hb dX8_count_1 (by have b0 := lv_neT (a := 0) c0 rfl; have b1 := lv_neT (a := 1) c1 rfl; have b2 := lv_neT (a := 2) c2 rfl; have b3 := lv_neT (a := 3) c3 rfl; have b4 := lv_neT (a := 4) c4 rfl; omega) (by decide) ?_
  refine lv_iconst (v := -1) hx hb dX8_count_70 (by decide) ?_
  cases hok
  exact cr_i hx hb hr hlocks hQ dX8_count_71 hP hS
