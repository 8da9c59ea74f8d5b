theorem tx_at {A : Array Value} {s : State} {n : String} {l : List Int32} {ws : List Cond} (hs : ∀ w ∈ ws, w.before A s = true) (hl : (Cond.laysStatic "CutOffFilter" n "[I").before A s = true) (hini : (Cond.initialized "CutOffFilter").before A s = true) (harr : Cond.arrayOf (.static "CutOffFilter" n "[I") .int ∈ ws) (hlen : Cond.eq (.length (.static "CutOffFilter" n "[I")) (.int (Int32.ofNat l.length)) ∈ ws) (hel : ∀ j, j < l.length → Cond.eq (.elem (.static "CutOffFilter" n "[I") (.int (Int32.ofNat j))) (.int (tb l j)) ∈ ws) (hN : l.length < 2 ^ 31) : ∃ t, Tx n t l (fun q : Nat => s.heap.size ≤ q) s s.heap := by
  have hA : ∀ a : Nat, a < s.heap.size → ¬ (fun q : Nat => s.heap.size ≤ q) a := fun a h => Nat.not_le.mpr h
  obtain ⟨t, ht, hT⟩ := va_Tof (f := fun j => .int (tb l j)) hN (hs _ harr) (va_eqt (hs _ hlen)) (fun j hj => va_eqt (hs _ (hel j hj))) hA
  exact ⟨t, va_Zref hl hini ht hA, hT⟩
theorem of_at {A : Array Value} {s : State} {tm : Term} {o n d : String} {v : Value} {t : Nat} (ht : tm.eval A s none [] s = some (.ref t)) (hv : (Term.field tm o n d).eval A s none [] s = some v) : va_OF o n d v t (fun q : Nat => s.heap.size ≤ q) s s.heap := by
  have hA : ∀ a : Nat, a < s.heap.size → ¬ (fun q : Nat => s.heap.size ≤ q) a := fun a h => Nat.not_le.mpr h
  cases hfo : s.fieldFound? o n d with
  | none =>
    rw [va_fe ht] at hv
    simp [State.fieldOf?, State.fieldNamed?, hfo] at hv
  | some x =>
    obtain ⟨cf, k, fi, f⟩ := x
    obtain ⟨g1, cell, g2, g3, -, -, g6⟩ := Term.field_spec hfo ht hv
    exact ⟨cf, k, fi, f, cell, hfo, g1, g2, g3, g6, hA _ (Array.getElem?_eq_some_iff.mp g2).1⟩
theorem kn_prim {s : State} {A : Array Value} {ty : FieldType} (h : (Cond.arrayClass ty).before A s = true) (hne : ∀ C, ty ≠ .object C) : ∃ cA, ArrOfT s cA ty ∧ va_RA s cA ty := by
  obtain ⟨c, k, comp, h1, h2, h3⟩ := Cond.arrayClass_spec h
  refine ⟨c, fun n z => ⟨(fun k h => by cases h), k, h2, comp, h3⟩, ?_⟩
  cases ty <;> first | exact h1 | exact absurd rfl (hne _)
theorem kn_aoa {s : State} {t : FieldType} (h : va_AOA t s) : ∃ cA, ArrOfT s cA (.array t) ∧ va_RA s cA (.array t) := by
  obtain ⟨comp, c, k, h1, h2, h3, h4, h5⟩ := h.spec
  exact ⟨c, fun n z => ⟨(fun k h => by cases h), k, h3, comp, h4⟩, h5⟩
theorem kn_ao {s : State} {C : String} (h : va_AO C s) : ∃ cA, ArrOfT s cA (.object C) ∧ va_RA s cA (.object C) := by
  obtain ⟨comp, c, k, h1, h2, h3, h4, h5⟩ := Cond.arrayOver_spec h
  exact ⟨c, fun n z => ⟨(fun k h => by cases h), k, h3, comp, h4⟩, k, comp, h3, h4, h1, h5⟩

theorem kn_start {A : Array Value} {s : State} (hts : ∀ w ∈ lw_tbl, w.before A s = true) : ∃ (G : va_G) (cA : Nat → ClassId), va_K G vwCl (tysX cA) s := by
  obtain ⟨c0, i0, h0⟩ := u_known (C := RX0) (T := TX0) (N := 2) (n := 2) hts lmr_wsX00 (hts _ lm_46)
  obtain ⟨c1, i1, h1⟩ := u_known (C := RX1) (T := TX1) (N := 5) (n := 5) hts lmr_wsX10 (hts _ lm_38)
  obtain ⟨c2, i2, h2⟩ := u_known (C := RX2) (T := TX2) (N := 6) (n := 6) hts lmr_wsX20 (hts _ lm_30)
  obtain ⟨c3, i3, h3⟩ := u_known (C := RX3) (T := TX3) (N := 9) (n := 9) hts lmr_wsX30 (hts _ lm_15)
  obtain ⟨c4, i4, h4⟩ := u_known (C := RX4) (T := TX4) (N := 3) (n := 3) hts lmr_wsX40 (hts _ lm_34)
  obtain ⟨c5, i5, h5⟩ := u_known (C := RX5) (T := TX5) (N := 4) (n := 4) hts lmr_wsX50 (hts _ lm_26)
  obtain ⟨c6, i6, h6⟩ := u_known (C := RX6) (T := TX6) (N := 10) (n := 10) hts lmr_wsX60 (hts _ lm_42)
  obtain ⟨c7, i7, h7⟩ := u_known (C := RX7) (T := TX7) (N := 9) (n := 9) hts lmr_wsX70 (hts _ lm_22)
  obtain ⟨c8, i8, h8⟩ := u_known (C := RX8) (T := TX8) (N := 14) (n := 14) hts lmr_wsX80 (hts _ lm_2)
  obtain ⟨c9, i9, h9⟩ := u_known (C := RX9) (T := TX9) (N := 49) (n := 49) hts lmr_wsX90 (hts _ lm_5)
  obtain ⟨d0, e0⟩ := kn_prim (hts _ lm_49) (by intro C h; cases h)
  obtain ⟨d1, e1⟩ := kn_prim (hts _ lm_104) (by intro C h; cases h)
  obtain ⟨d2, e2⟩ := kn_prim (hts _ lm_121) (by intro C h; cases h)
  obtain ⟨d3, e3⟩ := kn_prim (hts _ lm_86) (by intro C h; cases h)
  obtain ⟨d4, e4⟩ := kn_ao (va_AO.of (hts (.arrayOver (.object RX4)) (by decide +kernel)))
  obtain ⟨d5, e5⟩ := kn_aoa (show va_AOA .int s from (hts (.arrayOver (.array .int)) (by decide +kernel)))
  obtain ⟨d6, e6⟩ := kn_aoa (show va_AOA .long s from (hts (.arrayOver (.array .long)) (by decide +kernel)))
  refine ⟨(fun k => if k = 0 then c0 else if k = 1 then c1 else if k = 2 then c2 else if k = 3 then c3 else if k = 4 then c4 else if k = 5 then c5 else if k = 6 then c6 else if k = 7 then c7 else if k = 8 then c8 else c9, fun k => if k = 0 then i0 else if k = 1 then i1 else if k = 2 then i2 else if k = 3 then i3 else if k = 4 then i4 else if k = 5 then i5 else if k = 6 then i6 else if k = 7 then i7 else if k = 8 then i8 else i9), fun k => if k = 0 then d0 else if k = 1 then d1 else if k = 2 then d2 else if k = 3 then d3 else if k = 4 then d4 else if k = 5 then d5 else d6, ?_, ?_⟩
  · intro k q hq
    match k, hq with
    | 0, hq => cases hq; exact h0
    | 1, hq => cases hq; exact h1
    | 2, hq => cases hq; exact h2
    | 3, hq => cases hq; exact h3
    | 4, hq => cases hq; exact h4
    | 5, hq => cases hq; exact h5
    | 6, hq => cases hq; exact h6
    | 7, hq => cases hq; exact h7
    | 8, hq => cases hq; exact h8
    | 9, hq => cases hq; exact h9
    | k + 10, hq => simp [vwCl] at hq
  · intro k q hq
    match k, hq with
    | 0, hq => cases hq; exact e0
    | 1, hq => cases hq; exact e1
    | 2, hq => cases hq; exact e2
    | 3, hq => cases hq; exact e3
    | 4, hq => cases hq; exact e4
    | 5, hq => cases hq; exact e5
    | 6, hq => cases hq; exact e6
    | k + 7, hq => simp [tysX] at hq
set_option maxHeartbeats 4000000 in
set_option maxRecDepth 100000 in
theorem sx_start {s : State} {b : Nat} (hts : ∀ w ∈ lw_tbl, w.before #[Value.ref b] s = true) (hgv : (Jvm.Cond.and given_1 narrow_1).before #[Value.ref b] s = true) : ∃ ts : Nat → Nat, Sx ts (fun q : Nat => s.heap.size ≤ q) s s.heap := by
  have hs := flat_of_before _ hgv
  have hA : ∀ a : Nat, a < s.heap.size → ¬ (fun q : Nat => s.heap.size ≤ q) a := fun a h => Nat.not_le.mpr h
  obtain ⟨t0, h0⟩ := tx_at (n := "LOWEST") (l := tLOW) hs (hts (.laysStatic "CutOffFilter" "LOWEST" "[I") (by decide +kernel)) (hts (.initialized "CutOffFilter") (by decide +kernel)) (by decide +kernel) (by decide +kernel) (by decide +kernel) (by decide +kernel)
  obtain ⟨t1, h1⟩ := tx_at (n := "HIGHEST") (l := tHIGH) hs (hts (.laysStatic "CutOffFilter" "HIGHEST" "[I") (by decide +kernel)) (hts (.initialized "CutOffFilter") (by decide +kernel)) (by decide +kernel) (by decide +kernel) (by decide +kernel) (by decide +kernel)
  obtain ⟨t2, h2⟩ := tx_at (n := "TRIED") (l := tTRIED) hs (hts (.laysStatic "CutOffFilter" "TRIED" "[I") (by decide +kernel)) (hts (.initialized "CutOffFilter") (by decide +kernel)) (by decide +kernel) (by decide +kernel) (by decide +kernel) (by decide +kernel)
  obtain ⟨t3, h3⟩ := tx_at (n := "BODIES") (l := tBOD) hs (hts (.laysStatic "CutOffFilter" "BODIES" "[I") (by decide +kernel)) (hts (.initialized "CutOffFilter") (by decide +kernel)) (by decide +kernel) (by decide +kernel) (by decide +kernel) (by decide +kernel)
  obtain ⟨t4, h4⟩ := tx_at (n := "ROUNDING_ABOVE") (l := tRA) hs (hts (.laysStatic "CutOffFilter" "ROUNDING_ABOVE" "[I") (by decide +kernel)) (hts (.initialized "CutOffFilter") (by decide +kernel)) (by decide +kernel) (by decide +kernel) (by decide +kernel) (by decide +kernel)
  obtain ⟨t5, h5⟩ := tx_at (n := "OVERFLOW_ABOVE") (l := tOA) hs (hts (.laysStatic "CutOffFilter" "OVERFLOW_ABOVE" "[I") (by decide +kernel)) (hts (.initialized "CutOffFilter") (by decide +kernel)) (by decide +kernel) (by decide +kernel) (by decide +kernel) (by decide +kernel)
  obtain ⟨t6, c6, cell6, k6, q1, q2, q3, q4, q5, q6, -⟩ := Cond.exactly_spec (hs (.exactly (Term.string "CutOffFilter$Tape" 66) "java/lang/String") (by decide +kernel))
  obtain ⟨t7, u1, u2⟩ := va_Tof (f := fun j => .int (tb tLET j)) (N := 10) (by decide) (hs (.arrayOf (.field (Term.string "CutOffFilter$Tape" 66) "java/lang/String" "value" "[B") .byte) (by decide +kernel)) (va_eqt (hs (.eq (.length (.field (Term.string "CutOffFilter$Tape" 66) "java/lang/String" "value" "[B")) (.int 10)) (by decide +kernel))) (fun j hj => va_eqt (hs _ ((show ∀ j, j < 10 → Cond.eq (.elem (.field (Term.string "CutOffFilter$Tape" 66) "java/lang/String" "value" "[B") (.int (Int32.ofNat j))) (.int (tb tLET j)) ∈ _ by decide +kernel) j hj))) hA
  have v1 := va_eqt (hs (.eq (.field (Term.string "CutOffFilter$Tape" 66) "java/lang/String" "coder" "B") (.int 0)) (by decide +kernel))
  have v2 := va_eqt (hs (.eq (.static "java/lang/String" "COMPACT_STRINGS" "Z") (.int 1)) (by decide +kernel))
  refine ⟨fun k => if k = 0 then t0 else if k = 1 then t1 else if k = 2 then t2 else if k = 3 then t3 else if k = 4 then t4 else if k = 5 then t5 else if k = 6 then t6 else t7, ⟨⟨h0, h1, h2, h3, h4, h5⟩, va_Zof (hts (.laysStatic "java/lang/String" "COMPACT_STRINGS" "Z") (by decide +kernel)) (hts (.initialized "java/lang/String") (by decide +kernel)) v2 hA, ⟨cell6, q3, q5, by rw [q6]; exact q2, hA _ (Array.getElem?_eq_some_iff.mp q3).1⟩, of_at q1 v1, of_at q1 u1, u2⟩, vk_R.of (hts (.stringRef "CutOffFilter$Tape" 66 "nbcisropyx") (by decide +kernel)) q1, va_Nw.of rfl (hts (.methodLinkNest RX8 362 yX0_answer RX8) (by decide +kernel)), va_Nw.of rfl (hts (.fieldLinkNest RX0 35 "CutOffFilter" "BODIES" "[I" RX8) (by decide +kernel)), va_Nw.of rfl (hts (.fieldLinkNest RX0 38 "CutOffFilter" "ROUNDING_ABOVE" "[I" RX8) (by decide +kernel))⟩
