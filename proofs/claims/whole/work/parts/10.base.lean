/-! My own words: a contract over a fixed list of cells (Ct), how a method is entered, left and called, the tables that nobody writes (Sx). -/
abbrev tysX (cA : Nat → ClassId) : List (ClassId × FieldType) := [(cA 0, .int), (cA 1, .long), (cA 2, .byte), (cA 3, .boolean), (cA 4, .object RX4), (cA 5, .array .int), (cA 6, .array .long)]
/-- cells put at their places -/
def rp : va_W → List Nat → va_W → va_W
  | ws, i :: is, e :: es => rp (ws.set i e) is es
  | ws, _, _ => ws
theorem rp_get : ∀ (is : List Nat) (es ws : va_W), va_nd is = true → is.length = es.length → ∀ (k : Nat) (q : Nat × va_E), (rp ws is es)[k]? = some q → (∃ j : Nat, is[j]? = some k ∧ es[j]? = some q) ∨ (k ∉ is ∧ ws[k]? = some q)
  | [], es, ws, _, hl, k, q, h => by
    cases es with
    | nil => exact Or.inr ⟨List.not_mem_nil, h⟩
    | cons e es => simp at hl
  | i :: is, [], ws, _, hl, k, q, h => by simp at hl
  | i :: is, e :: es, ws, hn, hl, k, q, h => by
    simp only [va_nd, Bool.and_eq_true, decide_eq_true_eq] at hn
    have hl' : is.length = es.length := by simpa using hl
    rcases rp_get is es (ws.set i e) hn.2 hl' k q h with ⟨j, h1, h2⟩ | ⟨h1, h2⟩
    · exact Or.inl ⟨j + 1, by rw [List.getElem?_cons_succ]; exact h1, by rw [List.getElem?_cons_succ]; exact h2⟩
    · by_cases hk : i = k
      · subst hk
        have hlt : i < (ws.set i e).length := (List.getElem?_eq_some_iff.mp h2).1
        rw [List.length_set] at hlt
        rw [List.getElem?_set_self hlt] at h2
        exact Or.inl ⟨0, rfl, h2⟩
      · rw [List.getElem?_set_ne hk] at h2
        exact Or.inr ⟨fun z => by
          rcases List.mem_cons.mp z with z | z
          · exact hk z.symm
          · exact h1 z, h2⟩
theorem map_at {is : List Nat} {ws wc : va_W} (hC : is.map (fun i => ws[i]?) = wc.map some) (j : Nat) (q : Nat × va_E) (h : wc[j]? = some q) : ∃ i, is[j]? = some i ∧ ws[i]? = some q := by
  have h1 : (is.map (fun i => ws[i]?))[j]? = some (some q) := by rw [hC, List.getElem?_map, h]; rfl
  rw [List.getElem?_map] at h1
  cases hi : is[j]? with
  | none => rw [hi] at h1; cases h1
  | some i => rw [hi] at h1; exact ⟨i, rfl, Option.some.inj h1⟩
theorem fst_at {w1 wc : va_W} (ha : w1.map Prod.fst = wc.map Prod.fst) (j : Nat) (q : Nat × va_E) (h : w1[j]? = some q) : ∃ q0, wc[j]? = some q0 ∧ q0.1 = q.1 := by
  have h1 : (w1.map Prod.fst)[j]? = some q.1 := by rw [List.getElem?_map, h]; rfl
  rw [ha, List.getElem?_map] at h1
  cases hi : wc[j]? with
  | none => rw [hi] at h1; cases h1
  | some q0 => rw [hi] at h1; exact ⟨q0, rfl, Option.some.inj h1⟩
theorem len_at {is : List Nat} {ws wc w1 : va_W} (hC : is.map (fun i => ws[i]?) = wc.map some) (ha : w1.map Prod.fst = wc.map Prod.fst) : is.length = w1.length := by
  have h1 := congrArg List.length hC
  have h2 := congrArg List.length ha
  simp only [List.length_map] at h1 h2
  omega
theorem rp_P {G : va_G} {cl : List vw_C} {A : Nat → Prop} {ws wc w1 : va_W} {is : List Nat} {H H1 : Heap} (hP : va_P G cl ws H) (hD : va_D A ws) (hn : va_nd is = true) (hC : is.map (fun i => ws[i]?) = wc.map some) (ha : w1.map Prod.fst = wc.map Prod.fst)
    (hk : ∀ q : Nat, q < H.size → ¬ va_A wc H.size q → H1[q]? = H[q]?) (hP1 : va_P G cl w1 H1) : va_P G cl (rp ws is w1) H1 := by
  intro k q hq
  rcases rp_get is w1 ws hn (len_at hC ha) k q hq with ⟨j, h1, h2⟩ | ⟨h1, h2⟩
  · exact hP1 j q h2
  · have hl := (hP k q h2).lt
    refine (hP k q h2).kept (hk q.1 hl fun z => ?_)
    rcases z with ⟨j, e, z⟩ | z
    · obtain ⟨i, g1, g2⟩ := map_at hC j (q.1, e) z
      have := hD.1 i k (q.1, e) q g2 h2 rfl
      subst this
      exact h1 (List.mem_of_getElem? g1)
    · omega
theorem rp_D {A : Nat → Prop} {ws wc w1 : va_W} {is : List Nat} (hD : va_D A ws) (hn : va_nd is = true) (hC : is.map (fun i => ws[i]?) = wc.map some) (ha : w1.map Prod.fst = wc.map Prod.fst) : va_D A (rp ws is w1) := by
  have key : ∀ (k : Nat) (q : Nat × va_E), (rp ws is w1)[k]? = some q → ∃ q0, ws[k]? = some q0 ∧ q0.1 = q.1 := by
    intro k q hq
    rcases rp_get is w1 ws hn (len_at hC ha) k q hq with ⟨j, h1, h2⟩ | ⟨h1, h2⟩
    · obtain ⟨q0, g1, g2⟩ := fst_at ha j q h2
      obtain ⟨i, g3, g4⟩ := map_at hC j q0 g1
      rw [h1] at g3
      cases g3
      exact ⟨q0, g4, g2⟩
    · exact ⟨q, h2, rfl⟩
  refine ⟨fun i j x y hi hj hxy => ?_, fun k q hk => ?_⟩
  · obtain ⟨x0, h1, h2⟩ := key i x hi
    obtain ⟨y0, h3, h4⟩ := key j y hj
    exact hD.1 i j x0 y0 h1 h3 (h2.trans (hxy.trans h4.symm))
  · obtain ⟨q0, h1, h2⟩ := key k q hk
    rw [← h2]
    exact hD.2 k q0 h1
theorem sub_D {A : Nat → Prop} {ws wc : va_W} {is : List Nat} (hD : va_D A ws) (hn : va_nd is = true) (hC : is.map (fun i => ws[i]?) = wc.map some) : va_D A wc := by
  refine ⟨fun i j x y hi hj hxy => ?_, fun k q hk => ?_⟩
  · obtain ⟨a, g1, g2⟩ := map_at hC i x hi
    obtain ⟨b, g3, g4⟩ := map_at hC j y hj
    have := hD.1 a b x y g2 g4 hxy
    subst this
    exact va_nd_inj is hn i j a g1 g3
  · obtain ⟨a, g1, g2⟩ := map_at hC k q hk
    exact hD.2 a q g2
theorem sub_P {G : va_G} {cl : List vw_C} {ws wc : va_W} {is : List Nat} {H : Heap} (hP : va_P G cl ws H) (hC : is.map (fun i => ws[i]?) = wc.map some) : va_P G cl wc H := by
  intro k q hk
  obtain ⟨a, g1, g2⟩ := map_at hC k q hk
  exact hP a q g2
/-! the tables -/
def tb (l : List Int32) : Nat → Int32 := fun j => l.getD j 0
def tLOW : List Int32 := [1, 2, -99, -99, -99, -99, 0, 0, 0, 0]
def tHIGH : List Int32 := [3, 5, 99, 99, 99, 99, 6, 4, 4, 1]
def tTRIED : List Int32 := [7, 8, 6, 9, 2, 2]
def tBOD : List Int32 := [10, 11, 12, 0, 20, 0, 30, 0, 0, 41, 0, 40, 0, 50, 0]
def tRA : List Int32 := [-1, 0, 0, 2, 1]
def tOA : List Int32 := [-1, 0, 0, 1, 0]
def tLET : List Int32 := [110, 98, 99, 105, 115, 114, 111, 112, 121, 120]
def Tx (n : String) (t : Nat) (l : List Int32) (A : Nat → Prop) (U : State) (H : Heap) : Prop := va_Z "CutOffFilter" n "[I" (.ref t) A U H ∧ va_T .int t l.length (fun j => .int (tb l j)) A U H
theorem Tx.moved {n : String} {t : Nat} {l : List Int32} {A : Nat → Prop} {u U : State} {H : Heap} (hv : u.vm.Alike U.vm) (h : Tx n t l A u H) : Tx n t l A U H := ⟨va_Z.moved hv h.1, va_T.moved hv h.2⟩
theorem Tx.kept {n : String} {t : Nat} {l : List Int32} {A : Nat → Prop} {U : State} {H H1 : Heap} (h : Tx n t l A U H) (hq : ∀ a : Nat, a < H.size → ¬ A a → H1[a]? = H[a]?) : Tx n t l A U H1 := ⟨h.1.kept hq, h.2.kept hq⟩
theorem Tx.narrow {n : String} {t : Nat} {l : List Int32} {A B : Nat → Prop} {U : State} {H : Heap} (h : Tx n t l A U H) (hAB : ∀ q, B q → A q) : Tx n t l B U H := ⟨h.1.narrow hAB, h.2.narrow hAB⟩
def SxH (ts : Nat → Nat) (A : Nat → Prop) (U : State) (H : Heap) : Prop :=
  (Tx "LOWEST" (ts 0) tLOW A U H ∧ Tx "HIGHEST" (ts 1) tHIGH A U H ∧ Tx "TRIED" (ts 2) tTRIED A U H ∧ Tx "BODIES" (ts 3) tBOD A U H ∧ Tx "ROUNDING_ABOVE" (ts 4) tRA A U H ∧ Tx "OVERFLOW_ABOVE" (ts 5) tOA A U H) ∧
  va_Z "java/lang/String" "COMPACT_STRINGS" "Z" (.int 1) A U H ∧ va_O "java/lang/String" (ts 6) A U H ∧ va_OF "java/lang/String" "coder" "B" (.int 0) (ts 6) A U H ∧ va_OF "java/lang/String" "value" "[B" (.ref (ts 7)) (ts 6) A U H ∧ va_T .byte (ts 7) 10 (fun j => .int (tb tLET j)) A U H
def SxN (ts : Nat → Nat) (U : State) : Prop := vk_R "CutOffFilter$Tape" 66 "nbcisropyx" (ts 6) U ∧ va_Nw (.methodLinkNest RX8 362 yX0_answer RX8) U ∧ va_Nw (.fieldLinkNest RX0 35 "CutOffFilter" "BODIES" "[I" RX8) U ∧ va_Nw (.fieldLinkNest RX0 38 "CutOffFilter" "ROUNDING_ABOVE" "[I" RX8) U
def Sx (ts : Nat → Nat) (A : Nat → Prop) (U : State) (H : Heap) : Prop := SxH ts A U H ∧ SxN ts U
theorem SxH.moved {ts : Nat → Nat} {A : Nat → Prop} {u U : State} {H : Heap} (hv : u.vm.Alike U.vm) (h : SxH ts A u H) : SxH ts A U H := by
  obtain ⟨⟨h1, h2, h3, h4, h5, h6⟩, h7, h8, h9, h10, h11⟩ := h
  exact ⟨⟨h1.moved hv, h2.moved hv, h3.moved hv, h4.moved hv, h5.moved hv, h6.moved hv⟩, va_Z.moved hv h7, va_O.moved hv h8, va_OF.moved hv h9, va_OF.moved hv h10, va_T.moved hv h11⟩
theorem SxH.kept {ts : Nat → Nat} {A : Nat → Prop} {U : State} {H H1 : Heap} (h : SxH ts A U H) (hq : ∀ a : Nat, a < H.size → ¬ A a → H1[a]? = H[a]?) : SxH ts A U H1 := by
  obtain ⟨⟨h1, h2, h3, h4, h5, h6⟩, h7, h8, h9, h10, h11⟩ := h
  exact ⟨⟨h1.kept hq, h2.kept hq, h3.kept hq, h4.kept hq, h5.kept hq, h6.kept hq⟩, h7.kept hq, h8.kept hq, h9.kept hq, h10.kept hq, h11.kept hq⟩
theorem SxH.narrow {ts : Nat → Nat} {A B : Nat → Prop} {U : State} {H : Heap} (h : SxH ts A U H) (hAB : ∀ q, B q → A q) : SxH ts B U H := by
  obtain ⟨⟨h1, h2, h3, h4, h5, h6⟩, h7, h8, h9, h10, h11⟩ := h
  exact ⟨⟨h1.narrow hAB, h2.narrow hAB, h3.narrow hAB, h4.narrow hAB, h5.narrow hAB, h6.narrow hAB⟩, h7.narrow hAB, h8.narrow hAB, h9.narrow hAB, h10.narrow hAB, h11.narrow hAB⟩
theorem SxN.same {ts : Nat → Nat} {u U : State} (hv : U.vm = u.vm) (h : SxN ts u) : SxN ts U := by
  obtain ⟨h1, h2, h3, h4⟩ := h
  exact ⟨vk_R.same hv h1, va_Nw.same rfl hv.symm h2, va_Nw.same rfl hv.symm h3, va_Nw.same rfl hv.symm h4⟩
theorem SxN.warm {ts : Nat → Nat} {s U : State} (hW : s.WarmedH U.vm) (h : SxN ts s) : SxN ts U := by
  obtain ⟨h1, h2, h3, h4⟩ := h
  exact ⟨vk_R.warm hW h1, va_Nw.warmM hW h2, va_Nw.warmF hW h3, va_Nw.warmF hW h4⟩
/-! contracts -/
def cPc (G : va_G) (cA : Nat → ClassId) (ts : Nat → Nat) (AV : List Value) (W0 : va_W) (sz : Nat) : Array Value → State → Prop :=
  va_Pc AV (fun U => U.heap.size = sz ∧ va_P G vwCl W0 U.heap ∧ va_K G vwCl (tysX cA) U ∧ va_D (fun _ => True) W0 ∧ Sx ts (va_A W0 sz) U U.heap)
def cQc (G : va_G) (rv : Option Value) (W1 : va_W) (A : Nat → Prop) : Array Value → State → Outcome → State → Prop :=
  fun _ st oc t => oc = .returned rv ∧ va_P G vwCl W1 t.heap ∧ va_F A st t
def Ct (l : Launch) (G : va_G) (cA : Nat → ClassId) (ts : Nat → Nat) (y : MethodName) (ws : List Cond) (fr lo : Nat) (AV : List Value) (W0 W1 : va_W) (rv : Option Value) : Prop :=
  ∀ sz : Nat, Met l y ws { frames := fr, cells := 0, slots := 0, locals := lo } (cPc G cA ts AV W0 sz) (cQc G rv W1 (va_A W0 sz)) 0 0 (va_A W0 sz)
theorem Ct.intro {l : Launch} {G : va_G} {cA : Nat → ClassId} {ts : Nat → Nat} {y : MethodName} {ws ws' : List Cond} {fr lo : Nat} {AV : List Value} {W0 W1 : va_W} {rv : Option Value} {cc : ByteArray} {maxL : Nat} {ret : Option FieldType}
    (hy : plainName y.cls = true) (hw : ws = Cond.code y cc maxL ret :: ws') (hlen : (lg_sl AV).length ≤ maxL)
    (body : ∀ (p : Program) (e : Env) (s : State) (m : MethodId) (below : List Frame) (meth : Method) (c : Code) (A : Nat → Prop) (Q : State → Prop), p.tables.exec = Jvm.exec → c.code = cc → meth.sig.returnType = ret → c.maxLocals = maxL → s.vm.findClass y.cls = some m.cls → meth.locks = false → (∀ w ∈ ws, w.before AV.toArray s = true) →
      va_K G vwCl (tysX cA) s → Sx ts A s s.heap → (∀ q, s.heap.size ≤ q → A q) → Q = MQ below (cQc G rv W1 A) AV.toArray s 0 0 A → va_P G vwCl W0 s.heap → va_D A W0 → va_S A s.heap s.heap [] → ∀ ls : Array Slot, lv_has ls maxL (lv_args 0 AV) →
      W p l e { frames := fr, cells := 0, slots := 0, locals := lo } s m AV.toArray below meth c s.heap [] 0 0 Q (F0 m 0 ls [])) : Ct l G cA ts y ws fr lo AV W0 W1 rv := by
  intro sz
  refine Met.ofW (cc := cc) (maxL := maxL) (ret := ret) hy hw ?_
  intro p e s m args below meth c s₁ B hml hv
  obtain ⟨rfl, hsz, hP, hK, hD0, hZ⟩ := hv
  subst hsz
  have hl := lv_entry AV (n := maxL) hlen
  rw [lg_entry_eq]
  exact body p e s m below meth c (va_A W0 s.heap.size) _ B.exec B.bytes B.returns hml (findClass_of_methodNamed B.named) B.notSynchronized (atoms_spec (ws := ws) B.pre) hK hZ (fun q h => Or.inr h) rfl hP hD0.self va_S.rf _ hl
section RET
variable {p : Program} {l : Launch} {e : Env} {R : Room} {s : State} {m : MethodId} {args : Array Value} {below : List Frame} {meth : Method} {c : Code} {H : Heap} {locs : List Loc} {Q : State → Prop} {G : va_G} {W1 : va_W} {A : Nat → Prop} {cc : ByteArray} {pc : Nat} {ls : Array Slot}
theorem cr_i {v : Int32} (hx : p.tables.exec = Jvm.exec) (hb : c.code = cc) (hr : meth.sig.returnType = some .int) (hlocks : meth.locks = false) (hQ : Q = MQ below (cQc G (some (.int v)) W1 A) args s 0 0 A) (hdg : decode cc pc = .ok (.ireturn, 1)) (hP : va_P G vwCl W1 H) (hS : va_S A s.heap H locs) : W p l e R s m args below meth c H locs 0 0 Q (F0 m pc ls [.int v]) := by
  subst hQ
  exact W.iret hx hb hr (fun t ht hW => ⟨rfl, by rw [ht]; exact hP, hS.F ht⟩) hS.2.2 hdg hlocks
theorem cr_z {v : Int32} {ty : FieldType} (hn : narrow ty (.int v) = .int v) (hx : p.tables.exec = Jvm.exec) (hb : c.code = cc) (hr : meth.sig.returnType = some ty) (hlocks : meth.locks = false) (hQ : Q = MQ below (cQc G (some (.int v)) W1 A) args s 0 0 A) (hdg : decode cc pc = .ok (.ireturn, 1)) (hP : va_P G vwCl W1 H) (hS : va_S A s.heap H locs) : W p l e R s m args below meth c H locs 0 0 Q (F0 m pc ls [.int v]) := by
  subst hQ
  exact W.zret hx hb hr hn (fun t ht hW => ⟨rfl, by rw [ht]; exact hP, hS.F ht⟩) hS.2.2 hdg hlocks
theorem cr_l {v : Int64} (hx : p.tables.exec = Jvm.exec) (hb : c.code = cc) (hr : meth.sig.returnType = some .long) (hlocks : meth.locks = false) (hQ : Q = MQ below (cQc G (some (.long v)) W1 A) args s 0 0 A) (hdg : decode cc pc = .ok (.lreturn, 1)) (hP : va_P G vwCl W1 H) (hS : va_S A s.heap H locs) : W p l e R s m args below meth c H locs 0 0 Q (F0 m pc ls [.long v]) := by
  subst hQ
  exact W.lret hx hb hr (fun t ht hW => ⟨rfl, by rw [ht]; exact hP, hS.F ht⟩) hS.2.2 hdg hlocks
theorem cr_v (hx : p.tables.exec = Jvm.exec) (hb : c.code = cc) (hr : meth.sig.returnType = none) (hlocks : meth.locks = false) (hQ : Q = MQ below (cQc G none W1 A) args s 0 0 A) (hdg : decode cc pc = .ok (.return_, 1)) (hP : va_P G vwCl W1 H) (hS : va_S A s.heap H locs) : W p l e R s m args below meth c H locs 0 0 Q (F0 m pc ls []) := by
  subst hQ
  exact W.vret hx hb hr (fun t ht hW => ⟨rfl, by rw [ht]; exact hP, hS.F ht⟩) hS.2.2 hdg hlocks
/-! calls -/
variable {cells slots : Nat} {cA : Nat → ClassId} {ts : Nat → Nat} {ws wc w1 : va_W} {is : List Nat} {H0 : Heap}
theorem pre_S {As : List Value} (hP : va_P G vwCl ws H) (hD : va_D A ws) (hS : va_S A s.heap H locs) (hA : ∀ q, s.heap.size ≤ q → A q) (hK : va_K G vwCl (tysX cA) s) (hZ : Sx ts A s s.heap) (hn : va_nd is = true) (hC : is.map (fun i => ws[i]?) = wc.map some) : PreS s H (cPc G cA ts As wc H.size) As := by
  refine ⟨fun a U g mk q => ?_, fun U hU hW => ⟨rfl, by rw [hU], by rw [hU]; exact sub_P hP hC, va_K.moved hW.alike hK, (sub_D hD hn hC).weaken (fun _ _ _ _ => trivial), ?_, SxN.warm hW hZ.2⟩⟩
  · obtain ⟨q0, q1, q2, q3, q4, q5, q6⟩ := q
    exact ⟨q0, q1, q2, va_K.moved (u := U) (U := U.calling g mk a) (Vm.Alike.refl U.vm) q3, q4, SxH.moved (u := U) (U := U.calling g mk a) (Vm.Alike.refl U.vm) q5, SxN.same (u := U) (U := U.calling g mk a) rfl q6⟩
  · refine (SxH.moved hW.alike ((hZ.1.kept ?_).narrow ?_))
    · rw [hU]; exact hS.2.1
    · intro q h
      rcases h with ⟨k, e, h⟩ | h
      · obtain ⟨i, g1, g2⟩ := map_at hC k (q, e) h
        exact hD.2 i (q, e) g2
      · exact hA q (Nat.le_trans hS.1 h)
theorem pre_V {As : List Value} {b : Nat} {C : String} {T : u_T} {N ci q0 : Nat} {fs : List Value} (hc : vwCl[ci]? = some (C, T, N)) (he : ws[q0]? = some (b, .inr (ci, fs))) (hP : va_P G vwCl ws H) (hD : va_D A ws) (hS : va_S A s.heap H locs) (hA : ∀ q, s.heap.size ≤ q → A q) (hK : va_K G vwCl (tysX cA) s) (hZ : Sx ts A s s.heap) (hn : va_nd is = true) (hC : is.map (fun i => ws[i]?) = wc.map some) : PreV s H C b (cPc G cA ts (.ref b :: As) wc H.size) As :=
  have h := pre_S (As := .ref b :: As) hP hD hS hA hK hZ hn hC
  ⟨h.1, va_recv hK hP hc he, h.2⟩
theorem cG {rv : Option Value} {a : Array Value} {g : JFrame} {rest st0 : List Value} (hr : va_Run p l e R s m args below meth c H locs cells slots 0 0 (F0 m pc ls st0) rest (cQc G rv w1 (va_A wc H.size) a) (va_A wc H.size)) (hP : va_P G vwCl ws H) (hD : va_D A ws) (hS : va_S A s.heap H locs) (hA : ∀ q, s.heap.size ≤ q → A q) (hn : va_nd is = true) (hC : is.map (fun i => ws[i]?) = wc.map some) (ha : w1.map Prod.fst = wc.map Prod.fst)
    (kk : ∀ (H1 : Heap) (locs1 : List Loc), va_P G vwCl (rp ws is w1) H1 → va_D A (rp ws is w1) → va_S A s.heap H1 locs1 → W p l e R s m args below meth c H1 locs1 cells slots Q (F0 m (pc + 3) ls (rv.toList ++ rest))) : W p l e R s m args below meth c H locs cells slots Q (F0 m pc ls st0) := by
  intro T hT X
  obtain ⟨v, st₀, t, T', L, h0, X', hL, e1, e2, ⟨hv, hp, hz, hk⟩, st⟩ := hr T hT X
  cases hv
  rw [h0] at hz hk
  have hsub : ∀ q, va_A wc H.size q → A q := by
    intro q h
    rcases h with ⟨k, e, h⟩ | h
    · obtain ⟨i, g1, g2⟩ := map_at hC k (q, e) h
      exact hD.2 i (q, e) g2
    · exact hA q (Nat.le_trans hS.1 h)
  obtain ⟨t2, a1, b1⟩ := kk T'.heap (locs ++ L) (rp_P hP hD hn hC ha (fun q h1 h2 => by rw [e1]; exact hk q h1 h2) (by rw [e1]; exact hp)) (rp_D hD hn hC ha)
    ⟨Nat.le_trans hS.1 (by rw [e1]; exact hz), fun q h1 h2 => by rw [e1, hk q (Nat.lt_of_lt_of_le h1 hS.1) (fun z => h2 (hsub q z))]; exact hS.2.1 q h1 h2, fun q hq => by
      rcases List.mem_append.mp hq with h | h
      · exact hS.2.2 q h
      · exact hsub _ (hL q h)⟩ T' rfl X'
  exact ⟨t2, st t2 a1, b1⟩
/-- an array of arrays read -/
theorem x_aalda {D : va_G} {cl : List vw_C} {tys : List (ClassId × FieldType)} {a : Nat} {rest : List Value} (hexec : p.tables.exec = Jvm.exec) (hb : c.code = cc) (hK : va_K D cl tys s) (hP : va_P D cl ws H) (q0 t0 : Nat) {cA : ClassId} {ty : FieldType} {n : Nat} {f : Nat → Option Nat} (ha : ws[q0]? = some (a, .inl (cA, n, .inr (.inr (.inr (.inr f)))))) (ht : tys[t0]? = some (cA, .array ty)) {i : Int32} (hin : vp_in i n) (hdg : decode cc pc = .ok (.aaload, 1))
    (kk : W p l e R s m args below meth c H locs cells slots Q (F0 m (pc + 1) ls (va_rf (f i.toNatClampNeg) :: rest))) : W p l e R s m args below meth c H locs cells slots Q (F0 m pc ls (.int i :: .ref a :: rest)) := by
  have hlt : i.toNatClampNeg < n := Nat.not_le.mp fun q => hin (Or.inr q)
  exact W.aald (v := va_rf (f i.toNatClampNeg)) (ty := .array ty) hexec hb (hP q0 _ ha) ((hK.2 t0 _ ht).1 n (fun j => va_rf (f j))) rfl (fun q => by cases q) (by show ¬ (i < 0 ∨ (arrV _ _ _).slots.size ≤ _); rw [arrV_size]; exact hin) (by show (arrV _ _ _).slots[_]? = _; rw [arrV_read _ _ hlt]) rfl rfl hdg kk
end RET
/-! what a partial function's value tells -/
theorem g_pos {α : Sort _} {c : Prop} {i : Decidable c} {a b o : α} (h : @ite α c i a b = o) (hc : c) : a = o := by rw [if_pos hc] at h; exact h
theorem g_neg {α : Sort _} {c : Prop} {i : Decidable c} {a b o : α} (h : @ite α c i a b = o) (hc : ¬ c) : b = o := by rw [if_neg hc] at h; exact h
/-- a test that must not hold -/
theorem g_no {α : Type} {c : Prop} {i : Decidable c} {b : Option α} {o : α} (h : @ite (Option α) c i none b = some o) : ¬ c ∧ b = some o := by
  by_cases hc : c
  · rw [if_pos hc] at h; cases h
  · rw [if_neg hc] at h; exact ⟨hc, h⟩
theorem nar_z {v : Int32} (h : ¬ ¬ (v = 0 ∨ v = 1)) : narrow .boolean (.int v) = .int v := by
  rcases Decidable.not_not.mp h with h | h <;> subst h <;> decide +kernel
theorem fit_z {v : Int32} (h : ¬ ¬ (v = 0 ∨ v = 1)) : fits .boolean (.int v) = true := by
  rcases Decidable.not_not.mp h with h | h <;> subst h <;> decide +kernel
