/-! the constructors' contracts -/
theorem va_AOA.spec {t : FieldType} {U : State} (h : va_AOA t U) : ∃ comp c k, U.vm.findClass (FieldType.array t).toString = some comp ∧ (U.vm.classes.findIdx? fun (x : Class) => match x.kind with | .array component _ => component == comp | _ => false) = some c ∧ U.vm.classes[c]? = some k ∧ k.kind = .array comp (.array t) ∧ U.vm.findClass ("[" ++ (FieldType.array t).toString) = some c := by
  unfold va_AOA Cond.before at h
  simp only [Cond.holds, Cond.value, beq_iff_eq] at h
  cases hc : U.vm.findClass (FieldType.array t).toString with
  | none => simp [hc] at h
  | some comp =>
    simp only [hc, Option.bind_some, Option.bind_eq_some_iff, Option.map_eq_some_iff] at h
    obtain ⟨c, hi, k, hk, hb⟩ := h
    obtain ⟨hlt, hp, -⟩ := Array.findIdx?_eq_some_iff_getElem.mp hi
    have hkk : U.vm.classes[c] = k := (Array.getElem?_eq_some_iff.mp hk).2
    rw [hkk] at hp
    cases hkind : k.kind with
    | array component ty =>
      rw [hkind] at hb hp
      simp at hb hp
      exact ⟨comp, c, k, rfl, hi, hk, by rw [hkind, hp, hb.1], hb.2⟩
    | _ => rw [hkind] at hb; simp at hb
theorem va_AOA.moved {t : FieldType} {u U : State} (hvm : u.vm.Alike U.vm) (h : va_AOA t u) : va_AOA t U := by
  obtain ⟨comp, c, k, h1, h2, h3, h4, h5⟩ := h.spec
  obtain ⟨k', hk', he⟩ := hvm.2.2 _ _ h3
  have hi : (U.vm.classes.findIdx? fun (x : Class) => match x.kind with | .array component _ => component == comp | _ => false) = some c := by
    have e1 := va_idx_bare U.vm comp
    have e2 := va_idx_bare u.vm comp
    first | rw [hvm.bare_eq] at e1 | rw [← hvm.bare_eq] at e1
    exact (e1.symm.trans e2).trans h2
  have hkind : k'.kind = .array comp (.array t) := by rw [he]; exact h4
  have f1 : U.vm.findClass (FieldType.array t).toString = some comp := by rw [hvm.findClass]; exact h1
  have f2 : U.vm.findClass ("[" ++ (FieldType.array t).toString) = some c := by rw [hvm.findClass]; exact h5
  unfold va_AOA Cond.before Cond.holds
  simp only [Cond.value]
  rw [f1, Option.bind_some]
  refine (congrArg (fun o : Option Nat => (o.bind (fun c => (U.vm.classes[c]?).map fun (k : Class) => match k.kind with | .array _ ty => decide (ty = FieldType.array t) && decide (U.vm.findClass ("[" ++ (FieldType.array t).toString) = some c) | _ => false) == some true)) hi).trans ?_
  simp [hk', hkind, f2]
def xAO (U : State) : Prop := va_AO RX4 U ∧ va_AOA .int U ∧ va_AOA .long U
theorem xAO.moved {u U : State} (hvm : u.vm.Alike U.vm) (h : xAO u) : xAO U := ⟨h.1.moved hvm, h.2.1.moved hvm, h.2.2.moved hvm⟩
def cPi (G : va_G) (cA : Nat → ClassId) (AV : List Value) (W0 : va_W) (sz : Nat) : Array Value → State → Prop :=
  va_Pc AV (fun U => U.heap.size = sz ∧ va_P G vwCl W0 U.heap ∧ va_K G vwCl (tysX cA) U ∧ va_D (fun _ => True) W0 ∧ xAO U)
def cQi (G : va_G) (B : va_W → Prop) (A : Nat → Prop) : Array Value → State → Outcome → State → Prop :=
  fun _ st oc t => oc = .returned none ∧ (∃ W1, B W1 ∧ va_P G vwCl W1 t.heap ∧ va_D A W1) ∧ va_F A st t
abbrev rmI (fr lo mc ms : Nat) : Room := { frames := fr, cells := mc, slots := ms, locals := lo }
def CtI (l : Launch) (G : va_G) (cA : Nat → ClassId) (y : MethodName) (ws : List Cond) (fr lo mc ms : Nat) (h0 : Nat) (W0 : va_W) (B : va_W → Prop) : Prop :=
  ∀ sz : Nat, Met l y ws (rmI fr lo mc ms) (cPi G cA [.ref h0] W0 sz) (cQi G B (va_A W0 sz)) mc ms (va_A W0 sz)
theorem CtI.intro {l : Launch} {G : va_G} {cA : Nat → ClassId} {y : MethodName} {ws ws' : List Cond} {fr lo mc ms h0 : Nat} {W0 : va_W} {B : va_W → Prop} {cc : ByteArray} {maxL : Nat} {ret : Option FieldType}
    (hy : plainName y.cls = true) (hw : ws = Cond.code y cc maxL ret :: ws') (hlen : (lg_sl [.ref h0]).length ≤ maxL)
    (body : ∀ (p : Program) (e : Env) (s : State) (m : MethodId) (ar : Array Value) (below : List Frame) (meth : Method) (c : Code) (A : Nat → Prop) (Q : State → Prop), p.tables.exec = Jvm.exec → c.code = cc → meth.sig.returnType = ret → c.maxLocals = maxL → s.vm.findClass y.cls = some m.cls → meth.locks = false → (∀ w ∈ ws, w.before ar s = true) → meth.name = y.name →
      xAO s → va_K G vwCl (tysX cA) s → (∀ q, s.heap.size ≤ q → A q) → Q = MQ below (cQi G B A) ar s mc ms A → va_P G vwCl W0 s.heap → va_D A W0 → va_S A s.heap s.heap [] → ∀ ls : Array Slot, lv_has ls maxL [(0, .ref h0)] →
      W p l e (rmI fr lo mc ms) s m ar below meth c s.heap [] 0 0 Q (F0 m 0 ls [])) : CtI l G cA y ws fr lo mc ms h0 W0 B := by
  intro sz
  refine Met.ofW (cc := cc) (maxL := maxL) (ret := ret) hy hw ?_
  intro p e s m args below meth c s₁ B9 hml hv
  obtain ⟨rfl, hsz, hP, hK, hD0, hZ⟩ := hv
  subst hsz
  have hl := lv_entry [.ref h0] (n := maxL) hlen
  rw [lg_entry_eq]
  exact body p e s m _ below meth c (va_A W0 s.heap.size) _ B9.exec B9.bytes B9.returns hml (findClass_of_methodNamed B9.named) B9.notSynchronized (atoms_spec (ws := ws) B9.pre) (name_of_methodNamed B9.named B9.method).1 hZ hK (fun q h => Or.inr h) rfl hP hD0.self va_S.rf _ hl
section INI
variable {p : Program} {l : Launch} {e : Env} {R : Room} {s : State} {m : MethodId} {args : Array Value} {below : List Frame} {meth : Method} {c : Code} {H : Heap} {locs : List Loc} {Q : State → Prop} {G : va_G} {W1 : va_W} {A : Nat → Prop} {cc : ByteArray} {pc : Nat} {ls : Array Slot}
theorem cI_v {mc ms : Nat} {B : va_W → Prop} (hx : p.tables.exec = Jvm.exec) (hb : c.code = cc) (hr : meth.sig.returnType = none) (hlocks : meth.locks = false) (hQ : Q = MQ below (cQi G B A) args s mc ms A) (hdg : decode cc pc = .ok (.return_, 1)) (hB : B W1) (hP : va_P G vwCl W1 H) (hD : va_D A W1) (hS : va_S A s.heap H locs) : W p l e R s m args below meth c H locs mc ms Q (F0 m pc ls []) := by
  subst hQ
  exact W.vret hx hb hr (fun t ht hW => ⟨rfl, ⟨W1, hB, by rw [ht]; exact hP, hD⟩, hS.F ht⟩) hS.2.2 hdg hlocks
variable {cells slots mc ms : Nat} {cA : Nat → ClassId} {ws wc wr : va_W} {is : List Nat} {H0 : Heap}
theorem pre_I {As : List Value} (hP : va_P G vwCl ws H) (hD : va_D A ws) (hK : va_K G vwCl (tysX cA) s) (hO : xAO s) (hn : va_nd is = true) (hC : is.map (fun i => ws[i]?) = wc.map some) : PreS s H (cPi G cA As wc H.size) As := by
  refine ⟨fun a U g mk q => ?_, fun U hU hW => ⟨rfl, by rw [hU], by rw [hU]; exact sub_P hP hC, va_K.moved hW.alike hK, (sub_D hD hn hC).weaken (fun _ _ _ _ => trivial), hO.moved hW.alike⟩⟩
  obtain ⟨q0, q1, q2, q3, q4, q5⟩ := q
  exact ⟨q0, q1, q2, va_K.moved (u := U) (U := U.calling g mk a) (Vm.Alike.refl U.vm) q3, q4, xAO.moved (u := U) (U := U.calling g mk a) (Vm.Alike.refl U.vm) q5⟩
theorem cGI {B : va_W → Prop} {isC isR : List Nat} {a : Array Value} {rest st0 : List Value} (hr : va_Run p l e R s m args below meth c H locs cells slots mc ms (F0 m pc ls st0) rest (cQi G B (va_A wc H.size) a) (va_A wc H.size)) (hP : va_P G vwCl ws H) (hD : va_D A ws) (hS : va_S A s.heap H locs) (hA : ∀ q, s.heap.size ≤ q → A q) (hC : isC.map (fun i => ws[i]?) = wc.map some) (hR : isR.map (fun i => ws[i]?) = wr.map some) (hn : va_nd isR = true) (hdis : ∀ i ∈ isR, i ∉ isC)
    (kk : ∀ (W1 : va_W) (H1 : Heap) (locs1 : List Loc), B W1 → va_P G vwCl (wr ++ W1) H1 → va_D A (wr ++ W1) → va_S A s.heap H1 locs1 → W p l e R s m args below meth c H1 locs1 (cells + mc) (slots + ms) Q (F0 m (pc + 3) ls rest)) : W p l e R s m args below meth c H locs cells slots Q (F0 m pc ls st0) := by
  intro T hT X
  obtain ⟨v, st₀, t, T', L, h0, X', hL, e1, e2, ⟨hv, ⟨W1, hB, hp, hd⟩, hz, hk⟩, st⟩ := hr T hT X
  cases hv
  rw [h0] at hz hk
  have hsub : ∀ q, va_A wc H.size q → A q := by
    intro q h
    rcases h with ⟨k, e, h⟩ | h
    · obtain ⟨i, g1, g2⟩ := map_at hC k (q, e) h
      exact hD.2 i (q, e) g2
    · exact hA q (Nat.le_trans hS.1 h)
  obtain ⟨j1, j2⟩ := va_join hP hD isC isR hC hR hn hdis (H1 := T'.heap) (fun q h1 h2 => by rw [e1]; exact hk q h1 h2) hsub (by rw [e1]; exact hp) hd
  obtain ⟨t2, a1, b1⟩ := kk W1 T'.heap (locs ++ L) hB j1 j2
    ⟨Nat.le_trans hS.1 (by rw [e1]; exact hz), fun q h1 h2 => by rw [e1, hk q (Nat.lt_of_lt_of_le h1 hS.1) (fun z => h2 (hsub q z))]; exact hS.2.1 q h1 h2, fun q hq => by
      rcases List.mem_append.mp hq with h | h
      · exact hS.2.2 q h
      · exact hsub _ (hL q h)⟩ T' rfl X'
  exact ⟨t2, st t2 a1, b1⟩
theorem ra_i {c9 : ClassId} (h : va_K G vwCl (tysX cA ++ [(c9, .int)]) s) : c9 = cA 0 := by
  have h1 : s.vm.findClass ("[" ++ FieldType.int.toString) = some (cA 0) := (h.2 0 _ rfl).2
  have h2 : s.vm.findClass ("[" ++ FieldType.int.toString) = some c9 := (h.2 7 _ rfl).2
  exact Option.some.inj (h2.symm.trans h1)
theorem ra_l {c9 : ClassId} (h : va_K G vwCl (tysX cA ++ [(c9, .long)]) s) : c9 = cA 1 := by
  have h1 : s.vm.findClass ("[" ++ FieldType.long.toString) = some (cA 1) := (h.2 1 _ rfl).2
  have h2 : s.vm.findClass ("[" ++ FieldType.long.toString) = some c9 := (h.2 7 _ rfl).2
  exact Option.some.inj (h2.symm.trans h1)
theorem ra_b {c9 : ClassId} (h : va_K G vwCl (tysX cA ++ [(c9, .byte)]) s) : c9 = cA 2 := by
  have h1 : s.vm.findClass ("[" ++ FieldType.byte.toString) = some (cA 2) := (h.2 2 _ rfl).2
  have h2 : s.vm.findClass ("[" ++ FieldType.byte.toString) = some c9 := (h.2 7 _ rfl).2
  exact Option.some.inj (h2.symm.trans h1)
theorem ra_z {c9 : ClassId} (h : va_K G vwCl (tysX cA ++ [(c9, .boolean)]) s) : c9 = cA 3 := by
  have h1 : s.vm.findClass ("[" ++ FieldType.boolean.toString) = some (cA 3) := (h.2 3 _ rfl).2
  have h2 : s.vm.findClass ("[" ++ FieldType.boolean.toString) = some c9 := (h.2 7 _ rfl).2
  exact Option.some.inj (h2.symm.trans h1)
theorem ra_r {c9 : ClassId} (h : va_K G vwCl (tysX cA ++ [(c9, .object RX4)]) s) : c9 = cA 4 := by
  obtain ⟨_, _, -, -, -, h1⟩ := (h.2 4 _ rfl).2
  obtain ⟨_, _, -, -, -, h2⟩ := (h.2 7 _ rfl).2
  exact Option.some.inj (h2.symm.trans h1)
theorem ra_ai {c9 : ClassId} (h : va_K G vwCl (tysX cA ++ [(c9, .array .int)]) s) : c9 = cA 5 := by
  have h1 : s.vm.findClass ("[" ++ (FieldType.array .int).toString) = some (cA 5) := (h.2 5 _ rfl).2
  have h2 : s.vm.findClass ("[" ++ (FieldType.array .int).toString) = some c9 := (h.2 7 _ rfl).2
  exact Option.some.inj (h2.symm.trans h1)
theorem ra_al {c9 : ClassId} (h : va_K G vwCl (tysX cA ++ [(c9, .array .long)]) s) : c9 = cA 6 := by
  have h1 : s.vm.findClass ("[" ++ (FieldType.array .long).toString) = some (cA 6) := (h.2 6 _ rfl).2
  have h2 : s.vm.findClass ("[" ++ (FieldType.array .long).toString) = some c9 := (h.2 7 _ rfl).2
  exact Option.some.inj (h2.symm.trans h1)
end INI
theorem rf4 (a b c d : Nat) : va_up (va_up (va_up (va_up (fun _ => none) 0 (some a)) 1 (some b)) 2 (some c)) 3 (some d) = (fun j => if j < 4 then some ((fun i => if i = 0 then a else if i = 1 then b else if i = 2 then c else d) j) else none) := by
  funext j
  match j with
  | 0 => rfl
  | 1 => rfl
  | 2 => rfl
  | 3 => rfl
  | n + 4 => simp [va_up]
theorem pl_up {l : List Nat} {f : Nat → va_E} {e : va_E} : va_pl ([] ++ l) (vr_up f l e) = l.map (fun a => (a, e)) := by
  unfold va_pl
  apply List.map_congr_left
  intro a ha
  rw [vr_up_in (by simpa using ha)]
theorem rp_len : ∀ (is : List Nat) (es ws : va_W), (rp ws is es).length = ws.length
  | [], es, ws => by cases es <;> rfl
  | i :: is, [], ws => rfl
  | i :: is, e :: es, ws => by
    show (rp (ws.set i e) is es).length = _
    rw [rp_len is es (ws.set i e), List.length_set]
theorem rp_eq {is js : List Nat} {ws w2 w1 : va_W} (N : Nat) (hn : va_nd is = true) (h0 : ws.length = N) (h2 : w2.length = N) (h1 : is.map (fun i => w2[i]?) = w1.map some) (hj : js.map (fun i => w2[i]?) = js.map (fun i => ws[i]?)) (hc : (List.range N).all (fun k => decide (k ∈ is) || decide (k ∈ js)) = true) : rp ws is w1 = w2 := by
  have hl : is.length = w1.length := by
    have h := congrArg List.length h1
    simpa only [List.length_map] using h
  apply List.ext_getElem?
  intro k
  by_cases hk : k < N
  · have hk1 : k < (rp ws is w1).length := by rw [rp_len, h0]; exact hk
    obtain ⟨q, hq⟩ : ∃ q, (rp ws is w1)[k]? = some q := ⟨_, List.getElem?_eq_getElem hk1⟩
    rw [hq]
    rcases rp_get is w1 ws hn hl k q hq with ⟨j, a, b⟩ | ⟨a, b⟩
    · obtain ⟨i, g1, g2⟩ := map_at h1 j q b
      rw [a] at g1
      rw [Option.some.inj g1, g2]
    · have hm := List.all_eq_true.mp hc k (List.mem_range.mpr hk)
      rcases (Bool.or_eq_true _ _).mp hm with hm | hm
      · exact absurd (of_decide_eq_true hm) a
      · obtain ⟨j, hj1⟩ := List.mem_iff_getElem?.mp (of_decide_eq_true hm)
        have g := congrArg (fun (x : List (Option (Nat × va_E))) => x[j]?) hj
        simp only [List.getElem?_map, hj1, Option.map_some] at g
        rw [Option.some.inj g, b]
  · rw [List.getElem?_eq_none (by rw [rp_len, h0]; exact Nat.le_of_not_lt hk), List.getElem?_eq_none (by rw [h2]; exact Nat.le_of_not_lt hk)]
theorem g_pr {α β : Type} {a b : α} {t t' : β} (h : some (a, t) = some (b, t')) : a = b ∧ some t = some t' := by
  have e := Option.some.inj h
  exact ⟨congrArg Prod.fst e, congrArg some (congrArg Prod.snd e)⟩
