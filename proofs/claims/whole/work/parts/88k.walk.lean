/-! Ways: the walk -/
def nxt (N : Nat → Int) (x : Int) (c : Nat) : Option Nat := if nx N x c < 0 then none else some (nx N x c).toNat
def enc : Option Nat → Int
  | none => -1
  | some d => d
theorem nxt_e {N : Nat → Int} (hV : Vl N) (x : Int) {S c : Nat} (hS : stN N = S) (hc : c < S) : nx N x c = enc (nxt N x c) ∧ ∀ d, nxt N x c = some d → d < S := by
  have h := nx_b hV x (c := (c : Int)) (by omega) (by omega)
  unfold nxt
  rcases h with h | ⟨h1, h2⟩
  · rw [if_pos (by omega), h]
    exact ⟨rfl, fun d hd => absurd hd (by simp)⟩
  · rw [if_neg (by omega)]
    refine ⟨by show _ = (((nx N x c).toNat : Nat) : Int); omega, fun d hd => ?_⟩
    have := Option.some.inj hd
    omega
theorem m1e : (-1 : Int32) = I (-1) := by decide +kernel
theorem m2e : (-2 : Int32) = I (-2) := by decide +kernel
theorem isN8 {S : Nat} (hS : S ≤ 1024) (cur : Option Nat) (hc : ∀ c, cur = some c → c < S) : fX7_is (I (enc cur)) (I S) = some (if cur.isSome then 1 else 0) := by
  unfold fX7_is
  cases cur with
  | none => rw [if_pos (c := I (enc none) < 0) (by decide +kernel)]; rfl
  | some c =>
    have := hc c rfl
    have ec : I (enc (some c)) = I c := rfl
    rw [ec, if_neg (nK (show c < 100000 by omega)), if_neg (show ¬ (I S ≤ I c) by rw [I_le (by omega) (by omega) (by omega) (by omega)]; omega), if_neg (L1024' (by omega))]
    rfl
/-- a walk: its ways, where it stands, what it has marked -/
def WK (F : Nat → Option Nat) (S start j : Nat) (w : Nat → Nat) (cur : Option Nat) (t0 o0 t o : Nat → Int32) : Prop :=
  j ≤ S ∧ (∀ m, m < j → w m < S ∧ t0 (w m) = -1 ∧ t (w m) = -2 ∧ o (w m) = I (enc (F (w m)))) ∧ (∀ m, m + 1 < j → F (w m) = some (w (m + 1))) ∧ ((j = 0 ∧ cur = some start) ∨ (0 < j ∧ w 0 = start ∧ F (w (j - 1)) = cur)) ∧ (∀ a b, a < b → b < j → w a ≠ w b) ∧ (∀ c, cur = some c → c < S) ∧ ∀ c, (∀ m, m < j → w m ≠ c) → t c = t0 c ∧ o c = o0 c
theorem WK_s {F : Nat → Option Nat} {S start j : Nat} {w : Nat → Nat} {c : Nat} {t0 o0 t o : Nat → Int32} (h : WK F S start j w (some c) t0 o0 t o) (hF : ∀ d, F c = some d → d < S) (hc : t c = -1) : WK F S start (j + 1) (fun m => if m = j then c else w m) (F c) t0 o0 (upd t c (-2)) (upd o c (I (enc (F c)))) := by
  obtain ⟨h1, h2, h3, h4, h5, h6, h7⟩ := h
  have hcS := h6 c rfl
  have hno : ∀ m, m < j → w m ≠ c := fun m hm e => by
    have := (h2 m hm).2.2.1
    rw [e, hc] at this
    exact absurd this (by decide)
  have hj : j < S := by
    rcases Nat.lt_or_ge j S with q | q
    · exact q
    · exfalso
      have := fb_holes S (j + 1) (fun m => if m = j then c else w m) (fun i hi => by
        show (if i = j then c else w i) < S
        by_cases e : i = j
        · rw [if_pos e]; exact hcS
        · rw [if_neg e]; exact (h2 i (by omega)).1) (fun i k hik hk => by
        show (if i = j then c else w i) ≠ (if k = j then c else w k)
        rw [if_neg (by omega)]
        by_cases e : k = j
        · rw [if_pos e]; exact hno i (by omega)
        · rw [if_neg e]; exact h5 i k hik (by omega))
      omega
  refine ⟨by omega, fun m hm => ?_, fun m hm => ?_, Or.inr ⟨by omega, ?_, ?_⟩, fun a b hab hb => ?_, fun d hd => hF d hd, fun d hd => ?_⟩
  · by_cases e : m = j
    · simp only [if_pos e]
      exact ⟨hcS, by rw [← (h7 c hno).1, hc], by rw [upd_s], by rw [upd_s]⟩
    · obtain ⟨a1, a2, a3, a4⟩ := h2 m (by omega)
      have ne := hno m (by omega)
      simp only [if_neg e]
      exact ⟨a1, a2, by rw [upd_o _ _ ne, a3], by rw [upd_o _ _ ne, a4]⟩
  · simp only
    rw [if_neg (by omega)]
    by_cases e : m + 1 = j
    · rw [if_pos e]
      rcases h4 with ⟨q, -⟩ | ⟨-, -, q⟩
      · omega
      · rw [← q]; congr 2; omega
    · rw [if_neg e]; exact h3 m (by omega)
  · simp only
    by_cases e : 0 = j
    · rw [if_pos e]
      rcases h4 with ⟨-, q⟩ | ⟨q, -⟩
      · exact Option.some.inj q
      · omega
    · rw [if_neg e]
      rcases h4 with ⟨q, -⟩ | ⟨-, q, -⟩
      · omega
      · exact q
  · simp only
    rw [if_pos (by omega)]
  · simp only
    rw [if_neg (by omega)]
    by_cases e : b = j
    · rw [if_pos e]; exact hno a (by omega)
    · rw [if_neg e]; exact h5 a b hab (by omega)
  · have hdc : d ≠ c := fun e => by
      have q : (if j = j then c else w j) ≠ d := hd j (by omega)
      rw [if_pos rfl] at q
      exact q e.symm
    rw [upd_o _ _ hdc, upd_o _ _ hdc]
    refine h7 d fun m hm e => ?_
    have q : (if m = j then c else w m) ≠ d := hd m (by omega)
    rw [if_neg (by omega)] at q
    exact q e
theorem walkL {N : Nat → Int} (hV : Vl N) {num : Nat → Int32} (hn : ∀ j, j < 10 → num j = I (N j)) {S : Nat} (hS : stN N = S) {x : Int} (x1 : -99 ≤ x) (x2 : x ≤ 99) (start : Nat) (t0 o0 : Nat → Int32) :
    ∀ (d j : Nat), j + d = S → ∀ (f : Nat) (w : Nat → Nat) (cur : Option Nat) (t o : Nat → Int32), WK (nxt N x) S start j w cur t0 o0 t o → ∀ (W : Nat → Int) (hW : Wd N W) (words : Nat → Int32) (hw : ∀ k, k < 3 → words k = I (W k)) (as lo a v l rr oo ha hr : Int32) (cm : Nat → Int32), ∃ (j' : Nat) (w' : Nat → Nat) (cur' : Option Nat) (a' v' l' r' o' ha' hr' : Int32) (words' t' o2 : Nat → Int32) (W' : Nat → Int), fX7_settle_L4 (I start) (I S) (I x) num (f + d + 1) (I (enc cur)) (I j) as lo a v l rr oo ha hr words o t cm = some (I (enc cur'), a', v', l', r', o', ha', hr', words', o2, t') ∧ WK (nxt N x) S start j' w' cur' t0 o0 t' o2 ∧ (∀ c, cur' = some c → t' c ≠ -1) ∧ Wd N W' ∧ ∀ k, k < 3 → words' k = I (W' k) := by
  intro d
  have sb := st_b hV
  induction d with
  | zero =>
    intro j hj f w cur t o hK W hW words hw as lo a v l rr oo ha hr cm
    have e : j = S := by omega
    rw [fX7_settle_L4, if_pos (by rw [I_le (by omega) (by omega) (by omega) (by omega)]; omega)]
    refine ⟨j, w, cur, _, _, _, _, _, _, _, _, _, _, W, rfl, hK, fun c hc ht => ?_, hW, hw⟩
    subst hc
    have := (WK_s hK (fun d hd => (nxt_e hV x hS (hK.2.2.2.2.2.1 c rfl)).2 d hd) ht).1
    omega
  | succ d ih =>
    intro j hj f w cur t o hK W hW words hw as lo a v l rr oo ha hr cm
    rw [show f + (d + 1) + 1 = (f + d + 1) + 1 by omega, fX7_settle_L4, if_neg (by rw [I_le (by omega) (by omega) (by omega) (by omega)]; omega), isN8 (by omega) cur hK.2.2.2.2.2.1, bnd1_some]
    cases cur with
    | none =>
      rw [if_pos (c := (if (none : Option Nat).isSome = true then (1 : Int32) else 0) = 0) rfl]
      exact ⟨j, w, none, _, _, _, _, _, _, _, _, _, _, W, rfl, hK, fun c hc => absurd hc (by simp), hW, hw⟩
    | some c =>
      have hc := hK.2.2.2.2.2.1 c rfl
      have ec : I (enc (some c)) = I c := rfl
      rw [if_neg (c := (if (some c : Option Nat).isSome = true then (1 : Int32) else 0) = 0) (by simp), ec, clN (by omega)]
      simp only [if_neg (gK (show c < 1024 by omega))]
      by_cases ht : t c = -1
      · obtain ⟨w', e2, b1⟩ := unp8' hV hn hw (c : Int) (by omega) (by omega)
        obtain ⟨n1, n2⟩ := nxt_e hV x hS hc
        have hsw := sS_w hV (unW_w hV (c : Int)) x
        have hh := hf_b hV
        have hK2 := WK_s hK n2 ht
        have ej : I j + (1 : Int32) = I (j + 1 : Nat) := by rw [L1, I_add]; rfl
        have hfin := ih (j + 1) (by omega) f _ (nxt N x c) _ _ hK2 _ (ovW_w hV hW _) w' b1 as lo (I (aS N (ovW N W c) x)) (I (vS N (ovW N W c) x)) (I (lS N (ovW N W c) x)) (I (sS N (unW N c) x)) (bo (oS N (ovW N W c) x)) (I (gA N (ovW N W c))) (I (gR N (ovW N W c))) cm
        have e1005 : (-1005 : Int32) = I (-1005) := by decide +kernel
        rw [if_pos ht, e2, bnd1_some, wei8 hV (ovW_w hV hW _) hn b1 x1 x2, bnd7_some, (agrS hV (ovW_a (N := N) (V := W) (c : Int)) x).2.2.2.2, e1005, ej, upd_s]
        by_cases e : sS N (unW N c) x = -1005
        · have hx : nx N x c = -1 := by unfold nx; rw [if_pos e]
          have hx2 : I (enc (nxt N x c)) = (-1 : Int32) := by rw [← n1, hx, m1e]
          rw [hx2] at hfin
          rw [if_pos (by rw [e])]
          exact hfin
        · have hx : nx N x c = (sS N (unW N c) x + hf N) * pw (N 1 * (N 0 - 1)) + (c : Int) / pw (N 1) := by unfold nx; rw [if_neg e]
          rw [if_neg (fun z => e (I_inj (by omega) (by omega) (by omega) (by omega) z)), cbh8 hV hn (c : Int) _ (by omega) (by omega), bnd1_some, ← hx, upd_s, n1]
          exact hfin
      · rw [if_neg ht]
        exact ⟨j, w, some c, _, _, _, _, _, _, _, _, _, _, W, rfl, hK, fun d hd => by rw [← Option.some.inj hd]; exact ht, hW, hw⟩
/-- the places of a way, then where it leads -/
def wy (w : Nat → Nat) (s : Nat) (cur : Option Nat) (i : Nat) : Option Nat := if i < s then some (w i) else cur
def WY (F : Nat → Option Nat) (S start s : Nat) (w : Nat → Nat) (cur : Option Nat) (o : Nat → Int32) : Prop := s ≤ S ∧ (∀ m, m < s → w m < S ∧ o (w m) = I (enc (F (w m)))) ∧ (∀ m, m + 1 < s → F (w m) = some (w (m + 1))) ∧ ((s = 0 ∧ cur = some start) ∨ (0 < s ∧ w 0 = start ∧ F (w (s - 1)) = cur)) ∧ (∀ a b, a < b → b < s → w a ≠ w b) ∧ (∀ c, cur = some c → c < S)
theorem wy_n {F : Nat → Option Nat} {S start s : Nat} {w : Nat → Nat} {cur : Option Nat} {o : Nat → Int32} (h : WY F S start s w cur o) {i : Nat} (hi : i < s) : F (w i) = wy w s cur (i + 1) := by
  obtain ⟨h1, h2, h3, h4, h5, h6⟩ := h
  unfold wy
  by_cases c : i + 1 < s
  · rw [if_pos c]; exact h3 i c
  · rw [if_neg c]
    rcases h4 with ⟨q, -⟩ | ⟨-, -, q⟩
    · omega
    · rw [← q]; congr 2; omega
theorem wy_0 {F : Nat → Option Nat} {S start s : Nat} {w : Nat → Nat} {cur : Option Nat} {o : Nat → Int32} (h : WY F S start s w cur o) : wy w s cur 0 = some start := by
  obtain ⟨h1, h2, h3, h4, h5, h6⟩ := h
  unfold wy
  rcases h4 with ⟨q, e⟩ | ⟨q, e, -⟩
  · rw [if_neg (by omega)]; exact e
  · rw [if_pos q, e]
theorem joL7 {F : Nat → Option Nat} {S start s : Nat} {w : Nat → Nat} {cur : Option Nat} {o : Nat → Int32} (hS : S ≤ 1024) (h : WY F S start s w cur o) {t : Nat → Int32} (ht : ∀ m, m < s → t (w m) = -2) (hc : ∀ c, cur = some c → t c ≠ -2) (x1 as : Int32) (cm : Nat → Int32) : ∀ d i : Nat, i + d = s → ∀ f : Nat, fX7_joinWay_L7 x1 (I S) o (f + d + 1) (I i) (I (enc (wy w s cur i))) (I i) as t cm = some (I s, I (enc cur)) := by
  intro d
  induction d with
  | zero =>
    intro i hi f
    have e : i = s := by omega
    subst e
    have hw : wy w i cur i = cur := by unfold wy; rw [if_neg (by omega)]
    rw [hw, show f + 0 + 1 = f + 1 by omega, fX7_joinWay_L7]
    by_cases c : i = S
    · rw [if_pos (by rw [I_le (by have := h.1; omega) (by have := h.1; omega) (by omega) (by have := h.1; omega)]; omega)]
    · rw [if_neg (by rw [I_le (by have := h.1; omega) (by have := h.1; omega) (by omega) (by have := h.1; omega)]; have := h.1; omega), isN8 hS cur h.2.2.2.2.2, bnd1_some]
      cases cur with
      | none => rw [if_pos (c := (if (none : Option Nat).isSome = true then (1 : Int32) else 0) = 0) rfl]
      | some q =>
        have hq := h.2.2.2.2.2 q rfl
        have ec : I (enc (some q)) = I q := rfl
        rw [if_neg (c := (if (some q : Option Nat).isSome = true then (1 : Int32) else 0) = 0) (by simp), ec, clN (by omega)]
        simp only [if_neg (gK (show q < 1024 by omega))]
        rw [if_neg (hc q rfl)]
  | succ d ih =>
    intro i hi f
    have his : i < s := by omega
    obtain ⟨a1, a2⟩ := h.2.1 i his
    have hw : wy w s cur i = some (w i) := by unfold wy; rw [if_pos his]
    have ec : I (enc (some (w i))) = I (w i : Nat) := rfl
    have hsS := h.1
    rw [show f + (d + 1) + 1 = (f + d + 1) + 1 by omega, fX7_joinWay_L7, if_neg (by rw [I_le (by omega) (by omega) (by omega) (by omega)]; omega), isN8 hS _ (fun c hc => by rw [hw] at hc; rw [← Option.some.inj hc]; exact a1), bnd1_some, hw, if_neg (c := (if (some (w i) : Option Nat).isSome = true then (1 : Int32) else 0) = 0) (by simp), ec, clN (by omega)]
    simp only [if_neg (gK (show w i < 1024 by omega))]
    rw [if_pos (ht i his), L1, I_add, a2, wy_n h his]
    exact ih (i + 1) (by omega) f
theorem joL120 {F : Nat → Option Nat} {S start s : Nat} {w : Nat → Nat} {cur : Option Nat} {o : Nat → Int32} (hS : S ≤ 1024) (h : WY F S start s w cur o) (x1 as : Int32) (cyc tl : Int) : ∀ d i : Nat, i + d = s → ∀ (f : Nat) (t cm : Nat → Int32), ∃ t' cm', fX7_joinWay_L120 x1 (I S) o (f + d + 1) (I s) (I (enc (wy w s cur i))) (I cyc) (I tl) (I i) as t cm = some (t', cm') ∧ (∀ m, i ≤ m → m < s → t' (w m) = I (tl - m) ∧ cm' (w m) = I cyc) ∧ ∀ c, (∀ m, i ≤ m → m < s → w m ≠ c) → t' c = t c ∧ cm' c = cm c := by
  intro d
  have hsS := h.1
  induction d with
  | zero =>
    intro i hi f t cm
    have e : i = s := by omega
    subst e
    rw [show f + 0 + 1 = f + 1 by omega, fX7_joinWay_L120, if_pos (by rw [I_le (by omega) (by omega) (by omega) (by omega)]; omega)]
    exact ⟨_, _, rfl, fun m h1 h2 => absurd h1 (by omega), fun c _ => ⟨rfl, rfl⟩⟩
  | succ d ih =>
    intro i hi f t cm
    have his : i < s := by omega
    obtain ⟨a1, a2⟩ := h.2.1 i his
    have hw : wy w s cur i = some (w i) := by unfold wy; rw [if_pos his]
    have ec : I (enc (some (w i))) = I (w i : Nat) := rfl
    rw [show f + (d + 1) + 1 = (f + d + 1) + 1 by omega, fX7_joinWay_L120, if_neg (by rw [I_le (by omega) (by omega) (by omega) (by omega)]; omega), isN8 hS _ (fun c hc => by rw [hw] at hc; rw [← Option.some.inj hc]; exact a1), bnd1_some, hw, if_neg (c := (if (some (w i) : Option Nat).isSome = true then (1 : Int32) else 0) = 0) (by simp), ec, clN (by omega)]
    simp only [if_neg (gK (show w i < 1024 by omega))]
    rw [L1, I_add, a2, wy_n h his, I_sub]
    obtain ⟨t', cm', e, h1, h2⟩ := ih (i + 1) (by omega) f (upd t (w i) (I (tl - i))) (upd cm (w i) (I cyc))
    refine ⟨t', cm', e, fun m m1 m2 => ?_, fun c hc => ?_⟩
    · by_cases q : m = i
      · subst q
        obtain ⟨g1, g2⟩ := h2 (w m) (fun k k1 k2 => (h.2.2.2.2.1 m k (by omega) k2).symm)
        rw [g1, g2, upd_s, upd_s]
        exact ⟨rfl, rfl⟩
      · exact h1 m (by omega) m2
    · obtain ⟨g1, g2⟩ := h2 c (fun k k1 k2 => hc k (by omega) k2)
      have ne : c ≠ w i := fun q => hc i (by omega) his q.symm
      rw [g1, g2, upd_o _ _ ne, upd_o _ _ ne]
      exact ⟨rfl, rfl⟩
theorem joW {F : Nat → Option Nat} {S start s : Nat} {w : Nat → Nat} {cur : Option Nat} {o : Nat → Int32} (hS : S ≤ 1024) (h : WY F S start s w cur o) {t cm : Nat → Int32} (ht : ∀ m, m < s → t (w m) = -2) (hc : ∀ c, cur = some c → t c ≠ -2) (as : Bool) (cyc tl : Int) (hct : (cur = none ∧ cyc = -1 ∧ tl = s) ∨ (∃ c tc, cur = some c ∧ cm c = I cyc ∧ t c = I tc ∧ tl = tc + s)) (hcb : -1 ≤ cyc ∧ cyc ≤ 1024) : ∃ t' cm', fX7_joinWay (I start) (I S) (bo as) o t cm = some (bo (as || decide (cyc = -1)), t', cm') ∧ (∀ m, m < s → t' (w m) = I (tl - m) ∧ cm' (w m) = I cyc) ∧ ∀ c, (∀ m, m < s → w m ≠ c) → t' c = t c ∧ cm' c = cm c := by
  have hsS := h.1
  have fe : FUEL = 99999 - s + s + 1 := by show 100000 = _; omega
  have e1 := joL7 hS h ht hc (I start) (bo as) cm s 0 (by omega) (99999 - s)
  obtain ⟨t', cm', e2, h1, h2⟩ := joL120 hS h (I start) (bo (as || decide (cyc = -1))) cyc tl s 0 (by omega) (99999 - s) t cm
  rw [← fe, wy_0 h, show I (enc (some start)) = I start from rfl, show I ((0 : Nat) : Int) = 0 from rfl] at e1 e2
  have h91 : fX7_joinWay_j91 (I start) (I S) o (I s) (I cyc) (I tl) (bo as) t cm = some (bo (as || decide (cyc = -1)), t', cm') := by
    unfold fX7_joinWay_j91 fX7_joinWay_j107
    have hz : ∀ z : Bool, z = (as || decide (cyc = -1)) → fX7_joinWay_j112 (I start) (I S) o (I s) (I cyc) (I tl) (bo z) (bo as) t cm = some (bo (as || decide (cyc = -1)), t', cm') := by
      intro z ez
      subst ez
      unfold fX7_joinWay_j112
      rw [if_neg (bo00 _), e2, bnd2_some]
    cases as with
    | false =>
      rw [if_pos bo_f, m1e]
      by_cases q : cyc = -1
      · rw [if_pos (by rw [q])]
        exact hz true (by rw [decide_eq_true q]; rfl)
      · rw [if_neg (by rw [I_eq (by omega) (by omega) (by omega) (by omega)]; exact q)]
        exact hz false (by rw [decide_eq_false q]; rfl)
    | true =>
      rw [if_neg bo_t]
      exact hz true rfl
  refine ⟨t', cm', ?_, fun m hm => h1 m (by omega) hm, fun c hc2 => h2 c fun m _ m2 => hc2 m m2⟩
  unfold fX7_joinWay
  rw [e1, bnd2_some]
  unfold fX7_joinWay_j51 fX7_joinWay_j69
  rw [isN8 hS cur h.2.2.2.2.2]
  simp only [bnd1_some]
  rcases hct with ⟨rfl, rfl, rfl⟩ | ⟨c, tc, rfl, q1, q2, rfl⟩
  · rw [if_pos (c := (if (none : Option Nat).isSome = true then (1 : Int32) else 0) = 0) rfl, m1e, if_pos (c := (if (none : Option Nat).isSome = true then (1 : Int32) else 0) = 0) rfl]
    exact h91
  · have hcS := h.2.2.2.2.2 c rfl
    have ec : I (enc (some c)) = I c := rfl
    rw [ec, clN (show c < 100000 by omega)]
    simp only [if_neg (show ¬ ((if (some c : Option Nat).isSome = true then (1 : Int32) else 0) = 0) by simp), if_neg (gK (show c < 1024 by omega))]
    rw [q1, q2, I_add]
    exact h91
