/-! Ways: a cycle is closed; one start is settled -/
def mnv (v : Nat → Nat) : Nat → Nat
  | 0 => v 0
  | i + 1 => if v i < mnv v i then v i else mnv v i
def lov (lat : Nat → Int) (v : Nat → Nat) (lo : Int) : Nat → Int
  | 0 => lo
  | i + 1 => if lov lat v lo i < (lat (v i)).natAbs then (lat (v i)).natAbs else lov lat v lo i
theorem mnv_p (v : Nat → Nat) : ∀ p, (∀ q, q < p → mnv v p ≤ v q) ∧ ∃ q, (q < p ∨ q = 0) ∧ mnv v p = v q
  | 0 => ⟨fun q h => absurd h (by omega), 0, Or.inr rfl, rfl⟩
  | p + 1 => by
    obtain ⟨h1, q, h2, h3⟩ := mnv_p v p
    unfold mnv
    by_cases c : v p < mnv v p
    · rw [if_pos c]
      refine ⟨fun r hr => ?_, p, Or.inl (by omega), rfl⟩
      by_cases e : r = p
      · rw [e]; omega
      · have := h1 r (by omega); omega
    · rw [if_neg c]
      refine ⟨fun r hr => ?_, q, by omega, h3⟩
      by_cases e : r = p
      · rw [e]; omega
      · exact h1 r (by omega)
theorem lov_p (lat : Nat → Int) (v : Nat → Nat) (lo : Int) : ∀ p, lo ≤ lov lat v lo p ∧ (∀ q, q < p → ((lat (v q)).natAbs : Int) ≤ lov lat v lo p) ∧ (lov lat v lo p = lo ∨ ∃ q, q < p ∧ lov lat v lo p = (lat (v q)).natAbs)
  | 0 => ⟨by unfold lov; omega, fun q h => absurd h (by omega), Or.inl rfl⟩
  | p + 1 => by
    obtain ⟨h1, h2, h3⟩ := lov_p lat v lo p
    unfold lov
    by_cases c : lov lat v lo p < (lat (v p)).natAbs
    · rw [if_pos c]
      refine ⟨by omega, fun r hr => ?_, Or.inr ⟨p, by omega, rfl⟩⟩
      by_cases e : r = p
      · rw [e]; omega
      · have := h2 r (by omega); omega
    · rw [if_neg c]
      refine ⟨h1, fun r hr => ?_, ?_⟩
      · by_cases e : r = p
        · rw [e]; omega
        · exact h2 r (by omega)
      · rcases h3 with h3 | ⟨q, q1, q2⟩
        · exact Or.inl h3
        · exact Or.inr ⟨q, by omega, q2⟩
/-- a closed way -/
def CY (F : Nat → Option Nat) (S p : Nat) (v : Nat → Nat) (o : Nat → Int32) : Prop := 0 < p ∧ p ≤ S ∧ (∀ q, q < p → v q < S ∧ o (v q) = I (enc (F (v q)))) ∧ (∀ q, q < p → F (v q) = some (if q + 1 < p then v (q + 1) else v 0)) ∧ ∀ a b, a < b → b < p → v a ≠ v b
theorem abs16 (l : Int) (h1 : -100 ≤ l) (h2 : l ≤ 100) : (if (0 : Int32) ≤ I l then I l else 0 - I l) = I (l.natAbs : Nat) := by
  by_cases c : 0 ≤ l
  · rw [L0, if_pos ((I_le (by omega) (by omega) (by omega) (by omega)).mpr c)]
    congr 1; omega
  · rw [L0, if_neg (fun q => c ((I_le (by omega) (by omega) (by omega) (by omega)).mp q)), I_sub]
    congr 1; omega
def latN (N : Nat → Int) (c : Nat) : Int := unW N (c : Int) 0
theorem latN_b {N : Nat → Int} (hV : Vl N) (c : Nat) : -16 ≤ latN N c ∧ latN N c ≤ 16 := by
  have := unW_w hV (c : Int) 0 (by omega)
  have := hf_b hV
  unfold latN
  omega
theorem clL7 {N : Nat → Int} (hV : Vl N) {num : Nat → Int32} (hn : ∀ j, j < 10 → num j = I (N j)) {S : Nat} (hS : stN N = S) {F : Nat → Option Nat} {p : Nat} {v : Nat → Nat} {o : Nat → Int32} (h : CY F S p v o) (lo : Int) (lo1 : -1 ≤ lo) (lo2 : lo ≤ 100) (t cm : Nat → Int32) : ∀ d i : Nat, i + d = p → ∀ f : Nat, fX7_closeCycle_L7 (I (v 0 : Nat)) (I S) num o (f + d + 1) (I (mnv v i : Nat)) (I ((if i < p then v i else v 0 : Nat) : Int)) (I i) (I (lov (latN N) v lo i)) t cm = some (I (mnv v p : Nat), I (v 0 : Nat), I (lov (latN N) v lo p)) := by
  obtain ⟨h0, h1, h2, h3, h4⟩ := h
  have sb := st_b hV
  intro d
  induction d with
  | zero =>
    intro i hi f
    have e : i = p := by omega
    subst e
    rw [if_neg (by omega), show f + 0 + 1 = f + 1 by omega, fX7_closeCycle_L7]
    by_cases c : S ≤ i
    · rw [if_pos (by rw [I_le (by omega) (by omega) (by omega) (by omega)]; omega)]
    · have hv := (h2 0 h0).1
      have hi8 := isN8 (S := S) (by omega) (some (v 0)) (fun q hq => by rw [← Option.some.inj hq]; exact hv)
      have ec : I (enc (some (v 0))) = I (v 0 : Nat) := rfl
      rw [ec] at hi8
      rw [if_neg (by rw [I_le (by omega) (by omega) (by omega) (by omega)]; omega), hi8, bnd1_some, if_neg (c := (if (some (v 0) : Option Nat).isSome = true then (1 : Int32) else 0) = 0) (by simp), if_neg (by rw [L0, I_eq (by omega) (by omega) (by omega) (by omega)]; omega), if_pos rfl]
  | succ d ih =>
    intro i hi f
    have hip : i < p := by omega
    obtain ⟨hv, ho⟩ := h2 i hip
    have hi8 := isN8 (S := S) (by omega) (some (v i)) (fun q hq => by rw [← Option.some.inj hq]; exact hv)
    have ec : I (enc (some (v i))) = I (v i : Nat) := rfl
    rw [ec] at hi8
    have hl := latN_b hV (v i)
    have hlo := lov_p (latN N) v lo i
    have hlb : lov (latN N) v lo i ≤ 100 := by
      rcases hlo.2.2 with q | ⟨q, -, q2⟩
      · omega
      · have := latN_b hV (v q); omega
    have hj : fX7_closeCycle_j34 (I (v 0 : Nat)) (I S) num o (fX7_closeCycle_L7 (I (v 0 : Nat)) (I S) num o (f + d + 1)) (I (mnv v i : Nat)) (I (v i : Nat)) (I i) (I (lov (latN N) v lo i)) t cm = some (I (mnv v p : Nat), I (v 0 : Nat), I (lov (latN N) v lo p)) := by
      unfold fX7_closeCycle_j34
      have hm := mnv_p v i
      have hmb : mnv v i < S := by
        obtain ⟨-, q, q1, q2⟩ := hm
        rw [q2]; exact (h2 q (by omega)).1
      rw [ltn8 hV hn _ (by omega) (by omega), bnd1_some, clN (by omega), if_neg (gK (by omega)), ho, h3 i hip]
      have e1 : (if (0 : Int32) ≤ I (unW N (v i : Nat) 0) then I (unW N (v i : Nat) 0) else 0 - I (unW N (v i : Nat) 0)) = I ((latN N (v i)).natAbs : Nat) := abs16 _ (by unfold latN at hl; omega) (by unfold latN at hl; omega)
      rw [e1, L1, I_add]
      have e2 : (if I (v i : Nat) < I (mnv v i : Nat) then I (v i : Nat) else I (mnv v i : Nat)) = I (mnv v (i + 1) : Nat) := by
        show _ = I ((if v i < mnv v i then v i else mnv v i : Nat) : Int)
        by_cases c : v i < mnv v i
        · rw [if_pos c, if_pos (by rw [I_lt (by omega) (by omega) (by omega) (by omega)]; omega)]
        · rw [if_neg c, if_neg (by rw [I_lt (by omega) (by omega) (by omega) (by omega)]; omega)]
      have e3 : (if I (lov (latN N) v lo i) < I ((latN N (v i)).natAbs : Nat) then I ((latN N (v i)).natAbs : Nat) else I (lov (latN N) v lo i)) = I (lov (latN N) v lo (i + 1)) := by
        show _ = I (if lov (latN N) v lo i < (latN N (v i)).natAbs then ((latN N (v i)).natAbs : Int) else lov (latN N) v lo i)
        by_cases c : lov (latN N) v lo i < (latN N (v i)).natAbs
        · rw [if_pos c, if_pos (by rw [I_lt (by omega) (by omega) (by omega) (by omega)]; omega)]
        · rw [if_neg c, if_neg (by rw [I_lt (by omega) (by omega) (by omega) (by omega)]; omega)]
      rw [e2, e3]
      exact ih (i + 1) (by omega) f
    rw [if_pos hip, show f + (d + 1) + 1 = (f + d + 1) + 1 by omega, fX7_closeCycle_L7, if_neg (by rw [I_le (by omega) (by omega) (by omega) (by omega)]; omega), hi8, bnd1_some, if_neg (c := (if (some (v i) : Option Nat).isSome = true then (1 : Int32) else 0) = 0) (by simp)]
    by_cases c0 : I i = 0
    · rw [if_pos c0]; exact hj
    · have hi0 : i ≠ 0 := fun q => c0 (by rw [q]; rfl)
      have hne := h4 0 i (by omega) hip
      have hv0 := (h2 0 h0).1
      rw [if_neg c0, if_neg (by rw [I_eq (by omega) (by omega) (by omega) (by omega)]; omega)]
      exact hj
theorem clL78 {S : Nat} (hS : S ≤ 1024) {F : Nat → Option Nat} {p : Nat} {v : Nat → Nat} {o : Nat → Int32} (h : CY F S p v o) (x1 : Int32) (num : Nat → Int32) (L : Int32) (lo : Int32) : ∀ d i : Nat, i + d = p → ∀ (f : Nat) (t cm : Nat → Int32), (∀ q, i ≤ q → q < p → t (v q) = -2) → (0 < i → t (v 0) = 0) → ∃ t' cm', fX7_closeCycle_L78 x1 (I S) num o (f + d + 1) L (I ((if i < p then v i else v 0 : Nat) : Int)) (I i) lo t cm = some (t', cm') ∧ (∀ q, i ≤ q → q < p → t' (v q) = 0 ∧ cm' (v q) = L) ∧ ∀ c, (∀ q, i ≤ q → q < p → v q ≠ c) → t' c = t c ∧ cm' c = cm c := by
  obtain ⟨h0, h1, h2, h3, h4⟩ := h
  intro d
  induction d with
  | zero =>
    intro i hi f t cm ht ht0
    have e : i = p := by omega
    subst e
    rw [if_neg (by omega), show f + 0 + 1 = f + 1 by omega, fX7_closeCycle_L78]
    by_cases c : S ≤ i
    · rw [if_pos (by rw [I_le (by omega) (by omega) (by omega) (by omega)]; omega)]
      exact ⟨_, _, rfl, fun q q1 q2 => absurd q1 (by omega), fun c _ => ⟨rfl, rfl⟩⟩
    · have hv := (h2 0 h0).1
      have hi8 := isN8 (S := S) hS (some (v 0)) (fun q hq => by rw [← Option.some.inj hq]; exact hv)
      have ec : I (enc (some (v 0))) = I (v 0 : Nat) := rfl
      rw [ec] at hi8
      rw [if_neg (by rw [I_le (by omega) (by omega) (by omega) (by omega)]; omega), hi8, bnd1_some, if_neg (c := (if (some (v 0) : Option Nat).isSome = true then (1 : Int32) else 0) = 0) (by simp), clN (by omega), if_neg (gK (by omega)), if_neg (by rw [ht0 h0]; decide)]
      exact ⟨_, _, rfl, fun q q1 q2 => absurd q1 (by omega), fun c _ => ⟨rfl, rfl⟩⟩
  | succ d ih =>
    intro i hi f t cm ht ht0
    have hip : i < p := by omega
    obtain ⟨hv, ho⟩ := h2 i hip
    have hi8 := isN8 (S := S) hS (some (v i)) (fun q hq => by rw [← Option.some.inj hq]; exact hv)
    have ec : I (enc (some (v i))) = I (v i : Nat) := rfl
    rw [ec] at hi8
    rw [if_pos hip, show f + (d + 1) + 1 = (f + d + 1) + 1 by omega, fX7_closeCycle_L78, if_neg (by rw [I_le (by omega) (by omega) (by omega) (by omega)]; omega), hi8, bnd1_some, if_neg (c := (if (some (v i) : Option Nat).isSome = true then (1 : Int32) else 0) = 0) (by simp), clN (by omega)]
    simp only [if_neg (gK (show v i < 1024 by omega))]
    rw [if_pos (ht i (by omega) hip), ho, h3 i hip, L1, I_add]
    obtain ⟨t', cm', e, g1, g2⟩ := ih (i + 1) (by omega) f (upd t (v i) 0) (upd cm (v i) L) (fun q q1 q2 => by rw [upd_o _ _ (h4 i q (by omega) q2).symm]; exact ht q (by omega) q2) (fun _ => by
      by_cases e : i = 0
      · rw [e, upd_s]
      · rw [upd_o _ _ (h4 0 i (by omega) hip)]; exact ht0 (by omega))
    refine ⟨t', cm', e, fun q q1 q2 => ?_, fun c hc => ?_⟩
    · by_cases eq : q = i
      · subst eq
        obtain ⟨k1, k2⟩ := g2 (v q) (fun r r1 r2 => (h4 q r (by omega) r2).symm)
        rw [k1, k2, upd_s, upd_s]
        exact ⟨rfl, rfl⟩
      · exact g1 q (by omega) q2
    · obtain ⟨k1, k2⟩ := g2 c (fun r r1 r2 => hc r (by omega) r2)
      have ne : c ≠ v i := fun z => hc i (by omega) hip z.symm
      rw [k1, k2, upd_o _ _ ne, upd_o _ _ ne]
      exact ⟨rfl, rfl⟩
theorem clsC {N : Nat → Int} (hV : Vl N) {num : Nat → Int32} (hn : ∀ j, j < 10 → num j = I (N j)) {S : Nat} (hS : stN N = S) {F : Nat → Option Nat} {p : Nat} {v : Nat → Nat} {o : Nat → Int32} (h : CY F S p v o) (lo : Int) (lo1 : -1 ≤ lo) (lo2 : lo ≤ 100) (t cm : Nat → Int32) (ht : ∀ q, q < p → t (v q) = -2) : ∃ t' cm', fX7_closeCycle (I (v 0 : Nat)) (I S) (I lo) num o t cm = some (I (lov (latN N) v lo p), t', cm') ∧ (∀ q, q < p → t' (v q) = 0 ∧ cm' (v q) = I (mnv v p : Nat)) ∧ ∀ c, (∀ q, q < p → v q ≠ c) → t' c = t c ∧ cm' c = cm c := by
  have sb := st_b hV
  have h0 := h.1
  have h1 := h.2.1
  have fe : FUEL = 99999 - p + p + 1 := by show 100000 = _; omega
  have e1 := clL7 hV hn hS h lo lo1 lo2 t cm p 0 (by omega) (99999 - p)
  obtain ⟨t', cm', e2, g1, g2⟩ := clL78 (S := S) (by omega) h (I (v 0 : Nat)) num (I (mnv v p : Nat)) (I (lov (latN N) v lo p)) p 0 (by omega) (99999 - p) t cm (fun q _ q2 => ht q q2) (fun q => absurd q (by omega))
  rw [← fe, if_pos h0, show I ((0 : Nat) : Int) = 0 from rfl] at e1 e2
  unfold fX7_closeCycle fX7_closeCycle_j75
  have e1' : fX7_closeCycle_L7 (I (v 0 : Nat)) (I S) num o FUEL (I (v 0 : Nat)) (I (v 0 : Nat)) 0 (I lo) t cm = _ := e1
  rw [e1', bnd3_some, e2, bnd2_some]
  exact ⟨t', cm', rfl, fun q q2 => g1 q (by omega) q2, fun c hc => g2 c fun q _ q2 => hc q q2⟩
/-- what a closed way is -/
theorem CY_it {F : Nat → Option Nat} {S p : Nat} {v : Nat → Nat} {o : Nat → Int32} (h : CY F S p v o) : ∀ (n q : Nat), q < p → ∃ r, r < p ∧ it F n (v q) = some (v r)
  | 0, q, hq => ⟨q, hq, rfl⟩
  | n + 1, q, hq => by
    rw [it_s (h.2.2.2.1 q hq)]
    by_cases c : q + 1 < p
    · rw [if_pos c]; exact CY_it h n (q + 1) c
    · rw [if_neg c]; exact CY_it h n 0 h.1
theorem CY_to {F : Nat → Option Nat} {S p : Nat} {v : Nat → Nat} {o : Nat → Int32} (h : CY F S p v o) : (∀ q, q < p → it F q (v 0) = some (v q)) ∧ ∀ q, q < p → it F (p - q) (v q) = some (v 0) := by
  have way : ∀ m, m + 1 < p → F (v m) = some (v (m + 1)) := fun m hm => by
    have := h.2.2.2.1 m (by omega)
    rwa [if_pos hm] at this
  refine ⟨fun q hq => ?_, fun q hq => ?_⟩
  · have := way_it way 0 q (by omega)
    rwa [Nat.zero_add] at this
  · have h1 := way_it way q (p - 1 - q) (by omega)
    rw [show q + (p - 1 - q) = p - 1 by omega] at h1
    have h2 := h.2.2.2.1 (p - 1) (by have := h.1; omega)
    rw [if_neg (by omega)] at h2
    have h3 := it_of (n := 1) h1 h2
    rwa [show p - 1 - q + 1 = p - q by omega] at h3
theorem CY_LD {F : Nat → Option Nat} {S p : Nat} {v : Nat → Nat} {o : Nat → Int32} (h : CY F S p v o) {q : Nat} (hq : q < p) : LD F (v q) (mnv v p) ∧ onC F (v q) ∧ mnv v p < S := by
  obtain ⟨h1, r, hr, er⟩ := mnv_p v p
  obtain ⟨t1, t2⟩ := CY_to h
  have hr' : r < p := by have := h.1; omega
  have oc : ∀ q, q < p → onC F (v q) := fun q hq => ⟨p - q + q, by have := h.1; omega, it_of (t2 q hq) (t1 q hq)⟩
  refine ⟨⟨⟨p - q + r, by rw [er]; exact it_of (t2 q hq) (t1 r hr')⟩, by rw [er]; exact oc r hr', fun n d hd => ?_⟩, oc q hq, by rw [er]; exact (h.2.2.1 r hr').1⟩
  rw [er] at hd
  obtain ⟨u, hu, eu⟩ := CY_it h n r hr'
  rw [hd] at eu
  rw [Option.some.inj eu]
  exact h1 u hu
