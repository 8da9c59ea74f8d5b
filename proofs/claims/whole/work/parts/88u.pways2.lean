/-! Ways: what the class reads off, the rest -/
theorem ampL {N : Nat → Int} (hV : Vl N) {num : Nat → Int32} (hn : ∀ j, j < 10 → num j = I (N j)) {S : Nat} (hSN : stN N = S) {F : Nat → Option Nat} {t o cm : Nat → Int32} (h : PG F S t o cm) {L : Nat} (hL : L < S) : ∀ d i : Nat, i + d = S → ∀ (f m : Nat), m ≤ 100 → Mx (fun c => c < i ∧ onC F c ∧ LD F c L) (fun c => (latN N c).natAbs) m → ∃ m' : Nat, fX7_amplitudeOf_L4 (I L) (I S) num t cm (f + d + 1) (I m) (I i) = some (I m') ∧ m' ≤ 100 ∧ Mx (fun c => c < S ∧ onC F c ∧ LD F c L) (fun c => (latN N c).natAbs) m' := by
  intro d
  have sb := st_b hV
  induction d with
  | zero =>
    intro i hi f m hm hx
    have e : i = S := by omega
    subst e
    rw [show f + 0 + 1 = f + 1 by omega, fX7_amplitudeOf_L4, if_pos (by rw [I_le (by omega) (by omega) (by omega) (by omega)]; omega)]
    exact ⟨m, rfl, hm, hx⟩
  | succ d ih =>
    intro i hi f m hm hx
    have hl := latN_b hV i
    have skip : ¬ (onC F i ∧ LD F i L) → Mx (fun c => c < i + 1 ∧ onC F c ∧ LD F c L) (fun c => (latN N c).natAbs) m := fun q => Mx_c (fun c => ⟨fun ⟨a, b⟩ => ⟨by omega, b⟩, fun ⟨a, b⟩ => ⟨by
      by_cases w : c = i
      · rw [w] at b; exact absurd b q
      · omega, b⟩⟩) hx
    rw [show f + (d + 1) + 1 = (f + d + 1) + 1 by omega, fX7_amplitudeOf_L4, if_neg (by rw [I_le (by omega) (by omega) (by omega) (by omega)]; omega), iocX (by omega) h (show i < S by omega), bnd1_some, clN (show i < 100000 by omega), if_neg (gK (show i < 1024 by omega)), upN]
    by_cases oc : onC F i
    · rw [tr_t oc, if_pos rfl, if_neg (c := (1 : Int32) = 0) (by decide)]
      by_cases z : cm i = I L
      · have q := ((PG_s (by omega) h (show i < S by omega)).2 L (by omega)).mp z
        have e1 := abs16 (latN N i) (by omega) (by omega)
        have e0 : fX3_latestIn (I i) num = some (I (latN N i)) := ltn8 hV hn (i : Int) (by omega) (by omega)
        have e2 : (if I m < I ((latN N i).natAbs : Nat) then I ((latN N i).natAbs : Nat) else I m) = I (if m < (latN N i).natAbs then (latN N i).natAbs else m : Nat) := by
          by_cases c : m < (latN N i).natAbs
          · rw [if_pos c, if_pos (by rw [I_lt (by omega) (by omega) (by omega) (by omega)]; omega)]
          · rw [if_neg c, if_neg (by rw [I_lt (by omega) (by omega) (by omega) (by omega)]; omega)]
        rw [if_pos z, e0, bnd1_some, e1, e2]
        refine ih (i + 1) (by omega) f _ (by split <;> omega) (Mx_a (R := fun c => c = i) (fun c => ?_) hx ⟨fun c hc => by rw [hc]; exact Nat.le_refl _, Or.inr ⟨i, rfl, rfl⟩⟩)
        constructor
        · rintro ⟨a, b⟩
          by_cases w : c = i
          · exact Or.inr w
          · exact Or.inl ⟨by omega, b⟩
        · rintro (⟨a, b⟩ | rfl)
          · exact ⟨by omega, b⟩
          · exact ⟨by omega, oc, q⟩
      · rw [if_neg z]
        exact ih (i + 1) (by omega) f m hm (skip fun q => z (((PG_s (by omega) h (show i < S by omega)).2 L (by omega)).mpr q.2))
    · rw [tr_f oc, if_neg (c := false = true) (by decide), if_pos rfl]
      exact ih (i + 1) (by omega) f m hm (skip fun q => oc q.1)
theorem ampX {N : Nat → Int} (hV : Vl N) {num : Nat → Int32} (hn : ∀ j, j < 10 → num j = I (N j)) {S : Nat} (hSN : stN N = S) {x : Int} {t o cm : Nat → Int32} (h : PG (nxt N x) S t o cm) {L : Nat} (hL : L < S) {m : Nat} (hm : Mx (fun c => onC (nxt N x) c ∧ LD (nxt N x) c L) (fun c => (latN N c).natAbs) m) : fX7_amplitudeOf (I L) (I S) num t cm = some (I m) := by
  have sb := st_b hV
  have hF : ∀ c, c < S → ∀ d, nxt N x c = some d → d < S := fun c hc => (nxt_e hV x hSN hc).2
  obtain ⟨m', e, -, hx⟩ := ampL hV hn hSN h hL S 0 (by omega) (99999 - S) 0 (by omega) ⟨fun c hc => absurd hc.1 (by omega), Or.inl rfl⟩
  rw [show 99999 - S + S + 1 = FUEL by show _ = 100000; omega] at e
  have em : m' = m := Mx_one (Mx_c (fun c => ⟨fun q => q.2, fun q => ⟨by
    obtain ⟨⟨n, e1⟩, -⟩ := q.2
    obtain ⟨-, k, e2⟩ := onC_fw q.1 e1
    exact it_lt hF hL k c e2, q⟩⟩) hx) hm
  subst em
  unfold fX7_amplitudeOf
  have e' : fX7_amplitudeOf_L4 (I L) (I S) num t cm FUEL 0 0 = _ := e
  rw [e', bnd1_some]
theorem basL {S : Nat} (hS : S ≤ 1024) {cm : Nat → Int32} {Q : Nat → Prop} {v : Int32} (h : ∀ c, c < S → (cm c = v ↔ Q c)) : ∀ d i : Nat, i + d = S → ∀ f : Nat, fX7_basinOf_L4 v (I S) cm (f + d + 1) (I (fb_ct (fun c => tr (Q c)) i : Nat)) (I i) = some (I (fb_ct (fun c => tr (Q c)) S : Nat)) := by
  intro d
  induction d with
  | zero =>
    intro i hi f
    have e : i = S := by omega
    subst e
    rw [show f + 0 + 1 = f + 1 by omega, fX7_basinOf_L4, if_pos (by rw [I_le (by omega) (by omega) (by omega) (by omega)]; omega)]
  | succ d ih =>
    intro i hi f
    have := ih (i + 1) (by omega) f
    rw [show f + (d + 1) + 1 = (f + d + 1) + 1 by omega, fX7_basinOf_L4, if_neg (by rw [I_le (by omega) (by omega) (by omega) (by omega)]; omega), isC8 hS (show i < S by omega), bnd1_some, if_neg (c := (1 : Int32) = 0) (by decide), clN (show i < 100000 by omega), if_neg (gK (show i < 1024 by omega)), upN, upN]
    by_cases z : cm i = v
    · have q := (h i (by omega)).mp z
      rw [if_pos z]
      rw [fb_ct_succ, tr_t q, if_pos rfl] at this; exact this
    · have q : ¬ Q i := fun q => z ((h i (by omega)).mpr q)
      rw [if_neg z]
      rw [fb_ct_succ, tr_f q, if_neg (by decide), Nat.add_zero] at this; exact this
theorem basX {S : Nat} (hS : S ≤ 1024) {cm : Nat → Int32} {Q : Nat → Prop} {v : Int32} (h : ∀ c, c < S → (cm c = v ↔ Q c)) : fX7_basinOf v (I S) cm = some (I (fb_ct (fun c => tr (Q c)) S : Nat)) := by
  have := basL hS h S 0 (by omega) (99999 - S)
  rw [show 99999 - S + S + 1 = FUEL by show _ = 100000; omega] at this
  unfold fX7_basinOf
  have this' : fX7_basinOf_L4 v (I S) cm FUEL 0 0 = _ := this
  rw [this', bnd1_some]
theorem howL {F : Nat → Option Nat} {S : Nat} (hS : S ≤ 1024) {t o cm : Nat → Int32} (h : PG F S t o cm) : ∀ d i : Nat, i + d = S → ∀ f : Nat, fX7_howManyOnCycles_L4 (I S) t cm (f + d + 1) (I (fb_ct (fun c => tr (onC F c)) i : Nat)) (I i) = some (I (fb_ct (fun c => tr (onC F c)) S : Nat)) := by
  intro d
  induction d with
  | zero =>
    intro i hi f
    have e : i = S := by omega
    subst e
    rw [show f + 0 + 1 = f + 1 by omega, fX7_howManyOnCycles_L4, if_pos (by rw [I_le (by omega) (by omega) (by omega) (by omega)]; omega)]
  | succ d ih =>
    intro i hi f
    have := ih (i + 1) (by omega) f
    rw [show f + (d + 1) + 1 = (f + d + 1) + 1 by omega, fX7_howManyOnCycles_L4, if_neg (by rw [I_le (by omega) (by omega) (by omega) (by omega)]; omega), iocX hS h (show i < S by omega), bnd1_some, upN, upN]
    by_cases oc : onC F i
    · rw [tr_t oc, if_pos rfl, if_neg (c := (1 : Int32) = 0) (by decide)]
      rw [fb_ct_succ, tr_t oc, if_pos rfl] at this; exact this
    · rw [tr_f oc, if_neg (c := false = true) (by decide), if_pos rfl]
      rw [fb_ct_succ, tr_f oc, if_neg (by decide), Nat.add_zero] at this; exact this
theorem howX {F : Nat → Option Nat} {S : Nat} (hS : S ≤ 1024) {t o cm : Nat → Int32} (h : PG F S t o cm) : fX7_howManyOnCycles (I S) t cm = some (I (fb_ct (fun c => tr (onC F c)) S : Nat)) := by
  have := howL hS h S 0 (by omega) (99999 - S)
  rw [show 99999 - S + S + 1 = FUEL by show _ = 100000; omega] at this
  unfold fX7_howManyOnCycles
  have this' : fX7_howManyOnCycles_L4 (I S) t cm FUEL 0 0 = _ := this
  rw [this', bnd1_some]
theorem lgtL {F : Nat → Option Nat} {S : Nat} (hS : S ≤ 1024) {t o cm : Nat → Int32} (h : PG F S t o cm) : ∀ d i : Nat, i + d = S → ∀ (f m : Nat), m ≤ S → Mv (fun u => ∃ c, c < i ∧ TL F c u) m → ∃ m' : Nat, fX7_longestTail_L4 (I S) t cm (f + d + 1) (I m) (I i) = some (I m') ∧ Mv (fun u => ∃ c, c < S ∧ TL F c u) m' := by
  intro d
  induction d with
  | zero =>
    intro i hi f m hm hx
    have e : i = S := by omega
    subst e
    rw [show f + 0 + 1 = f + 1 by omega, fX7_longestTail_L4, if_pos (by rw [I_le (by omega) (by omega) (by omega) (by omega)]; omega)]
    exact ⟨m, rfl, hx⟩
  | succ d ih =>
    intro i hi f m hm hx
    rw [show f + (d + 1) + 1 = (f + d + 1) + 1 by omega, fX7_longestTail_L4, if_neg (by rw [I_le (by omega) (by omega) (by omega) (by omega)]; omega), isC8 hS (show i < S by omega), bnd1_some, if_neg (c := (1 : Int32) = 0) (by decide), clN (show i < 100000 by omega)]
    simp only [if_neg (gK (show i < 1024 by omega))]
    rw [upN]
    rcases (h i (by omega)).2 with ⟨a, b⟩ | ⟨L, u, a1, a2, a3, a4, a5, a6⟩
    · rw [if_pos a]
      exact ih (i + 1) (by omega) f m hm (Mv_c (fun u => ⟨fun ⟨c, c1, c2⟩ => ⟨c, by omega, c2⟩, fun ⟨c, c1, c2⟩ => ⟨c, by
        by_cases w : c = i
        · rw [w] at c2; exact absurd b (TL_ns c2)
        · omega, c2⟩⟩) hx)
    · have e2 : (if I m < I u then I u else I m) = I (if m < u then u else m : Nat) := by
        by_cases c : m < u
        · rw [if_pos c, if_pos (by rw [I_lt (by omega) (by omega) (by omega) (by omega)]; omega)]
        · rw [if_neg c, if_neg (by rw [I_lt (by omega) (by omega) (by omega) (by omega)]; omega)]
      rw [if_neg (by rw [a3, m1e, I_eq (by omega) (by omega) (by omega) (by omega)]; omega), a4, e2]
      refine ih (i + 1) (by omega) f _ (by split <;> omega) (Mv_a (fun w => ?_) hx)
      constructor
      · rintro ⟨c, c1, c2⟩
        by_cases z : c = i
        · rw [z] at c2; exact Or.inr (TL_one c2 a6)
        · exact Or.inl ⟨c, by omega, c2⟩
      · rintro (⟨c, c1, c2⟩ | rfl)
        · exact ⟨c, by omega, c2⟩
        · exact ⟨i, by omega, a6⟩
theorem lgtX {F : Nat → Option Nat} {S : Nat} (hS : S ≤ 1024) {t o cm : Nat → Int32} (h : PG F S t o cm) {m : Nat} (hm : Mv (fun u => ∃ c, c < S ∧ TL F c u) m) : fX7_longestTail (I S) t cm = some (I m) := by
  obtain ⟨m', e, hx⟩ := lgtL hS h S 0 (by omega) (99999 - S) 0 (by omega) ⟨fun u ⟨c, c1, _⟩ => absurd c1 (by omega), Or.inl rfl⟩
  rw [show 99999 - S + S + 1 = FUEL by show _ = 100000; omega] at e
  have em := Mv_one hx hm
  subst em
  unfold fX7_longestTail
  have e' : fX7_longestTail_L4 (I S) t cm FUEL 0 0 = _ := e
  rw [e', bnd1_some]
theorem lodX {N : Nat → Int} (hV : Vl N) {x : Int} {S : Nat} (hS : stN N = S) {B : Nat} {as : Bool} {lo : Int} {t o cm : Nat → Int32} (h : SF N x S B as lo t o cm) {m : Nat} (hm : Mx (fun d => d < S ∧ onC (nxt N x) d) (fun d => (latN N d).natAbs) m) : fX7_loudestOfAll (I lo) = some (if lsN (nxt N x) S = 0 then 99 else I m) ∧ (lo = -1 ↔ lsN (nxt N x) S = 0) ∧ (lsN (nxt N x) S ≠ 0 → lo = m) ∧ -1 ≤ lo ∧ lo ≤ 100 := by
  have hF : ∀ c, c < S → ∀ d, nxt N x c = some d → d < S := fun c hc => (nxt_e hV x hS hc).2
  have hP := SF_PG hV hS h
  obtain ⟨⟨-, h2, h3, h4, h5, h6⟩, h7⟩ := h
  have hz : lo = -1 ↔ lsN (nxt N x) S = 0 := by
    constructor
    · intro e
      refine fb_ct_zero.mpr fun c hc => tr_f fun q => ?_
      have := h5 c hc (h7 c hc) q.2.1
      omega
    · intro e
      rcases h6 with q | ⟨c, c1, c2, c3, c4⟩
      · exact q
      · exfalso
        rcases (hP c c1).2 with ⟨-, b⟩ | ⟨L, u, a1, a2, a3, a4, a5, a6⟩
        · exact onC_ns c3 b
        · have := fb_ct_zero.mp e L a1
          simp only [tr_t (show LD (nxt N x) L L from ⟨⟨0, rfl⟩, a5.2⟩)] at this
          exact absurd this (by decide)
  have hl : lsN (nxt N x) S ≠ 0 → lo = m := fun e => by
    have hne : lo ≠ -1 := fun q => e (hz.mp q)
    have : Mx (fun d => d < S ∧ onC (nxt N x) d) (fun d => (latN N d).natAbs) lo.toNat := ⟨fun c hc => by
      have := h5 c hc.1 (h7 c hc.1) hc.2
      show (latN N c).natAbs ≤ _
      omega, by
      rcases h6 with q | ⟨c, c1, c2, c3, c4⟩
      · exact absurd q hne
      · exact Or.inr ⟨c, ⟨c1, c3⟩, by show _ = (latN N c).natAbs; omega⟩⟩
    have := Mx_one this hm
    omega
  refine ⟨?_, hz, hl, h3, h4⟩
  unfold fX7_loudestOfAll
  by_cases e : lsN (nxt N x) S = 0
  · rw [if_pos e, hz.mpr e, if_neg (by decide +kernel)]
  · have := hl e
    rw [if_neg e, if_pos (by rw [L0, I_le (by omega) (by omega) (by omega) (by omega)]; omega), this]
theorem behL {F : Nat → Option Nat} {S : Nat} (hS : S ≤ 1024) (hF : ∀ c, c < S → ∀ d, F c = some d → d < S) {t o cm : Nat → Int32} (h : PG F S t o cm) (a b : Int32) {k : Nat} (hk : k ≤ 1024) : ∀ d i : Nat, i + d = k → ∀ (f c e : Nat), c < S → it F d c = some e → fX7_behindOnCycle_L25 a b (I S) o t cm (f + d + 1) (I k) (I c) (I i) = some (I e) := by
  intro d
  induction d with
  | zero =>
    intro i hi f c e hc he
    have ec : c = e := Option.some.inj he
    rw [show f + 0 + 1 = f + 1 by omega, fX7_behindOnCycle_L25, if_pos (by rw [I_le (by omega) (by omega) (by omega) (by omega)]; omega), ec]
  | succ d ih =>
    intro i hi f c e hc he
    obtain ⟨u, hu⟩ := it_pre he (show 1 ≤ d + 1 by omega)
    rw [it_1] at hu
    rw [it_s hu] at he
    rw [show f + (d + 1) + 1 = (f + d + 1) + 1 by omega, fX7_behindOnCycle_L25, if_neg (by rw [I_le (by omega) (by omega) (by omega) (by omega)]; omega), isC8 hS hc, bnd1_some, if_neg (c := (1 : Int32) = 0) (by decide), clN (show c < 100000 by omega), if_neg (gK (show c < 1024 by omega)), upN, (h c hc).1, hu]
    exact ih (i + 1) (by omega) f u e (hF c hc u hu) he
theorem cyN_p {F : Nat → Option Nat} {S L : Nat} (hL : L < S) (h : LD F L L) : 0 < cyN F S L ∧ cyN F S L ≤ S := ⟨fb_ct_pos.mpr ⟨L, hL, tr_t ⟨h.2.1, h⟩⟩, fb_ct_le _ S⟩
