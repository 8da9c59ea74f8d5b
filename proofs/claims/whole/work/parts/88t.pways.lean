/-! Ways: what the class reads off -/
def PG (F : Nat → Option Nat) (S : Nat) (t o cm : Nat → Int32) : Prop := ∀ c, c < S → o c = I (enc (F c)) ∧ ((cm c = -1 ∧ stk F c) ∨ ∃ L u : Nat, L < S ∧ u ≤ S ∧ cm c = I L ∧ t c = I u ∧ LD F c L ∧ TL F c u)
theorem SF_PG {N : Nat → Int} (hV : Vl N) {x : Int} {S : Nat} (hS : stN N = S) {B : Nat} {as : Bool} {lo : Int} {t o cm : Nat → Int32} (h : SF N x S B as lo t o cm) : PG (nxt N x) S t o cm := fun c hc => by
  have hF : ∀ c, c < S → ∀ d, nxt N x c = some d → d < S := fun c hc => (nxt_e hV x hS hc).2
  rcases h.1.1 c hc with q | ⟨q, -⟩
  · exact absurd q (h.2 c hc)
  · refine ⟨q.1, ?_⟩
    rcases q.2 with ⟨a, b, -⟩ | ⟨L, u, a1, a2, a3, a4, a5, a6⟩
    · exact Or.inl ⟨a, b⟩
    · exact Or.inr ⟨L, u, a1, TL_le hF hc a6, a3, a4, a5, a6⟩
theorem isC8 {S c : Nat} (hS : S ≤ 1024) (hc : c < S) : fX7_is (I c) (I S) = some 1 := by
  have := isN8 hS (some c) (fun q hq => by rw [← Option.some.inj hq]; exact hc)
  exact this
theorem PG_s {F : Nat → Option Nat} {S : Nat} (hS : S ≤ 1024) {t o cm : Nat → Int32} (h : PG F S t o cm) {c : Nat} (hc : c < S) : (cm c = -1 ↔ stk F c) ∧ ∀ L : Nat, L < 100000 → (cm c = I L ↔ LD F c L) := by
  rcases (h c hc).2 with ⟨a, b⟩ | ⟨L, u, a1, a2, a3, a4, a5, a6⟩
  · refine ⟨⟨fun _ => b, fun _ => a⟩, fun L hL => ⟨fun q => ?_, fun q => absurd b (LD_stk q)⟩⟩
    rw [a, m1e, I_eq (by omega) (by omega) (by omega) (by omega)] at q
    omega
  · refine ⟨⟨fun q => ?_, fun q => absurd q (LD_stk a5)⟩, fun M hM => ⟨fun q => ?_, fun q => ?_⟩⟩
    · rw [a3, m1e, I_eq (by omega) (by omega) (by omega) (by omega)] at q
      omega
    · rw [a3] at q
      have := inj_I (by omega) hM q
      rw [← this]; exact a5
    · rw [a3, LD_one a5 q]
theorem iocX {F : Nat → Option Nat} {S : Nat} (hS : S ≤ 1024) {t o cm : Nat → Int32} (h : PG F S t o cm) {c : Nat} (hc : c < S) : fX7_isOnCycle (I c) (I S) t cm = some (if tr (onC F c) = true then 1 else 0) := by
  unfold fX7_isOnCycle
  rw [isC8 hS hc, bnd1_some, if_neg (c := (1 : Int32) = 0) (by decide), clN (show c < 100000 by omega)]
  simp only [if_neg (gK (show c < 1024 by omega))]
  rcases (h c hc).2 with ⟨a, b⟩ | ⟨L, u, a1, a2, a3, a4, a5, a6⟩
  · rw [if_pos a, tr_f (fun q => onC_ns q b), if_neg (by decide)]
  · rw [if_neg (by rw [a3, m1e, I_eq (by omega) (by omega) (by omega) (by omega)]; omega), a4]
    by_cases z : u = 0
    · rw [if_pos (by rw [z]; rfl), tr_t (TL_0.mp (z ▸ a6)), if_pos rfl]
    · rw [if_neg (by rw [L0, I_eq (by omega) (by omega) (by omega) (by omega)]; omega), tr_f (fun q => z (TL_one a6 (TL_0.mpr q))), if_neg (by decide)]
theorem upN (n : Nat) : I n + (1 : Int32) = I ((n + 1 : Nat) : Int) := by rw [L1, I_add]; rfl
theorem cfrX {S c : Nat} (hS : S ≤ 1024) (hc : c < S) (cm : Nat → Int32) : fX7_cycleFrom (I c) (I S) cm = some (cm c) ∧ fX7_tailFrom (I c) (I S) cm = some (cm c) := by
  unfold fX7_cycleFrom fX7_tailFrom
  rw [isC8 hS hc, bnd1_some, bnd1_some, if_neg (c := (1 : Int32) = 0) (by decide), if_neg (c := (1 : Int32) = 0) (by decide), clN (show c < 100000 by omega), if_neg (gK (show c < 1024 by omega))]
  exact ⟨rfl, rfl⟩
theorem nofL {F : Nat → Option Nat} {S : Nat} (hS : S ≤ 1024) {t o cm : Nat → Int32} (h : PG F S t o cm) {X : Nat} (hX : X ≤ S) : ∀ d i : Nat, i + d = X → ∀ f : Nat, fX7_numberOf_L4 (I X) (I S) cm (f + d + 1) (I (lsN F i : Nat)) (I i) = some (I (lsN F X : Nat)) := by
  intro d
  induction d with
  | zero =>
    intro i hi f
    have e : i = X := by omega
    subst e
    rw [show f + 0 + 1 = f + 1 by omega, fX7_numberOf_L4, if_pos (by rw [I_le (by omega) (by omega) (by omega) (by omega)]; omega)]
  | succ d ih =>
    intro i hi f
    have := ih (i + 1) (by omega) f
    rw [show f + (d + 1) + 1 = (f + d + 1) + 1 by omega, fX7_numberOf_L4, if_neg (by rw [I_le (by omega) (by omega) (by omega) (by omega)]; omega), isC8 hS (show i < S by omega), bnd1_some, if_neg (c := (1 : Int32) = 0) (by decide), clN (show i < 100000 by omega), if_neg (gK (show i < 1024 by omega)), upN, upN]
    by_cases z : cm i = I i
    · have q := ((PG_s hS h (show i < S by omega)).2 i (by omega)).mp z
      rw [if_pos z]
      have E : lsN F (i + 1) = lsN F i + 1 := by unfold lsN; rw [fb_ct_succ]; simp only [tr_t q, if_true]
      rw [E] at this; exact this
    · have q : ¬ LD F i i := fun q => z (((PG_s hS h (show i < S by omega)).2 i (by omega)).mpr q)
      rw [if_neg z]
      have E : lsN F (i + 1) = lsN F i := by unfold lsN; rw [fb_ct_succ]; simp [tr_f q]
      rw [E] at this; exact this
theorem nofX {F : Nat → Option Nat} {S : Nat} (hS : S ≤ 1024) {t o cm : Nat → Int32} (h : PG F S t o cm) {X : Nat} (hX : X ≤ S) : fX7_numberOf (I X) (I S) cm = some (I (lsN F X : Nat)) := by
  have := nofL hS h hX X 0 (by omega) (99999 - X)
  rw [show 99999 - X + X + 1 = FUEL by show _ = 100000; omega] at this
  unfold fX7_numberOf
  have this' : fX7_numberOf_L4 (I X) (I S) cm FUEL 0 0 = _ := this
  rw [this', bnd1_some]
theorem cynL {F : Nat → Option Nat} {S : Nat} (hS : S ≤ 1024) {t o cm : Nat → Int32} (h : PG F S t o cm) {X : Int} (X1 : -2147483648 ≤ X) (X2 : X < 2147483648) : ∀ d i : Nat, i + d = S → (∀ c, c < i → LD F c c → (lsN F c : Int) ≠ X) → ∀ f : Nat, (∃ c, c < S ∧ LD F c c ∧ (lsN F c : Int) = X ∧ fX7_cycleNumbered_L4 (I X) (I S) cm (f + d + 1) (I ((lsN F i : Int) - 1)) (I i) = some (.inl (I c))) ∨ (¬ (0 ≤ X ∧ X < lsN F S) ∧ fX7_cycleNumbered_L4 (I X) (I S) cm (f + d + 1) (I ((lsN F i : Int) - 1)) (I i) = some (.inr ())) := by
  intro d
  induction d with
  | zero =>
    intro i hi hp f
    have e : i = S := by omega
    subst e
    refine Or.inr ⟨fun q => ?_, ?_⟩
    · obtain ⟨k, k1, k2, k3⟩ := fb_ct_kth (p := fun c => tr (LD F c c)) (k := X.toNat) (n := i) (by have := q.2; unfold lsN at this; omega)
      refine hp k k1 (tr_e.mp k2) ?_
      unfold lsN
      omega
    · rw [show f + 0 + 1 = f + 1 by omega, fX7_cycleNumbered_L4, if_pos (by rw [I_le (by omega) (by omega) (by omega) (by omega)]; omega)]
  | succ d ih =>
    intro i hi hp f
    have hle : lsN F i ≤ i := fb_ct_le _ i
    have e1 : I ((lsN F i : Int) - 1) + (1 : Int32) = I (lsN F i : Nat) := by rw [L1, I_add]; congr 1; omega
    rw [show f + (d + 1) + 1 = (f + d + 1) + 1 by omega, fX7_cycleNumbered_L4, if_neg (by rw [I_le (by omega) (by omega) (by omega) (by omega)]; omega), isC8 hS (show i < S by omega), bnd1_some, if_neg (c := (1 : Int32) = 0) (by decide), clN (show i < 100000 by omega), if_neg (gK (show i < 1024 by omega)), e1, upN]
    by_cases z : cm i = I i
    · have q := ((PG_s hS h (show i < S by omega)).2 i (by omega)).mp z
      have E : lsN F (i + 1) = lsN F i + 1 := by unfold lsN; rw [fb_ct_succ]; simp only [tr_t q, if_true]
      rw [if_pos z]
      by_cases y : (lsN F i : Int) = X
      · rw [if_pos (by rw [y])]
        exact Or.inl ⟨i, by omega, q, y, rfl⟩
      · rw [if_neg (by rw [I_eq (by omega) (by omega) (by omega) (by omega)]; exact y)]
        have := ih (i + 1) (by omega) (fun c hc hL => by
          by_cases w : c = i
          · rw [w]; exact y
          · exact hp c (by omega) hL) f
        rw [E, show ((lsN F i + 1 : Nat) : Int) - 1 = (lsN F i : Nat) by omega] at this
        exact this
    · have q : ¬ LD F i i := fun q => z (((PG_s hS h (show i < S by omega)).2 i (by omega)).mpr q)
      have E : lsN F (i + 1) = lsN F i := by unfold lsN; rw [fb_ct_succ]; simp [tr_f q]
      rw [if_neg z]
      have := ih (i + 1) (by omega) (fun c hc hL => by
          by_cases w : c = i
          · rw [w] at hL; exact absurd hL q
          · exact hp c (by omega) hL) f
      rw [E] at this
      exact this
theorem cynX {F : Nat → Option Nat} {S : Nat} (hS : S ≤ 1024) {t o cm : Nat → Int32} (h : PG F S t o cm) {X : Int} (X1 : -2147483648 ≤ X) (X2 : X < 2147483648) : (∃ c, c < S ∧ LD F c c ∧ (lsN F c : Int) = X ∧ (0 ≤ X ∧ X < lsN F S) ∧ fX7_cycleNumbered (I X) (I S) cm = some (I c)) ∨ (¬ (0 ≤ X ∧ X < lsN F S) ∧ fX7_cycleNumbered (I X) (I S) cm = some (-1)) := by
  have := cynL hS h X1 X2 S 0 (by omega) (fun c hc => absurd hc (by omega)) (99999 - S)
  rw [show 99999 - S + S + 1 = FUEL by show _ = 100000; omega] at this
  have e0 : I (((lsN F 0 : Nat) : Int) - 1) = (-1 : Int32) := by rw [m1e]; rfl
  rw [e0, show I ((0 : Nat) : Int) = 0 from rfl] at this
  unfold fX7_cycleNumbered
  rcases this with ⟨c, c1, c2, c3, c4⟩ | ⟨c1, c2⟩
  · rw [c4]
    have s1 := fb_ct_mono (fun c => tr (LD F c c)) (show c + 1 ≤ S by omega)
    rw [fb_ct_succ] at s1
    simp only [tr_t c2, if_true] at s1
    exact Or.inl ⟨c, c1, c2, c3, ⟨by omega, by unfold lsN at c3 ⊢; omega⟩, rfl⟩
  · rw [c2]
    exact Or.inr ⟨c1, rfl⟩
theorem perL {F : Nat → Option Nat} {S : Nat} (hS : S ≤ 1024) {t o cm : Nat → Int32} (h : PG F S t o cm) {L : Nat} (hL : L < S) : ∀ d i : Nat, i + d = S → ∀ f : Nat, fX7_periodOf_L4 (I L) (I S) t cm (f + d + 1) (I (cyN F i L : Nat)) (I i) = some (I (cyN F S L : Nat)) := by
  intro d
  induction d with
  | zero =>
    intro i hi f
    have e : i = S := by omega
    subst e
    rw [show f + 0 + 1 = f + 1 by omega, fX7_periodOf_L4, if_pos (by rw [I_le (by omega) (by omega) (by omega) (by omega)]; omega)]
  | succ d ih =>
    intro i hi f
    have := ih (i + 1) (by omega) f
    rw [show f + (d + 1) + 1 = (f + d + 1) + 1 by omega, fX7_periodOf_L4, if_neg (by rw [I_le (by omega) (by omega) (by omega) (by omega)]; omega), iocX hS h (show i < S by omega), bnd1_some, clN (show i < 100000 by omega), if_neg (gK (show i < 1024 by omega)), upN, upN]
    by_cases oc : onC F i
    · rw [tr_t oc, if_pos rfl, if_neg (c := (1 : Int32) = 0) (by decide)]
      by_cases z : cm i = I L
      · have q := ((PG_s hS h (show i < S by omega)).2 L (by omega)).mp z
        have E : cyN F (i + 1) L = cyN F i L + 1 := by unfold cyN; rw [fb_ct_succ]; simp only [tr_t (show onC F i ∧ LD F i L from ⟨oc, q⟩), if_true]
        rw [if_pos z]
        rw [E] at this; exact this
      · have q : ¬ (onC F i ∧ LD F i L) := fun q => z (((PG_s hS h (show i < S by omega)).2 L (by omega)).mpr q.2)
        have E : cyN F (i + 1) L = cyN F i L := by unfold cyN; rw [fb_ct_succ]; simp [tr_f q]
        rw [if_neg z]
        rw [E] at this; exact this
    · have q : ¬ (onC F i ∧ LD F i L) := fun q => oc q.1
      have E : cyN F (i + 1) L = cyN F i L := by unfold cyN; rw [fb_ct_succ]; simp [tr_f q]
      rw [tr_f oc, if_neg (c := false = true) (by decide), if_pos rfl]
      rw [E] at this; exact this
theorem perX {F : Nat → Option Nat} {S : Nat} (hS : S ≤ 1024) {t o cm : Nat → Int32} (h : PG F S t o cm) {L : Nat} (hL : L < S) : fX7_periodOf (I L) (I S) t cm = some (I (cyN F S L : Nat)) := by
  have := perL hS h hL S 0 (by omega) (99999 - S)
  rw [show 99999 - S + S + 1 = FUEL by show _ = 100000; omega] at this
  unfold fX7_periodOf
  have this' : fX7_periodOf_L4 (I L) (I S) t cm FUEL 0 0 = _ := this
  rw [this', bnd1_some]
