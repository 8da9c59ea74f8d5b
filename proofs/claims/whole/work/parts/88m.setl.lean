/-! Ways: what is settled is right -/
def gd (F : Nat → Option Nat) (S B : Nat) (t o cm : Nat → Int32) (c : Nat) : Prop := o c = I (enc (F c)) ∧ ((cm c = -1 ∧ stk F c ∧ ∃ u : Nat, u ≤ B ∧ t c = I u) ∨ ∃ L u : Nat, L < S ∧ u ≤ B ∧ cm c = I L ∧ t c = I u ∧ LD F c L ∧ TL F c u)
def SI (F : Nat → Option Nat) (S : Nat) (lat : Nat → Int) (B : Nat) (as : Bool) (lo : Int) (t o cm : Nat → Int32) : Prop :=
  (∀ c, c < S → t c = -1 ∨ (gd F S B t o cm c ∧ ∀ d, F c = some d → t d ≠ -1)) ∧ (as = true ↔ ∃ c, c < S ∧ t c ≠ -1 ∧ stk F c) ∧ -1 ≤ lo ∧ lo ≤ 100 ∧ (∀ c, c < S → t c ≠ -1 → onC F c → ((lat c).natAbs : Int) ≤ lo) ∧ (lo = -1 ∨ ∃ c, c < S ∧ t c ≠ -1 ∧ onC F c ∧ lo = (lat c).natAbs)
theorem gd_t {F : Nat → Option Nat} {S B : Nat} {t o cm : Nat → Int32} {c : Nat} (h : gd F S B t o cm c) (hB : B ≤ 4000000) : ∃ u : Nat, u ≤ B ∧ t c = I u ∧ t c ≠ -1 ∧ t c ≠ -2 := by
  have key : ∀ u : Nat, u ≤ B → t c = I u → ∃ u : Nat, u ≤ B ∧ t c = I u ∧ t c ≠ -1 ∧ t c ≠ -2 := by
    intro u hu e
    refine ⟨u, hu, e, ?_, ?_⟩
    · rw [e, m1e]; intro q; rw [I_eq (by omega) (by omega) (by omega) (by omega)] at q; omega
    · rw [e, m2e]; intro q; rw [I_eq (by omega) (by omega) (by omega) (by omega)] at q; omega
  rcases h.2 with ⟨-, -, u, hu, e⟩ | ⟨L, u, -, hu, -, e, -⟩
  · exact key u hu e
  · exact key u hu e
theorem gd_w {F : Nat → Option Nat} {S B B' : Nat} {t o cm t' o' cm' : Nat → Int32} {c : Nat} (h : gd F S B t o cm c) (hB : B ≤ B') (e1 : t' c = t c) (e2 : o' c = o c) (e3 : cm' c = cm c) : gd F S B' t' o' cm' c := by
  unfold gd
  rw [e1, e2, e3]
  refine ⟨h.1, ?_⟩
  rcases h.2 with ⟨a, b, u, hu, e⟩ | ⟨L, u, a, hu, b, e, d⟩
  · exact Or.inl ⟨a, b, u, by omega, e⟩
  · exact Or.inr ⟨L, u, a, by omega, b, e, d⟩
theorem gd_cm {F : Nat → Option Nat} {S B : Nat} {t o cm : Nat → Int32} {c : Nat} (h : gd F S B t o cm c) (hS : S ≤ 1024) : ∃ cyc : Int, cm c = I cyc ∧ -1 ≤ cyc ∧ cyc ≤ 1024 ∧ (cyc = -1 → stk F c) ∧ (cyc ≠ -1 → ∃ L : Nat, cyc = L ∧ L < S ∧ LD F c L) := by
  rcases h.2 with ⟨a, b, -⟩ | ⟨L, u, a, hu, b, e, d, -⟩
  · exact ⟨-1, by rw [a, m1e], by omega, by omega, fun _ => b, fun q => absurd rfl q⟩
  · exact ⟨L, b, by omega, by omega, fun q => by omega, fun _ => ⟨L, rfl, a, d⟩⟩
theorem finJ {F : Nat → Option Nat} {S : Nat} (hS : S ≤ 1024) {lat : Nat → Int} {B : Nat} (hB : B ≤ 2000000) {as : Bool} {lo : Int} {t0 o0 cm0 : Nat → Int32} (hSI : SI F S lat B as lo t0 o0 cm0) {start j : Nat} {w : Nat → Nat} {cur : Option Nat} {t1 o1 : Nat → Int32} (hK : WK F S start j w cur t0 o0 t1 o1)
    {s : Nat} (hsj : s ≤ j) {t2 cm2 : Nat → Int32} (hout : ∀ c, (∀ m, m < j → w m ≠ c) → t2 c = t0 c ∧ cm2 c = cm0 c) (hcy : ∀ m, s ≤ m → m < j → t2 (w m) = 0 ∧ onC F (w m) ∧ (∃ L : Nat, cm2 (w m) = I L ∧ L < S ∧ LD F (w m) L) ∧ ∀ d, F (w m) = some d → ∃ m', s ≤ m' ∧ m' < j ∧ w m' = d)
    {cur2 : Option Nat} (hWY : WY F S start s w cur2 o1) (hcur : ∀ e, cur2 = some e → ((∀ m, m < j → w m ≠ e) ∧ t0 e ≠ -1) ∨ ∃ m, s ≤ m ∧ m < j ∧ w m = e)
    {cyc tl : Int} (hct : (cur2 = none ∧ cyc = -1 ∧ tl = s) ∨ (∃ c tc, cur2 = some c ∧ cm2 c = I cyc ∧ t2 c = I tc ∧ tl = tc + s)) (hcb : -1 ≤ cyc ∧ cyc ≤ 1024) (htc : ∀ c tc, cur2 = some c → t2 c = I tc → tl = tc + s → 0 ≤ tc ∧ tc ≤ B)
    {t3 cm3 : Nat → Int32} (h3 : ∀ m, m < s → t3 (w m) = I (tl - m) ∧ cm3 (w m) = I cyc) (h4 : ∀ c, (∀ m, m < s → w m ≠ c) → t3 c = t2 c ∧ cm3 c = cm2 c)
    {lo2 : Int} (l1 : lo ≤ lo2) (l2 : lo2 ≤ 100) (l3 : ∀ m, s ≤ m → m < j → ((lat (w m)).natAbs : Int) ≤ lo2) (l4 : lo2 = lo ∨ ∃ m, s ≤ m ∧ m < j ∧ lo2 = (lat (w m)).natAbs) (hst : start < S) (hFS : ∀ c d, c < S → F c = some d → d < S) :
    SI F S lat (B + 1024) (as || decide (cyc = -1)) lo2 t3 o1 cm3 ∧ t3 start ≠ -1 ∧ ∀ c, c < S → t0 c ≠ -1 → t3 c ≠ -1 := by
  obtain ⟨s1, s2, s3, s4, s5, s6⟩ := hSI
  obtain ⟨k1, k2, k3, k4, k5, k6, k7⟩ := hK
  have D : ∀ c, c < S → (((∀ m, m < j → w m ≠ c) ∧ t0 c ≠ -1) ∨ ∃ m, s ≤ m ∧ m < j ∧ w m = c) → gd F S B t2 o1 cm2 c ∧ (∀ d, F c = some d → d < S ∧ (((∀ m, m < j → w m ≠ d) ∧ t0 d ≠ -1) ∨ ∃ m, s ≤ m ∧ m < j ∧ w m = d)) := by
    intro c hc h
    rcases h with ⟨h1, h2⟩ | ⟨m, m1, m2, rfl⟩
    · rcases s1 c hc with q | ⟨q1, q2⟩
      · exact absurd q h2
      · refine ⟨gd_w q1 (Nat.le_refl _) (hout c h1).1 (k7 c h1).2 (hout c h1).2, fun d hd => ⟨hFS c d hc hd, Or.inl ⟨fun m hm e => ?_, q2 d hd⟩⟩⟩
        exact q2 d hd (by rw [← e]; exact (k2 m hm).2.1)
    · obtain ⟨a1, a2, ⟨L, a3, a4, a5⟩, a6⟩ := hcy m m1 m2
      refine ⟨⟨(k2 m m2).2.2.2, Or.inr ⟨L, 0, a4, by omega, a3, by rw [a1]; rfl, a5, TL_0.mpr a2⟩⟩, fun d hd => ⟨hFS _ d hc hd, Or.inr (a6 d hd)⟩⟩
  have Dit : ∀ (n c d : Nat), c < S → (((∀ m, m < j → w m ≠ c) ∧ t0 c ≠ -1) ∨ ∃ m, s ≤ m ∧ m < j ∧ w m = c) → it F n c = some d → d < S ∧ (((∀ m, m < j → w m ≠ d) ∧ t0 d ≠ -1) ∨ ∃ m, s ≤ m ∧ m < j ∧ w m = d) := by
    intro n
    induction n with
    | zero =>
      intro c d hc h e
      have : c = d := Option.some.inj e
      rw [← this]; exact ⟨hc, h⟩
    | succ n ih =>
      intro c d hc h e
      cases hF : F c with
      | none =>
        have e2 := it_no (m := 1) (c := c) hF n
        rw [Nat.add_comm, e] at e2
        exact absurd e2 (by simp)
      | some c' =>
        rw [it_s hF] at e
        obtain ⟨b1, b2⟩ := (D c hc h).2 c' hF
        exact ih c' d b1 b2 e
  have hs1 := hWY.1
  have tlb : 0 ≤ tl - s ∧ tl ≤ B + 1024 := by
    rcases hct with ⟨-, -, e⟩ | ⟨c, tc, e1, -, e3, e4⟩
    · omega
    · have := htc c tc e1 e3 e4; omega
  -- the way itself
  have nx1 : ∀ m, m < s → F (w m) = wy w s cur2 (m + 1) := fun m hm => wy_n hWY hm
  have wit : ∀ k m, m + k = s → 0 < k → it F k (w m) = cur2 := by
    intro k
    induction k with
    | zero => intro m _ h; omega
    | succ k ih =>
      intro m hm _
      have e := nx1 m (by omega)
      unfold wy at e
      by_cases c : m + 1 < s
      · rw [if_pos c] at e
        rw [it_s e]
        exact ih (m + 1) (by omega) (by omega)
      · rw [if_neg c] at e
        have k0 : k = 0 := by omega
        subst k0
        rw [show 0 + 1 = 1 from rfl, it_1, e]
  have notD : ∀ m, m < s → ¬ (((∀ q, q < j → w q ≠ w m) ∧ t0 (w m) ≠ -1) ∨ ∃ q, s ≤ q ∧ q < j ∧ w q = w m) := by
    rintro m hm (⟨q, -⟩ | ⟨q, q1, q2, q3⟩)
    · exact q m (by omega) rfl
    · exact k5 m q (by omega) q2 q3.symm
  have nonC : ∀ m, m < s → ¬ onC F (w m) := by
    intro m hm ho
    have e := wit (s - m) m (by omega) (by omega)
    cases hc : cur2 with
    | none =>
      rw [hc] at e
      obtain ⟨d, hd⟩ := onC_some ho (s - m)
      rw [e] at hd
      exact absurd hd (by simp)
    | some e1 =>
      rw [hc] at e
      obtain ⟨-, n, hn⟩ := onC_fw ho e
      have he1 := hWY.2.2.2.2.2 e1 hc
      exact notD m hm (Dit n e1 (w m) he1 (hcur e1 hc) hn).2
  have right : ∀ k m, m + k = s → 0 < k → (cyc = -1 ∧ stk F (w m)) ∨ (∃ L : Nat, cyc = L ∧ L < S ∧ LD F (w m) L ∧ TL F (w m) (tl - m).toNat) := by
    intro k
    induction k with
    | zero => intro m _ h; omega
    | succ k ih =>
      intro m hm _
      have e := nx1 m (by omega)
      unfold wy at e
      by_cases c : m + 1 < s
      · rw [if_pos c] at e
        rcases ih (m + 1) (by omega) (by omega) with ⟨q1, q2⟩ | ⟨L, q1, q2, q3, q4⟩
        · exact Or.inl ⟨q1, stk_s e q2⟩
        · refine Or.inr ⟨L, q1, q2, LD_s e q3, ?_⟩
          have := TL_s e (nonC m (by omega)) q4
          rwa [show (tl - ((m + 1 : Nat) : Int)).toNat + 1 = (tl - (m : Int)).toNat by omega] at this
      · rw [if_neg c] at e
        rcases hct with ⟨h1, h2, h3'⟩ | ⟨e1, tc, h1, h2, h3', h4'⟩
        · rw [h1] at e
          exact Or.inl ⟨h2, stk_0 e⟩
        · rw [h1] at e
          have he1 := hWY.2.2.2.2.2 e1 h1
          have hg := (D e1 he1 (hcur e1 h1)).1
          have htc' := htc e1 tc h1 h3' h4'
          rcases hg.2 with ⟨g1, g2, -⟩ | ⟨L, u, g1, g2, g3, g4, g5, g6⟩
          · refine Or.inl ⟨?_, stk_s e g2⟩
            rw [h2, m1e] at g1
            exact I_inj (by omega) (by omega) (by omega) (by omega) g1
          · have e2 : cyc = L := by
              rw [h2] at g3
              exact I_inj (by omega) (by omega) (by omega) (by omega) g3
            have e3 : tc = u := by
              rw [h3'] at g4
              exact I_inj (by omega) (by omega) (by omega) (by omega) g4
            refine Or.inr ⟨L, e2, g1, LD_s e g5, ?_⟩
            have := TL_s e (nonC m (by omega)) g6
            rwa [show u + 1 = (tl - (m : Int)).toNat by omega] at this
  have tne : ∀ u : Int, 0 ≤ u → u ≤ 4000000 → I u ≠ (-1 : Int32) := fun u h1 h2 q => by
    rw [m1e, I_eq (by omega) (by omega) (by omega) (by omega)] at q
    omega
  -- where a code stands
  have cas : ∀ c, c < S → (∃ m, m < s ∧ w m = c) ∨ ((((∀ m, m < j → w m ≠ c) ∧ t0 c ≠ -1) ∨ ∃ m, s ≤ m ∧ m < j ∧ w m = c) ∧ ∀ m, m < s → w m ≠ c) ∨ ((∀ m, m < j → w m ≠ c) ∧ t0 c = -1) := by
    intro c hc
    by_cases h : ∃ m, m < j ∧ w m = c
    · obtain ⟨m, m1, m2⟩ := h
      by_cases hm : m < s
      · exact Or.inl ⟨m, hm, m2⟩
      · exact Or.inr (Or.inl ⟨Or.inr ⟨m, by omega, m1, m2⟩, fun q hq e => k5 q m (by omega) m1 (e.trans m2.symm)⟩)
    · have h' : ∀ m, m < j → w m ≠ c := fun m hm e => h ⟨m, hm, e⟩
      by_cases ht : t0 c = -1
      · exact Or.inr (Or.inr ⟨h', ht⟩)
      · exact Or.inr (Or.inl ⟨Or.inl ⟨h', ht⟩, fun q hq => h' q (by omega)⟩)
  have set3 : ∀ c, c < S → ((∃ m, m < s ∧ w m = c) ∨ (((∀ m, m < j → w m ≠ c) ∧ t0 c ≠ -1) ∨ ∃ m, s ≤ m ∧ m < j ∧ w m = c)) → t3 c ≠ -1 := by
    intro c hc h
    rcases h with ⟨m, m1, rfl⟩ | h
    · rw [(h3 m m1).1]
      exact tne _ (by omega) (by omega)
    · rcases cas c hc with ⟨m, m1, rfl⟩ | ⟨q1, q2⟩ | ⟨q1, q2⟩
      · rw [(h3 m m1).1]
        exact tne _ (by omega) (by omega)
      · rw [(h4 c q2).1]
        obtain ⟨u, -, -, hu, -⟩ := gd_t (D c hc q1).1 (by omega)
        exact hu
      · rcases h with ⟨-, h⟩ | ⟨m, -, m2, m3⟩
        · exact absurd q2 h
        · exact absurd m3 (q1 m m2)
  have inW : ∀ m, m < j → w m < S := fun m hm => (k2 m hm).1
  refine ⟨⟨fun c hc => ?_, ?_, by omega, l2, fun c hc ht ho => ?_, ?_⟩, ?_, fun c hc ht => ?_⟩
  · rcases cas c hc with ⟨m, m1, rfl⟩ | ⟨q1, q2⟩ | ⟨q1, q2⟩
    · refine Or.inr ⟨⟨(k2 m (by omega)).2.2.2, ?_⟩, fun d hd => ?_⟩
      · obtain ⟨a1, a2⟩ := h3 m m1
        rcases right (s - m) m (by omega) (by omega) with ⟨r1, r2⟩ | ⟨L, r1, r2, r3, r4⟩
        · exact Or.inl ⟨by rw [a2, r1, m1e], r2, (tl - m).toNat, by omega, by rw [a1]; congr 1; omega⟩
        · exact Or.inr ⟨L, (tl - m).toNat, r2, by omega, by rw [a2, r1], by rw [a1]; congr 1; omega, r3, r4⟩
      · have e := nx1 m m1
        rw [hd] at e
        have hdS := hFS _ d hc hd
        unfold wy at e
        by_cases c1 : m + 1 < s
        · rw [if_pos c1] at e
          exact set3 d hdS (Or.inl ⟨m + 1, c1, (Option.some.inj e).symm⟩)
        · rw [if_neg c1] at e
          exact set3 d hdS (Or.inr (hcur d e.symm))
    · refine Or.inr ⟨gd_w (D c hc q1).1 (by omega) (h4 c q2).1 rfl (h4 c q2).2, fun d hd => ?_⟩
      obtain ⟨b1, b2⟩ := (D c hc q1).2 d hd
      exact set3 d b1 (Or.inr b2)
    · left
      rw [(h4 c fun m hm => q1 m (by omega)).1, (hout c q1).1, q2]
  · constructor
    · intro h
      rw [Bool.or_eq_true, decide_eq_true_iff] at h
      rcases h with h | h
      · obtain ⟨c, c1, c2, c3⟩ := s2.mp h
        refine ⟨c, c1, set3 c c1 (Or.inr (Or.inl ⟨fun m hm e => ?_, c2⟩)), c3⟩
        exact c2 (by rw [← e]; exact (k2 m hm).2.1)
      · by_cases h0 : 0 < s
        · rcases right s 0 (by omega) h0 with ⟨-, r2⟩ | ⟨L, r1, -⟩
          · exact ⟨w 0, inW 0 (by omega), set3 _ (inW 0 (by omega)) (Or.inl ⟨0, h0, rfl⟩), r2⟩
          · omega
        · have hcs : cur2 = some start := by
            rcases hWY.2.2.2.1 with ⟨-, e⟩ | ⟨e, -⟩
            · exact e
            · omega
          have hg := D start hst (hcur start hcs)
          refine ⟨start, hst, set3 start hst (Or.inr (hcur start hcs)), ?_⟩
          rcases hct with ⟨e, -⟩ | ⟨c, tc, e1, e2, -⟩
          · rw [hcs] at e; exact absurd e (by simp)
          · rw [hcs] at e1
            have ec := Option.some.inj e1
            subst ec
            obtain ⟨cy, g1, g2, g3, g4, -⟩ := gd_cm hg.1 hS
            rw [e2] at g1
            have := I_inj (by omega) (by omega) (by omega) (by omega) g1
            exact g4 (by omega)
    · rintro ⟨c, c1, c2, c3⟩
      rw [Bool.or_eq_true, decide_eq_true_iff]
      rcases cas c c1 with ⟨m, m1, rfl⟩ | ⟨q1, q2⟩ | ⟨q1, q2⟩
      · rcases right (s - m) m (by omega) (by omega) with ⟨r1, -⟩ | ⟨L, -, -, r3, -⟩
        · exact Or.inr r1
        · exact absurd c3 (LD_stk r3)
      · rcases q1 with ⟨-, q1⟩ | ⟨m, m1, m2, rfl⟩
        · exact Or.inl (s2.mpr ⟨c, c1, q1, c3⟩)
        · obtain ⟨-, -, ⟨L, -, -, a5⟩, -⟩ := hcy m m1 m2
          exact absurd c3 (LD_stk a5)
      · exfalso
        apply c2
        rw [(h4 c fun m hm => q1 m (by omega)).1, (hout c q1).1, q2]
  · rcases cas c hc with ⟨m, m1, rfl⟩ | ⟨q1, q2⟩ | ⟨q1, q2⟩
    · exact absurd ho (nonC m m1)
    · rcases q1 with ⟨-, q1⟩ | ⟨m, m1, m2, rfl⟩
      · have := s5 c hc q1 ho; omega
      · exact l3 m m1 m2
    · exfalso
      apply ht
      rw [(h4 c fun m hm => q1 m (by omega)).1, (hout c q1).1, q2]
  · rcases l4 with e | ⟨m, m1, m2, e⟩
    · rcases s6 with q | ⟨c, c1, c2, c3, c4⟩
      · exact Or.inl (e.trans q)
      · exact Or.inr ⟨c, c1, set3 c c1 (Or.inr (Or.inl ⟨fun m hm ee => c2 (by rw [← ee]; exact (k2 m hm).2.1), c2⟩)), c3, e.trans c4⟩
    · exact Or.inr ⟨w m, inW m m2, set3 _ (inW m m2) (Or.inr (Or.inr ⟨m, m1, m2, rfl⟩)), (hcy m m1 m2).2.1, e⟩
  · by_cases h0 : 0 < s
    · have hw0 : w 0 = start := by
        rcases hWY.2.2.2.1 with ⟨e, -⟩ | ⟨-, e, -⟩
        · omega
        · exact e
      exact set3 start hst (Or.inl ⟨0, h0, hw0⟩)
    · have hcs : cur2 = some start := by
        rcases hWY.2.2.2.1 with ⟨-, e⟩ | ⟨e, -⟩
        · exact e
        · omega
      exact set3 start hst (Or.inr (hcur start hcs))
  · exact set3 c hc (Or.inr (Or.inl ⟨fun m hm e => ht (by rw [← e]; exact (k2 m hm).2.1), ht⟩))
