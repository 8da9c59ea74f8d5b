/-! Ways, the reference's side: all is found -/
theorem tr_f {P : Prop} (h : ¬ P) : tr P = false := by
  cases e : tr P with
  | false => rfl
  | true => exact absurd (tr_e.mp e) h
theorem tr_t {P : Prop} (h : P) : tr P = true := tr_e.mpr h
theorem onC_ns {F : Nat → Option Nat} {c : Nat} (h : onC F c) : ¬ stk F c := fun ⟨n, e⟩ => by
  obtain ⟨d, q⟩ := onC_some h n
  rw [e] at q; exact absurd q (by simp)
theorem TL_ns {F : Nat → Option Nat} {c u : Nat} (h : TL F c u) : ¬ stk F c := fun ⟨n, e⟩ => by
  obtain ⟨⟨d, e1, o⟩, -⟩ := h
  rcases Nat.le_total n u with q | q
  · obtain ⟨z, ez⟩ := it_pre e1 q
    rw [e] at ez; exact absurd ez (by simp)
  · obtain ⟨z, ez⟩ := onC_some o (n - u)
    have := it_of e1 ez
    rw [show u + (n - u) = n by omega, e] at this
    exact absurd this (by simp)
def Mv (Q : Nat → Prop) (m : Nat) : Prop := (∀ u, Q u → u ≤ m) ∧ (m = 0 ∨ Q m)
theorem Mv_one {Q : Nat → Prop} {m n : Nat} (h1 : Mv Q m) (h2 : Mv Q n) : m = n := by
  have key : ∀ {m n : Nat}, Mv Q m → Mv Q n → m ≤ n := by
    intro m n h1 h2
    rcases h1.2 with e | e
    · omega
    · exact h2.1 m e
  exact Nat.le_antisymm (key h1 h2) (key h2 h1)
theorem Mv_c {P Q : Nat → Prop} (h : ∀ u, P u ↔ Q u) {m : Nat} (hm : Mv P m) : Mv Q m := by
  have : P = Q := funext fun u => propext (h u)
  rw [← this]; exact hm
theorem Mx_c {P Q : Nat → Prop} {f : Nat → Nat} (h : ∀ u, P u ↔ Q u) {m : Nat} (hm : Mx P f m) : Mx Q f m := by
  have : P = Q := funext fun u => propext (h u)
  rw [← this]; exact hm
theorem Mv_a {P Q : Nat → Prop} {m u : Nat} (h : ∀ v, Q v ↔ (P v ∨ v = u)) (hm : Mv P m) : Mv Q (if m < u then u else m) := by
  by_cases c : m < u
  · rw [if_pos c]
    refine ⟨fun v hv => ?_, Or.inr ((h u).mpr (Or.inr rfl))⟩
    rcases (h v).mp hv with q | q
    · have := hm.1 v q; omega
    · omega
  · rw [if_neg c]
    refine ⟨fun v hv => ?_, ?_⟩
    · rcases (h v).mp hv with q | q
      · exact hm.1 v q
      · omega
    · rcases hm.2 with q | q
      · exact Or.inl q
      · exact Or.inr ((h m).mpr (Or.inl q))
theorem Mx_a {P Q R : Nat → Prop} {f : Nat → Nat} {m n : Nat} (h : ∀ v, Q v ↔ (P v ∨ R v)) (hm : Mx P f m) (hn : Mx R f n) : Mx Q f (if m < n then n else m) := by
  by_cases c : m < n
  · rw [if_pos c]
    refine ⟨fun v hv => ?_, ?_⟩
    · rcases (h v).mp hv with q | q
      · have := hm.1 v q; omega
      · exact hn.1 v q
    · rcases hn.2 with q | ⟨d, q1, q2⟩
      · exact Or.inl q
      · exact Or.inr ⟨d, (h d).mpr (Or.inr q1), q2⟩
  · rw [if_neg c]
    refine ⟨fun v hv => ?_, ?_⟩
    · rcases (h v).mp hv with q | q
      · exact hm.1 v q
      · have := hn.1 v q; omega
    · rcases hm.2 with q | ⟨d, q1, q2⟩
      · exact Or.inl q
      · exact Or.inr ⟨d, (h d).mpr (Or.inl q1), q2⟩
theorem falL32 {N : Nat → Int} (hV : Vl N) {g : Nat → Int32} (hg : ∀ j, j < 10 → g j = I (N j)) {S : Nat} (hS : stN N = S) {x : Int} (x1 : -99 ≤ x) (x2 : x ≤ 99) (R st on lg ld : Int32) (tl path ln pr am bs nb : Nat → Int32) : ∀ d k : Nat, k + d = S → ∀ (f : Nat) (a v l o : Int32) (p to rd : Nat → Int32), (∀ c, c < k → to c = I (enc (nxt N x c)) ∧ rd c = -3) → ∃ (a' v' l' o' : Int32) (p' to' rd' : Nat → Int32), fX9_findsAll_L32 (I x) g (f + d + 1) (I S) (I k) a v l o R st on lg ld p to rd tl path ln pr am bs nb = some (a', v', l', o', p', to', rd') ∧ ∀ c, c < S → to' c = I (enc (nxt N x c)) ∧ rd' c = -3 := by
  intro d
  have sb := st_b hV
  induction d with
  | zero =>
    intro k hk f a v l o p to rd h
    have e : k = S := by omega
    subst e
    rw [show f + 0 + 1 = f + 1 by omega, fX9_findsAll_L32, if_pos (by rw [I_le (by omega) (by omega) (by omega) (by omega)]; omega)]
    exact ⟨_, _, _, _, _, _, _, rfl, h⟩
  | succ d ih =>
    intro k hk f a v l o p to rd h
    obtain ⟨p', a', e⟩ := bhd9 hV hg (c := (k : Int)) (by omega) (by omega) x1 x2 a v l o p
    have ek : I k + (1 : Int32) = I (k + 1 : Nat) := by rw [L1, I_add]; rfl
    have hn := (nxt_e hV x hS (show k < S by omega)).1
    rw [show f + (d + 1) + 1 = (f + d + 1) + 1 by omega, fX9_findsAll_L32, if_neg (by rw [I_le (by omega) (by omega) (by omega) (by omega)]; omega), e, bnd6_some, clN (show k < 100000 by omega)]
    simp only [if_neg (gK (show k < 1024 by omega))]
    rw [ek, hn]
    exact ih (k + 1) (by omega) f _ _ _ _ _ _ _ (fun c hc => by
      by_cases z : c = k
      · subst z; rw [upd_s, upd_s]; exact ⟨rfl, rfl⟩
      · rw [upd_o _ _ z, upd_o _ _ z]; exact h c (by omega))
theorem falL65 {N : Nat → Int} (hV : Vl N) {g : Nat → Int32} (hg : ∀ j, j < 10 → g j = I (N j)) {S : Nat} (hS : stN N = S) {x : Int} {to : Nat → Int32} (hto : ∀ c, c < S → to c = I (enc (nxt N x c))) (a v l o st on lg ld : Int32) (nb : Nat → Int32) : ∀ d k : Nat, k + d = S → ∀ (f R : Nat) (p rd tl path ln pr am bs : Nat → Int32), MS (nxt N x) S (latN N) R rd tl ln pr am bs → (∀ c, c < k → rd c ≠ -3) → ∃ (R' : Nat) (p' rd' tl' path' ln' pr' am' bs' : Nat → Int32), fX9_findsAll_L65 (I x) g (f + d + 1) (I S) (I k) a v l o (I R) st on lg ld p to rd tl path ln pr am bs nb = some (I R', p', rd', tl', path', ln', pr', am', bs') ∧ MS (nxt N x) S (latN N) R' rd' tl' ln' pr' am' bs' ∧ ∀ c, c < S → rd' c ≠ -3 := by
  intro d
  have sb := st_b hV
  induction d with
  | zero =>
    intro k hk f R p rd tl path ln pr am bs hM h
    have e : k = S := by omega
    subst e
    rw [show f + 0 + 1 = f + 1 by omega, fX9_findsAll_L65, if_pos (by rw [I_le (by omega) (by omega) (by omega) (by omega)]; omega)]
    exact ⟨R, _, _, _, _, _, _, _, _, rfl, hM, h⟩
  | succ d ih =>
    intro k hk f R p rd tl path ln pr am bs hM h
    have ek : I k + (1 : Int32) = I (k + 1 : Nat) := by rw [L1, I_add]; rfl
    rw [show f + (d + 1) + 1 = (f + d + 1) + 1 by omega, fX9_findsAll_L65, if_neg (by rw [I_le (by omega) (by omega) (by omega) (by omega)]; omega), clN (show k < 100000 by omega), if_neg (gK (show k < 1024 by omega)), ek]
    by_cases z : rd k = -3
    · obtain ⟨R', p', rd', tl', path', ln', pr', am', bs', e, q1, q2, q3⟩ := goF hV hg hS hto hM (show k < S by omega) z p path
      rw [if_pos z, e, bnd9_some]
      exact ih (k + 1) (by omega) f R' _ _ _ _ _ _ _ _ q1 (fun c hc => by
        by_cases y : c = k
        · rw [y]; exact q2
        · exact q3 c (by omega) (h c (by omega)))
    · rw [if_neg z]
      exact ih (k + 1) (by omega) f R _ _ _ _ _ _ _ _ hM (fun c hc => by
        by_cases y : c = k
        · rw [y]; exact z
        · exact h c (by omega))
noncomputable def lsN (F : Nat → Option Nat) (i : Nat) : Nat := fb_ct (fun c => tr (LD F c c)) i
def CI97 (F : Nat → Option Nat) (S : Nat) (lat : Nat → Int) (R : Nat) (ln rd : Nat → Int32) (i : Nat) (bs nb : Nat → Int32) (lgm ldm : Nat) : Prop := (∀ r L, r < R → L < S → ln r = I L → bs r = I (fb_ct (fun c => tr (LD F c L)) i : Nat)) ∧ (∀ c, c < i → LD F c c → nb (lsN F c) = rd c) ∧ Mv (fun u => ∃ c, c < i ∧ TL F c u) lgm ∧ Mx (fun d => onC F d ∧ ∃ c L, c < i ∧ LD F c L ∧ LD F d L) (fun d => (lat d).natAbs) ldm ∧ lgm ≤ S ∧ ldm ≤ 100
theorem falL97 {F : Nat → Option Nat} {S : Nat} (hS : S ≤ 1024) (hF : ∀ c, c < S → ∀ d, F c = some d → d < S) {lat : Nat → Int} {R : Nat} (hR : R ≤ S) {rd tl ln pr am bs0 : Nat → Int32} (hC : ∀ c, c < S → MG F S R ln rd tl c) (hM : ∀ r, r < R → MR F S lat rd ln pr am bs0 r) (x1 : Int32) (g : Nat → Int32) (a v l o : Int32) (p to path : Nat → Int32) :
    ∀ d i : Nat, i + d = S → ∀ (f lgm ldm : Nat) (bs nb : Nat → Int32), CI97 F S lat R ln rd i bs nb lgm ldm → ∃ (lgm' ldm' : Nat) (bs' nb' : Nat → Int32), fX9_findsAll_L97 x1 g (f + d + 1) (I S) (I (lsN F i : Nat)) (I i) a v l o (I R) (I (fb_ct (fun c => tr (stk F c)) i : Nat)) (I (fb_ct (fun c => tr (onC F c)) i : Nat)) (I lgm) (I ldm) p to rd tl path ln pr am bs nb = some (I (fb_ct (fun c => tr (stk F c)) S : Nat), I (fb_ct (fun c => tr (onC F c)) S : Nat), I lgm', I ldm', bs', nb') ∧ CI97 F S lat R ln rd S bs' nb' lgm' ldm' := by
  intro d
  induction d with
  | zero =>
    intro i hi f lgm ldm bs nb h
    have e : i = S := by omega
    subst e
    rw [show f + 0 + 1 = f + 1 by omega, fX9_findsAll_L97, if_pos (by rw [I_le (by omega) (by omega) (by omega) (by omega)]; omega)]
    exact ⟨lgm, ldm, bs, nb, rfl, h⟩
  | succ d ih =>
    intro i hi f lgm ldm bs nb h
    obtain ⟨h1, h2, h3, h4, h5, h6⟩ := h
    have ei : I i + (1 : Int32) = I (i + 1 : Nat) := by rw [L1, I_add]; rfl
    have up : ∀ n : Nat, I n + (1 : Int32) = I ((n + 1 : Nat) : Int) := fun n => by rw [L1, I_add]; rfl
    have up0 : ∀ n : Nat, I n + (0 : Int32) = I n := fun n => by rw [L0, I_add, Int.add_zero]
    rw [show f + (d + 1) + 1 = (f + d + 1) + 1 by omega, fX9_findsAll_L97, if_neg (by rw [I_le (by omega) (by omega) (by omega) (by omega)]; omega), clN (show i < 100000 by omega)]
    simp only [if_neg (gK (show i < 1024 by omega))]
    rcases hC i (by omega) with ⟨q1, q2⟩ | ⟨r, u, L, a1, a2, a3, a4, a5, a6, a7⟩
    · have nLD : ∀ L, ¬ LD F i L := fun L q => LD_stk q q2
      have no : ¬ onC F i := fun q => onC_ns q q2
      have E1 : fb_ct (fun c => tr (stk F c)) (i + 1) = fb_ct (fun c => tr (stk F c)) i + 1 := by rw [fb_ct_succ]; simp only [tr_t q2, if_true]
      have E2 : fb_ct (fun c => tr (onC F c)) (i + 1) = fb_ct (fun c => tr (onC F c)) i := by rw [fb_ct_succ]; simp [tr_f no]
      have E3 : lsN F (i + 1) = lsN F i := by unfold lsN; rw [fb_ct_succ]; simp [tr_f (nLD i)]
      have := ih (i + 1) (by omega) f lgm ldm bs nb ⟨fun r L b1 b2 b3 => by rw [h1 r L b1 b2 b3, fb_ct_succ]; simp [tr_f (nLD L)], fun c hc hL => h2 c (by
          by_cases z : c = i
          · rw [z] at hL; exact absurd hL (nLD i)
          · omega) hL, Mv_c (fun u => ⟨fun ⟨c, b1, b2⟩ => ⟨c, by omega, b2⟩, fun ⟨c, b1, b2⟩ => ⟨c, by
          by_cases z : c = i
          · rw [z] at b2; exact absurd q2 (TL_ns b2)
          · omega, b2⟩⟩) h3, Mx_c (fun u => ⟨fun ⟨b0, c, L, b1, b2⟩ => ⟨b0, c, L, by omega, b2⟩, fun ⟨b0, c, L, b1, b2⟩ => ⟨b0, c, L, by
          by_cases z : c = i
          · rw [z] at b2; exact absurd b2.1 (nLD L)
          · omega, b2⟩⟩) h4, h5, h6⟩
      rw [E1, E2, E3] at this
      rw [if_pos q1, ei, up]
      exact this
    · obtain ⟨L', m, b1, b2, b3, b4, b5, b6, b7, b8, -⟩ := hM r a1
      have eL : L' = L := by
        have := b2.symm.trans a5
        exact_mod_cast (I_inj (by omega) (by omega) (by omega) (by omega) this)
      subst eL
      have hu := TL_le hF (show i < S by omega) a7
      have ns : ¬ stk F i := TL_ns a7
      have E1 : fb_ct (fun c => tr (stk F c)) (i + 1) = fb_ct (fun c => tr (stk F c)) i := by rw [fb_ct_succ]; simp [tr_f ns]
      have eMax1 : (if I lgm < I u then I u else I lgm) = I (if lgm < u then u else lgm : Nat) := by
        by_cases c : lgm < u
        · rw [if_pos c, if_pos (by rw [I_lt (by omega) (by omega) (by omega) (by omega)]; omega)]
        · rw [if_neg c, if_neg (by rw [I_lt (by omega) (by omega) (by omega) (by omega)]; omega)]
      have eMax2 : (if I ldm < I m then I m else I ldm) = I (if ldm < m then m else ldm : Nat) := by
        by_cases c : ldm < m
        · rw [if_pos c, if_pos (by rw [I_lt (by omega) (by omega) (by omega) (by omega)]; omega)]
        · rw [if_neg c, if_neg (by rw [I_lt (by omega) (by omega) (by omega) (by omega)]; omega)]
      have ebs := h1 r L' a1 a2 b2
      have hrS : r < 1024 := by omega
      have hni : rd i ≠ -1 := by rw [a3, m1e]; intro q; rw [I_eq (by omega) (by omega) (by omega) (by omega)] at q; omega
      have hCI : ∀ nb' : Nat → Int32, (∀ c, c < i + 1 → LD F c c → nb' (lsN F c) = rd c) → CI97 F S lat R ln rd (i + 1) (upd bs r (I ((fb_ct (fun c => tr (LD F c L')) i + 1 : Nat) : Int))) nb' (if lgm < u then u else lgm) (if ldm < m then m else ldm) := by
        intro nb' hnb
        refine ⟨fun r2 L2 c1 c2 c3 => ?_, hnb, Mv_a (fun w => ?_) h3, Mx_a (fun w => ?_) h4 b8, by split <;> omega, by split <;> omega⟩
        · by_cases z : r2 = r
          · subst z
            have : L2 = L' := by
              have := c3.symm.trans b2
              exact_mod_cast (I_inj (by omega) (by omega) (by omega) (by omega) this)
            subst this
            rw [upd_s, fb_ct_succ]; simp only [tr_t a6, if_true]
          · have hn : ¬ LD F i L2 := fun q => by
              obtain ⟨L3, m3, d1, d2, d3, d4, -⟩ := hM r2 c1
              have e1 : L3 = L2 := by
                have := d2.symm.trans c3
                exact_mod_cast (I_inj (by omega) (by omega) (by omega) (by omega) this)
              subst e1
              have e2 := LD_one q a6
              subst e2
              rw [b4, I_eq (by omega) (by omega) (by omega) (by omega)] at d4
              omega
            rw [upd_o _ _ z, h1 r2 L2 c1 c2 c3, fb_ct_succ]; simp [tr_f hn]
        · constructor
          · rintro ⟨c, c1, c2⟩
            by_cases z : c = i
            · rw [z] at c2; exact Or.inr (TL_one c2 a7)
            · exact Or.inl ⟨c, by omega, c2⟩
          · rintro (⟨c, c1, c2⟩ | rfl)
            · exact ⟨c, by omega, c2⟩
            · exact ⟨i, by omega, a7⟩
        · constructor
          · rintro ⟨c0, c, L2, c1, c2, c3⟩
            by_cases z : c = i
            · rw [z] at c2
              rw [LD_one c2 a6] at c3
              exact Or.inr ⟨c0, c3⟩
            · exact Or.inl ⟨c0, c, L2, by omega, c2, c3⟩
          · rintro (⟨c0, c, L2, c1, c2, c3⟩ | ⟨c0, c3⟩)
            · exact ⟨c0, c, L2, by omega, c2, c3⟩
            · exact ⟨c0, i, L', by omega, a6, c3⟩
      have hls : lsN F i < 1024 := Nat.lt_of_le_of_lt (fb_ct_le _ i) (by omega)
      have last : ∀ (z2 : Int32) (on' : Nat), I (fb_ct (fun c => tr (onC F c)) i : Nat) + z2 = I on' → on' = fb_ct (fun c => tr (onC F c)) (i + 1) → ∃ (lgm' ldm' : Nat) (bs' nb' : Nat → Int32), fX9_findsAll_j198 x1 g (fX9_findsAll_L97 x1 g (f + d + 1)) (I S) (I (lsN F i : Nat)) (I i) (I r) (I (fb_ct (fun c => tr (onC F c)) i : Nat)) z2 a v l o (I R) (I (fb_ct (fun c => tr (stk F c)) i : Nat)) (I (fb_ct (fun c => tr (onC F c)) i : Nat)) (I (if lgm < u then u else lgm : Nat)) (I (if ldm < m then m else ldm : Nat)) p to rd tl path ln pr am (upd bs r (I ((fb_ct (fun c => tr (LD F c L')) i + 1 : Nat) : Int))) nb = some (I (fb_ct (fun c => tr (stk F c)) S : Nat), I (fb_ct (fun c => tr (onC F c)) S : Nat), I lgm', I ldm', bs', nb') ∧ CI97 F S lat R ln rd S bs' nb' lgm' ldm' := by
        intro z2 on' ez eo
        unfold fX9_findsAll_j198
        rw [clN (show r < 100000 by omega), if_neg (gK hrS), b2, ez, ei, eo]
        by_cases z : L' = i
        · subst z
          have E3 : lsN F (L' + 1) = lsN F L' + 1 := by unfold lsN; rw [fb_ct_succ]; simp only [tr_t a6, if_true]
          have := ih (L' + 1) (by omega) f _ _ _ (upd nb (lsN F L') (I r)) (hCI _ fun c hc hL => by
            by_cases y : c = L'
            · rw [y, upd_s, a3]
            · have hlt : lsN F c < lsN F L' := by
                have s1 := fb_ct_mono (fun c => tr (LD F c c)) (show c + 1 ≤ L' by omega)
                rw [fb_ct_succ] at s1
                simp only [tr_t hL, if_true] at s1
                exact s1
              rw [upd_o _ _ (show lsN F c ≠ lsN F L' by omega)]
              exact h2 c (by omega) hL)
          rw [E1, E3] at this
          rw [if_pos rfl, clN (show lsN F L' < 100000 by omega), if_neg (gK hls), up]
          exact this
        · have nL : ¬ LD F i i := fun q => z (LD_one a6 q)
          have E3 : lsN F (i + 1) = lsN F i := by unfold lsN; rw [fb_ct_succ]; simp [tr_f nL]
          have := ih (i + 1) (by omega) f _ _ _ nb (hCI _ fun c hc hL => h2 c (by
            by_cases y : c = i
            · rw [y] at hL; exact absurd hL nL
            · omega) hL)
          rw [E1, E3] at this
          rw [if_neg (by rw [I_eq (by omega) (by omega) (by omega) (by omega)]; omega)]
          exact this
      rw [if_neg hni, a3, clN (show r < 100000 by omega)]
      simp only [if_neg (gK hrS)]
      rw [a4, b6, eMax1, eMax2, ebs, up]
      by_cases z : u = 0
      · have oc : onC F i := TL_0.mp (z ▸ a7)
        rw [if_pos (by rw [z]; rfl)]
        exact last 1 (fb_ct (fun c => tr (onC F c)) i + 1) (up _) (by rw [fb_ct_succ]; simp only [tr_t oc, if_true])
      · have noc : ¬ onC F i := fun q => z (TL_one a7 (TL_0.mpr q))
        rw [if_neg (by rw [L0, I_eq (by omega) (by omega) (by omega) (by omega)]; omega)]
        exact last 0 (fb_ct (fun c => tr (onC F c)) i) (up0 _) (by rw [fb_ct_succ]; simp [tr_f noc])
theorem inj_I {a b : Nat} (ha : a < 100000) (hb : b < 100000) (h : I a = I b) : a = b := by
  have := I_inj (by omega) (by omega) (by omega) (by omega) h
  omega
def RF (F : Nat → Option Nat) (S : Nat) (lat : Nat → Int) (R : Nat) (st on lg ld : Int32) (to rd tl ln pr am bs nb : Nat → Int32) : Prop :=
  R ≤ S ∧ R = lsN F S ∧ (∀ c, c < S → to c = I (enc (F c)) ∧ MG F S R ln rd tl c) ∧ (∀ r, r < R → ∃ L m : Nat, L < S ∧ ln r = I L ∧ LD F L L ∧ rd L = I r ∧ pr r = I (cyN F S L) ∧ am r = I m ∧ m ≤ 100 ∧ Mx (fun c => onC F c ∧ LD F c L) (fun c => (lat c).natAbs) m ∧ bs r = I (fb_ct (fun c => tr (LD F c L)) S : Nat)) ∧ (∀ c, c < S → LD F c c → nb (lsN F c) = rd c) ∧ st = I (fb_ct (fun c => tr (stk F c)) S : Nat) ∧ on = I (fb_ct (fun c => tr (onC F c)) S : Nat) ∧ (∃ m : Nat, lg = I m ∧ Mv (fun u => ∃ c, c < S ∧ TL F c u) m) ∧ ∃ m : Nat, m ≤ 100 ∧ Mx (fun d => d < S ∧ onC F d) (fun d => (lat d).natAbs) m ∧ ld = if R = 0 then 99 else I m
theorem LD_S {F : Nat → Option Nat} {S : Nat} (hF : ∀ c, c < S → ∀ d, F c = some d → d < S) {c L : Nat} (hc : c < S) (h : LD F c L) : L < S := by
  obtain ⟨⟨n, e⟩, -⟩ := h
  exact it_lt hF hc n L e
theorem fallX {N : Nat → Int} (hV : Vl N) {g : Nat → Int32} (hg : ∀ j, j < 10 → g j = I (N j)) {S : Nat} (hS : stN N = S) {x : Int} (x1 : -99 ≤ x) (x2 : x ≤ 99) (a v l o R st on lg ld : Int32) (p to rd tl path ln pr am bs nb : Nat → Int32) : ∃ (a' v' l' o' : Int32) (R' : Nat) (st' on' lg' ld' : Int32) (p' to' rd' tl' path' ln' pr' am' bs' nb' : Nat → Int32), fX9_findsAll (I x) a v l o R st on lg ld g p to rd tl path ln pr am bs nb = some (a', v', l', o', I R', st', on', lg', ld', p', to', rd', tl', path', ln', pr', am', bs', nb') ∧ RF (nxt N x) S (latN N) R' st' on' lg' ld' to' rd' tl' ln' pr' am' bs' nb' := by
  have sb := st_b hV
  have hF : ∀ c, c < S → ∀ d, nxt N x c = some d → d < S := fun c hc => (nxt_e hV x hS hc).2
  obtain ⟨a', v', l', o', p1, to1, rd1, e1, h1⟩ := falL32 hV hg hS x1 x2 0 0 0 0 0 tl path ln pr am bs nb S 0 (by omega) (99999 - S) a v l o p to rd (fun c hc => absurd hc (by omega))
  obtain ⟨R', p2, rd2, tl2, path2, ln2, pr2, am2, bs2, e2, hM, h2⟩ := falL65 hV hg hS (x := x) (to := to1) (fun c hc => (h1 c hc).1) a' v' l' o' 0 0 0 0 nb S 0 (by omega) (99999 - S) 0 p1 rd1 tl path ln pr am bs ⟨by omega, fun c hc => Or.inl (h1 c hc).2, fun r hr => absurd hr (by omega)⟩ (fun c hc => absurd hc (by omega))
  have hC : ∀ c, c < S → MG (nxt N x) S R' ln2 rd2 tl2 c := fun c hc => by
    rcases hM.2.1 c hc with q | q
    · exact absurd q (h2 c hc)
    · exact q.1
  obtain ⟨lgm, ldm, bs3, nb3, e3, q1, q2, q3, q4, q5, q6⟩ := falL97 (S := S) (by omega) hF hM.1 hC hM.2.2 (I x) g a' v' l' o' p2 to1 path2 S 0 (by omega) (99999 - S) 0 0 bs2 nb ⟨fun r L b1 b2 b3 => by
      obtain ⟨L2, m, c1, c2, c3, c4, c5, c6, c7, c8, c9⟩ := hM.2.2 r b1
      rw [c9]; rfl, fun c hc => absurd hc (by omega), ⟨fun u ⟨c, c1, _⟩ => absurd c1 (by omega), Or.inl rfl⟩, ⟨fun u ⟨_, c, _, c1, _⟩ => absurd c1 (by omega), Or.inl rfl⟩, by omega, by omega⟩
  rw [show 99999 - S + S + 1 = FUEL by show _ = 100000; omega, show I ((0 : Nat) : Int) = 0 from rfl] at e1 e2 e3
  have e3' : fX9_findsAll_L97 (I x) g FUEL (I S) 0 0 a' v' l' o' (I R') 0 0 0 0 p2 to1 rd2 tl2 path2 ln2 pr2 am2 bs2 nb = _ := e3
  have hRS := hM.1
  have hRl : R' = lsN (nxt N x) S := by
    refine (ct_im R' (fun r => (ln2 r).toNatClampNeg) _ (fun r hr => ?_) (fun r r' hrr hr' => ?_) (fun c hc => ?_)).symm
    · obtain ⟨L, m, a1, a2, a3⟩ := hM.2.2 r hr
      show (ln2 r).toNatClampNeg < S
      rw [a2, clN (show L < 100000 by omega)]; exact a1
    · obtain ⟨L, m, a1, a2, a3, a4, -⟩ := hM.2.2 r (by omega)
      obtain ⟨M, n, b1, b2, b3, b4, -⟩ := hM.2.2 r' hr'
      show (ln2 r).toNatClampNeg ≠ (ln2 r').toNatClampNeg
      rw [a2, b2, clN (show L < 100000 by omega), clN (show M < 100000 by omega)]
      rintro rfl
      have := inj_I (by omega) (by omega) (a4.symm.trans b4)
      omega
    · rw [tr_e]
      constructor
      · intro h
        rcases hC c hc with ⟨-, q⟩ | ⟨r, u, L, a1, a2, a3, a4, a5, a6, a7⟩
        · exact absurd q (LD_stk h)
        · refine ⟨r, a1, ?_⟩
          show (ln2 r).toNatClampNeg = c
          rw [a5, clN (show L < 100000 by omega)]
          exact LD_one a6 h
      · rintro ⟨r, hr, e⟩
        obtain ⟨L, m, a1, a2, a3, -⟩ := hM.2.2 r hr
        have e' : (ln2 r).toNatClampNeg = c := e
        rw [a2, clN (show L < 100000 by omega)] at e'
        rw [← e']; exact a3
  have hmx : Mx (fun d => d < S ∧ onC (nxt N x) d) (fun d => (latN N d).natAbs) ldm := Mx_c (fun d => by
    constructor
    · rintro ⟨o, c, L, c1, c2, c3⟩
      refine ⟨?_, o⟩
      have hL := LD_S hF c1 c2
      obtain ⟨⟨n, e⟩, -⟩ := c3
      obtain ⟨-, m, e'⟩ := onC_fw o e
      exact it_lt hF hL m d e'
    · rintro ⟨hd, o⟩
      rcases hC d hd with ⟨-, q⟩ | ⟨r, u, L, a1, a2, a3, a4, a5, a6, a7⟩
      · exact absurd q (onC_ns o)
      · exact ⟨o, d, L, hd, a6, a6⟩) q4
  have hRF : RF (nxt N x) S (latN N) R' (I (fb_ct (fun c => tr (stk (nxt N x) c)) S : Nat)) (I (fb_ct (fun c => tr (onC (nxt N x) c)) S : Nat)) (I lgm) (if R' = 0 then 99 else I ldm) to1 rd2 tl2 ln2 pr2 am2 bs3 nb3 := ⟨hM.1, hRl, fun c hc => ⟨(h1 c hc).1, hC c hc⟩, fun r hr => by
    obtain ⟨L, m, a1, a2, a3, a4, a5, a6, a7, a8, -⟩ := hM.2.2 r hr
    exact ⟨L, m, a1, a2, a3, a4, a5, a6, a7, a8, q1 r L hr a1 a2⟩, q2, rfl, rfl, ⟨lgm, rfl, q3⟩, ldm, q6, hmx, rfl⟩
  unfold fX9_findsAll
  rw [sta9 hV hg, bnd1_some, hS, e1, bnd7_some, e2, bnd9_some, e3', bnd6_some]
  by_cases z : R' = 0
  · rw [if_pos (by rw [z]; rfl)]
    rw [if_pos z] at hRF
    exact ⟨_, _, _, _, R', _, _, _, _, _, _, _, _, _, _, _, _, _, _, rfl, hRF⟩
  · rw [if_neg (by rw [L0, I_eq (by omega) (by omega) (by omega) (by omega)]; omega)]
    rw [if_neg z] at hRF
    exact ⟨_, _, _, _, R', _, _, _, _, _, _, _, _, _, _, _, _, _, _, rfl, hRF⟩
