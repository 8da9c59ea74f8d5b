/-! Ways, the reference's side: what is settled is right -/
def MG (F : Nat → Option Nat) (S R : Nat) (ln rd tl : Nat → Int32) (c : Nat) : Prop := (rd c = -1 ∧ stk F c) ∨ ∃ r u L : Nat, r < R ∧ L < S ∧ rd c = I r ∧ tl c = I u ∧ ln r = I L ∧ LD F c L ∧ TL F c u
noncomputable def cyN (F : Nat → Option Nat) (S L : Nat) : Nat := fb_ct (fun c => tr (onC F c ∧ LD F c L)) S
def MR (F : Nat → Option Nat) (S : Nat) (lat : Nat → Int) (rd ln pr am bs : Nat → Int32) (r : Nat) : Prop := ∃ L m : Nat, L < S ∧ ln r = I L ∧ LD F L L ∧ rd L = I r ∧ pr r = I (cyN F S L) ∧ am r = I m ∧ m ≤ 100 ∧ Mx (fun c => onC F c ∧ LD F c L) (fun c => (lat c).natAbs) m ∧ bs r = 0
def MS (F : Nat → Option Nat) (S : Nat) (lat : Nat → Int) (R : Nat) (rd tl ln pr am bs : Nat → Int32) : Prop := R ≤ S ∧ (∀ c, c < S → rd c = -3 ∨ (MG F S R ln rd tl c ∧ ∀ d, F c = some d → rd d ≠ -3)) ∧ ∀ r, r < R → MR F S lat rd ln pr am bs r
theorem MG_ne {F : Nat → Option Nat} {S R : Nat} (hR : R ≤ 1024) {ln rd tl : Nat → Int32} {c : Nat} (h : MG F S R ln rd tl c) : rd c ≠ -3 ∧ rd c ≠ -2 := by
  rcases h with ⟨e, -⟩ | ⟨r, u, L, h1, -, e, -⟩
  · rw [e]; exact ⟨by decide, by decide⟩
  · rw [e, m3e, m2e]
    exact ⟨fun q => by rw [I_eq (by omega) (by omega) (by omega) (by omega)] at q; omega, fun q => by rw [I_eq (by omega) (by omega) (by omega) (by omega)] at q; omega⟩
theorem MG_w {F : Nat → Option Nat} {S R R' : Nat} (hR : R ≤ R') {ln rd tl ln' rd' tl' : Nat → Int32} {c : Nat} (h : MG F S R ln rd tl c) (h1 : ∀ r, r < R → ln' r = ln r) (h2 : rd' c = rd c) (h3 : tl' c = tl c) : MG F S R' ln' rd' tl' c := by
  rcases h with ⟨e, q⟩ | ⟨r, u, L, a1, a2, a3, a4, a5, a6, a7⟩
  · exact Or.inl ⟨by rw [h2, e], q⟩
  · exact Or.inr ⟨r, u, L, by omega, a2, by rw [h2, a3], by rw [h3, a4], by rw [h1 r a1, a5], a6, a7⟩
theorem it_cl {F : Nat → Option Nat} {G : Nat → Prop} (hG : ∀ c, G c → ∀ d, F c = some d → G d) : ∀ (n : Nat) {c d : Nat}, G c → it F n c = some d → G d
  | 0, c, d, h, e => by rw [← Option.some.inj e]; exact h
  | n + 1, c, d, h, e => by
    have e' : (it F n c).bind F = some d := e
    cases q : it F n c with
    | none => rw [q] at e'; exact absurd e' (by simp)
    | some u =>
      rw [q] at e'
      exact hG u (it_cl hG n h q) d e'
theorem off_c {F : Nat → Option Nat} {G : Nat → Prop} (hG : ∀ c, G c → ∀ d, F c = some d → G d) {c d : Nat} (h : F c = some d) (hd : G d) (hc : ¬ G c) : ¬ onC F c := fun o => by
  obtain ⟨-, m, e⟩ := onC_fw (n := 1) o h
  exact hc (it_cl hG m hd e)
theorem goL97 {F : Nat → Option Nat} {S : Nat} (hS : S ≤ 1024) {to : Nat → Int32} (hto : ∀ c, c < S → to c = I (enc (F c))) {R : Nat} (hR : R ≤ 1024) {B : Nat → Prop} {s : Nat} {w : Nat → Nat} {path : Nat → Int32} (hs : s ≤ S) (hp : ∀ m, m < s → w m < S ∧ path m = I (w m)) (hw : ∀ m, m + 1 < s → F (w m) = some (w (m + 1))) (hi : ∀ a b, a < b → b < s → w a ≠ w b) (hB : ∀ c, B c → c < S ∧ ∀ d, F c = some d → B d) (hBw : ∀ m, m < s → ¬ B (w m)) (hl : 0 < s → ∀ d, F (w (s - 1)) = some d → B d) (x1 : Int32) (g p ln pr am bs : Nat → Int32) :
    ∀ i : Nat, i ≤ s → ∀ (f : Nat) (rd tl : Nat → Int32), (∀ c, (B c ∨ ∃ m, i ≤ m ∧ m < s ∧ w m = c) → MG F S R ln rd tl c) → ∃ rd' tl', fX9_goesFrom_L97 x1 g to (f + i + 1) (I ((i : Int) - 1)) (I R) p rd tl path ln pr am bs = some (rd', tl') ∧ (∀ c, (B c ∨ ∃ m, 0 ≤ m ∧ m < s ∧ w m = c) → MG F S R ln rd' tl' c) ∧ ∀ c, (∀ m, m < i → w m ≠ c) → rd' c = rd c ∧ tl' c = tl c := by
  intro i
  induction i with
  | zero =>
    intro _ f rd tl h
    rw [show f + 0 + 1 = f + 1 by omega, fX9_goesFrom_L97, if_pos (c := I (((0 : Nat) : Int) - 1) < 0) (by decide +kernel)]
    exact ⟨rd, tl, rfl, h, fun c _ => ⟨rfl, rfl⟩⟩
  | succ i ih =>
    intro his f rd tl h
    obtain ⟨hwS, hpi⟩ := hp i (by omega)
    have hG : ∀ c, (B c ∨ ∃ m, i + 1 ≤ m ∧ m < s ∧ w m = c) → ∀ d, F c = some d → (B d ∨ ∃ m, i + 1 ≤ m ∧ m < s ∧ w m = d) := by
      rintro c (hc | ⟨m, m1, m2, rfl⟩) d hd
      · exact Or.inl ((hB c hc).2 d hd)
      · by_cases q : m + 1 < s
        · rw [hw m q] at hd
          exact Or.inr ⟨m + 1, by omega, q, Option.some.inj hd⟩
        · refine Or.inl (hl (by omega) d ?_)
          rw [show s - 1 = m by omega]; exact hd
    have hnG : ¬ (B (w i) ∨ ∃ m, i + 1 ≤ m ∧ m < s ∧ w m = w i) := by
      rintro (q | ⟨m, m1, m2, q⟩)
      · exact hBw i (by omega) q
      · exact hi i m (by omega) m2 q.symm
    have hnx : ∀ d, F (w i) = some d → (B d ∨ ∃ m, i + 1 ≤ m ∧ m < s ∧ w m = d) := fun d hd => by
      by_cases q : i + 1 < s
      · rw [hw i q] at hd
        exact Or.inr ⟨i + 1, by omega, q, Option.some.inj hd⟩
      · refine Or.inl (hl (by omega) d ?_)
        rw [show s - 1 = i by omega]; exact hd
    have ek : I i + (-1 : Int32) = I ((i : Int) - 1) := by rw [m1e, I_add]; rfl
    have e0 : I (((i + 1 : Nat) : Int) - 1) = I i := by congr 1; omega
    have fin : ∀ (rv tv : Int32), MG F S R ln (upd rd (w i) rv) (upd tl (w i) tv) (w i) → ∃ rd' tl', fX9_goesFrom_L97 x1 g to (f + i + 1) (I ((i : Int) - 1)) (I R) p (upd rd (w i) rv) (upd tl (w i) tv) path ln pr am bs = some (rd', tl') ∧ (∀ c, (B c ∨ ∃ m, 0 ≤ m ∧ m < s ∧ w m = c) → MG F S R ln rd' tl' c) ∧ ∀ c, (∀ m, m < i + 1 → w m ≠ c) → rd' c = rd c ∧ tl' c = tl c := by
      intro rv tv hg
      obtain ⟨rd', tl', e, q1, q2⟩ := ih (by omega) f (upd rd (w i) rv) (upd tl (w i) tv) (fun c hc => by
        by_cases z : c = w i
        · rw [z]; exact hg
        · refine MG_w (Nat.le_refl R) (h c ?_) (fun r _ => rfl) (upd_o _ _ z) (upd_o _ _ z)
          rcases hc with hc | ⟨m, m1, m2, e⟩
          · exact Or.inl hc
          · refine Or.inr ⟨m, ?_, m2, e⟩
            by_cases y : m = i
            · rw [y] at e; exact absurd e.symm z
            · omega)
      refine ⟨rd', tl', e, q1, fun c hc => ?_⟩
      have ne : c ≠ w i := fun z => hc i (by omega) z.symm
      obtain ⟨k1, k2⟩ := q2 c fun m hm => hc m (by omega)
      rw [k1, k2, upd_o _ _ ne, upd_o _ _ ne]
      exact ⟨rfl, rfl⟩
    rw [show f + (i + 1) + 1 = (f + i + 1) + 1 by omega, fX9_goesFrom_L97, e0, if_neg (nK (show i < 100000 by omega)), clN (show i < 100000 by omega)]
    simp only [if_neg (gK (show i < 1024 by omega)), hpi]
    rw [clN (show w i < 100000 by omega)]
    simp only [if_neg (gK (show w i < 1024 by omega)), hto (w i) hwS]
    unfold fX9_goesFrom_j143
    rw [clN (show w i < 100000 by omega), clN (show i < 100000 by omega)]
    simp only [if_neg (gK (show w i < 1024 by omega)), if_neg (gK (show i < 1024 by omega)), hpi]
    rw [clN (show w i < 100000 by omega), ek]
    simp only [if_neg (gK (show w i < 1024 by omega))]
    cases eF : F (w i) with
    | none =>
      rw [if_neg (c := (0 : Int32) ≤ I (enc none)) (by decide +kernel), if_pos (c := I (enc none) < 0) (by decide +kernel)]
      exact fin (-1) 0 (Or.inl ⟨by rw [upd_s], stk_0 eF⟩)
    | some d =>
      have hd := hnx d eF
      have gd := h d hd
      have hdS : d < S := by
        rcases hd with q | ⟨m, -, m2, q⟩
        · exact (hB d q).1
        · rw [← q]; exact (hp m m2).1
      have ne : d ≠ w i := fun q => hnG (q ▸ hd)
      have hno : ¬ onC F (w i) := off_c hG eF hd hnG
      have ed : I (enc (some d)) = I d := rfl
      rw [ed, if_pos (by rw [L0, I_le (by omega) (by omega) (by omega) (by omega)]; omega), clN (show d < 100000 by omega)]
      simp only [if_neg (gK (show d < 1024 by omega))]
      rw [if_neg (nK (show d < 100000 by omega)), upd_o _ _ ne]
      rcases gd with ⟨q1, q2⟩ | ⟨r, u, L, a1, a2, a3, a4, a5, a6, a7⟩
      · rw [if_pos q1, q1]
        exact fin (-1) 0 (Or.inl ⟨by rw [upd_s], stk_s eF q2⟩)
      · have eu : I u + (1 : Int32) = I (u + 1 : Nat) := by rw [L1, I_add]; rfl
        rw [if_neg (by rw [a3, m1e, I_eq (by omega) (by omega) (by omega) (by omega)]; omega), a3, a4, eu]
        exact fin (I r) (I (u + 1 : Nat)) (Or.inr ⟨r, u + 1, L, a1, a2, by rw [upd_s], by rw [upd_s], a5, LD_s eF a6, TL_s eF hno a7⟩)
theorem finG {F : Nat → Option Nat} {S : Nat} (hS : S ≤ 1024) {lat : Nat → Int} {to : Nat → Int32} (hto : ∀ c, c < S → to c = I (enc (F c))) {R : Nat} (hR : R ≤ S) {B : Nat → Prop} {s : Nat} {w : Nat → Nat} {path : Nat → Int32} (hs : s ≤ S) (hp : ∀ m, m < s → w m < S ∧ path m = I (w m)) (hw : ∀ m, m + 1 < s → F (w m) = some (w (m + 1))) (hi : ∀ a b, a < b → b < s → w a ≠ w b) (hB : ∀ c, B c → c < S ∧ ∀ d, F c = some d → B d) (hBw : ∀ m, m < s → ¬ B (w m)) (hl : 0 < s → ∀ d, F (w (s - 1)) = some d → B d) {rd tl ln pr am bs : Nat → Int32} (hG : ∀ c, B c → MG F S R ln rd tl c) (hM : ∀ r, r < R → MR F S lat rd ln pr am bs r) (h2 : ∀ m, m < s → rd (w m) = -2) (ho : ∀ c, c < S → ¬ B c → (∀ m, m < s → w m ≠ c) → rd c = -3) (x1 : Int32) (g p : Nat → Int32) :
    ∃ rd' tl', fX9_goesFrom_j92 x1 g to (I s) (I R) p rd tl path ln pr am bs = some (I R, p, rd', tl', path, ln, pr, am, bs) ∧ MS F S lat R rd' tl' ln pr am bs ∧ (∀ c, B c → rd' c ≠ -3) ∧ ∀ m, m < s → rd' (w m) ≠ -3 := by
  obtain ⟨rd', tl', e, q1, q2⟩ := goL97 hS hto (show R ≤ 1024 by omega) hs hp hw hi hB hBw hl x1 g p ln pr am bs s (Nat.le_refl s) (99999 - s) rd tl (fun c hc => by
    rcases hc with q | ⟨m, m1, m2, -⟩
    · exact hG c q
    · omega)
  rw [show 99999 - s + s + 1 = FUEL by show _ = 100000; omega] at e
  have es : I s - (1 : Int32) = I ((s : Int) - 1) := by rw [L1, I_sub]
  have ne : ∀ c, (B c ∨ ∃ m, 0 ≤ m ∧ m < s ∧ w m = c) → rd' c ≠ -3 := fun c hc => (MG_ne (show R ≤ 1024 by omega) (q1 c hc)).1
  refine ⟨rd', tl', by unfold fX9_goesFrom_j92; rw [es, e, bnd2_some], ⟨hR, fun c hc => ?_, fun r hr => ?_⟩, fun c hc => ne c (Or.inl hc), fun m hm => ne _ (Or.inr ⟨m, by omega, hm, rfl⟩)⟩
  · by_cases z : B c ∨ ∃ m, 0 ≤ m ∧ m < s ∧ w m = c
    · refine Or.inr ⟨q1 c z, fun d hd => ne d ?_⟩
      rcases z with z | ⟨m, -, m2, rfl⟩
      · exact Or.inl ((hB c z).2 d hd)
      · by_cases q : m + 1 < s
        · rw [hw m q] at hd
          exact Or.inr ⟨m + 1, by omega, q, Option.some.inj hd⟩
        · refine Or.inl (hl (by omega) d ?_)
          rw [show s - 1 = m by omega]; exact hd
    · have hn : ∀ m, m < s → w m ≠ c := fun m hm q => z (Or.inr ⟨m, by omega, hm, q⟩)
      refine Or.inl ?_
      rw [(q2 c hn).1]
      exact ho c hc (fun q => z (Or.inl q)) hn
  · obtain ⟨L, m, a1, a2, a3, a4, a5⟩ := hM r hr
    refine ⟨L, m, a1, a2, a3, ?_, a5⟩
    rw [(q2 L fun k hk q => ?_).1, a4]
    have := h2 k hk
    rw [q, a4, m2e, I_eq (by omega) (by omega) (by omega) (by omega)] at this
    omega
