/-! Ways, the reference's side: the walk -/
theorem m3e : (-3 : Int32) = I (-3) := by decide +kernel
noncomputable def tr (P : Prop) : Bool := @decide P (Classical.propDecidable P)
theorem tr_e {P : Prop} : tr P = true ↔ P := by
  unfold tr
  exact @decide_eq_true_iff P (Classical.propDecidable P)
theorem tr_c {P Q : Prop} (h : P ↔ Q) : tr P = tr Q := by rw [propext h]
def Mx (P : Nat → Prop) (f : Nat → Nat) (m : Nat) : Prop := (∀ c, P c → f c ≤ m) ∧ (m = 0 ∨ ∃ c, P c ∧ m = f c)
theorem Mx_one {P : Nat → Prop} {f : Nat → Nat} {m n : Nat} (h1 : Mx P f m) (h2 : Mx P f n) : m = n := by
  have key : ∀ {m n : Nat}, Mx P f m → Mx P f n → m ≤ n := by
    intro m n h1 h2
    rcases h1.2 with e | ⟨c, hc, e⟩
    · omega
    · rw [e]; exact h2.1 c hc
  exact Nat.le_antisymm (key h1 h2) (key h2 h1)
theorem ct_im {S : Nat} : ∀ (p : Nat) (v : Nat → Nat) (q : Nat → Bool), (∀ i, i < p → v i < S) → (∀ a b, a < b → b < p → v a ≠ v b) → (∀ c, c < S → (q c = true ↔ ∃ i, i < p ∧ v i = c)) → fb_ct q S = p
  | 0, v, q, _, _, h => fb_ct_zero.mpr fun k hk => by
    cases e : q k with
    | false => rfl
    | true =>
      obtain ⟨i, hi, -⟩ := (h k hk).mp e
      omega
  | p + 1, v, q, h1, h2, h3 => by
    have ih := ct_im p v (fun k => if k = v p then false else q k) (fun i hi => h1 i (by omega)) (fun a b hab hb => h2 a b hab (by omega)) (fun c hc => by
      by_cases e : c = v p
      · simp only [if_pos e]
        exact ⟨fun z => absurd z (by decide), fun ⟨i, hi, ei⟩ => absurd (ei.trans e) (h2 i p hi (by omega))⟩
      · simp only [if_neg e]
        rw [h3 c hc]
        exact ⟨fun ⟨i, hi, ei⟩ => ⟨i, by
          by_cases z : i = p
          · rw [z] at ei; exact absurd ei.symm e
          · omega, ei⟩, fun ⟨i, hi, ei⟩ => ⟨i, by omega, ei⟩⟩)
    have := fb_ct_upd q false (h1 p (by omega))
    rw [ih, if_pos ((h3 (v p) (h1 p (by omega))).mpr ⟨p, by omega, rfl⟩), if_neg (by decide)] at this
    omega
theorem it_lt {F : Nat → Option Nat} {S : Nat} (hF : ∀ c, c < S → ∀ d, F c = some d → d < S) {c : Nat} (hc : c < S) : ∀ (n d : Nat), it F n c = some d → d < S
  | 0, d, h => by rw [← Option.some.inj h]; exact hc
  | n + 1, d, h => by
    have h' : (it F n c).bind F = some d := h
    cases e : it F n c with
    | none => rw [e] at h'; exact absurd h' (by simp)
    | some u =>
      rw [e] at h'
      exact hF u (it_lt hF hc n u e) d h'
theorem it_pre {F : Nat → Option Nat} {c d n m : Nat} (h : it F n c = some d) (hm : m ≤ n) : ∃ e, it F m c = some e := by
  cases q : it F m c with
  | some e => exact ⟨e, rfl⟩
  | none =>
    have := it_no q (n - m)
    rw [show m + (n - m) = n by omega, h] at this
    exact absurd this (by simp)
theorem TL_le {F : Nat → Option Nat} {S : Nat} (hF : ∀ c, c < S → ∀ d, F c = some d → d < S) {c u : Nat} (hc : c < S) (h : TL F c u) : u ≤ S := by
  obtain ⟨⟨d, e, o⟩, l⟩ := h
  have hs : ∀ s, s < u → it F s c = some ((it F s c).getD 0) := fun s hs => by
    obtain ⟨w, ew⟩ := it_pre e (show s ≤ u by omega)
    rw [ew]; rfl
  refine fb_holes S u (fun s => (it F s c).getD 0) (fun i hi => it_lt hF hc i _ (hs i hi)) (fun i j hij hj q => ?_)
  have hi := hs i (by omega)
  have hj' := hs j hj
  have q' : (it F i c).getD 0 = (it F j c).getD 0 := q
  rw [← q'] at hj'
  refine l i _ (by omega) hi ⟨j - i, by omega, ?_⟩
  have := it_to hi (n := j - i)
  rw [show i + (j - i) = j by omega, hj'] at this
  exact this.symm
/-- a walk of the reference -/
def WM (F : Nat → Option Nat) (S start j : Nat) (w : Nat → Nat) (cur : Option Nat) (rd0 rd path : Nat → Int32) : Prop :=
  j ≤ S ∧ (∀ m, m < j → w m < S ∧ rd0 (w m) = -3 ∧ rd (w m) = -2 ∧ path m = I (w m)) ∧ (∀ m, m + 1 < j → F (w m) = some (w (m + 1))) ∧ ((j = 0 ∧ cur = some start) ∨ (0 < j ∧ w 0 = start ∧ F (w (j - 1)) = cur)) ∧ (∀ a b, a < b → b < j → w a ≠ w b) ∧ (∀ c, cur = some c → c < S) ∧ ∀ c, (∀ m, m < j → w m ≠ c) → rd c = rd0 c
theorem WM_s {F : Nat → Option Nat} {S start j : Nat} {w : Nat → Nat} {c : Nat} {rd0 rd path : Nat → Int32} (h : WM F S start j w (some c) rd0 rd path) (hF : ∀ d, F c = some d → d < S) (hc : rd c = -3) : j < S ∧ WM F S start (j + 1) (fun m => if m = j then c else w m) (F c) rd0 (upd rd c (-2)) (upd path j (I c)) := by
  obtain ⟨h1, h2, h3, h4, h5, h6, h7⟩ := h
  have hcS := h6 c rfl
  have hno : ∀ m, m < j → w m ≠ c := fun m hm e => by
    have := (h2 m hm).2.2.1
    rw [e, hc] at this
    exact absurd this (by decide)
  have hj : j < S := by
    rcases Nat.lt_or_ge j S with q | q
    · exact q
    · exfalso
      have := fb_holes S (j + 1) (fun m => if m = j then c else w m) (fun i hi => by
        show (if i = j then c else w i) < S
        by_cases e : i = j
        · rw [if_pos e]; exact hcS
        · rw [if_neg e]; exact (h2 i (by omega)).1) (fun i k hik hk => by
        show (if i = j then c else w i) ≠ (if k = j then c else w k)
        rw [if_neg (by omega)]
        by_cases e : k = j
        · rw [if_pos e]; exact hno i (by omega)
        · rw [if_neg e]; exact h5 i k hik (by omega))
      omega
  refine ⟨hj, by omega, fun m hm => ?_, fun m hm => ?_, Or.inr ⟨by omega, ?_, ?_⟩, fun a b hab hb => ?_, fun d hd => hF d hd, fun d hd => ?_⟩
  · by_cases e : m = j
    · simp only [if_pos e]
      exact ⟨hcS, by rw [← h7 c hno, hc], by rw [upd_s], by rw [e, upd_s]⟩
    · obtain ⟨a1, a2, a3, a4⟩ := h2 m (by omega)
      have ne := hno m (by omega)
      simp only [if_neg e]
      exact ⟨a1, a2, by rw [upd_o _ _ ne, a3], by rw [upd_o _ _ e, a4]⟩
  · simp only
    rw [if_neg (by omega)]
    by_cases e : m + 1 = j
    · rw [if_pos e]
      rcases h4 with ⟨q, -⟩ | ⟨-, -, q⟩
      · omega
      · rw [← q]; congr 2; omega
    · rw [if_neg e]; exact h3 m (by omega)
  · simp only
    by_cases e : 0 = j
    · rw [if_pos e]
      rcases h4 with ⟨-, q⟩ | ⟨q, -⟩
      · exact Option.some.inj q
      · omega
    · rw [if_neg e]
      rcases h4 with ⟨q, -⟩ | ⟨-, q, -⟩
      · omega
      · exact q
  · simp only
    rw [if_pos (by omega)]
  · simp only
    rw [if_neg (by omega)]
    by_cases e : b = j
    · rw [if_pos e]; exact hno a (by omega)
    · rw [if_neg e]; exact h5 a b hab (by omega)
  · have hdc : d ≠ c := fun e => by
      have q : (if j = j then c else w j) ≠ d := hd j (by omega)
      rw [if_pos rfl] at q
      exact q e.symm
    rw [upd_o _ _ hdc]
    refine h7 d fun m hm e => ?_
    have q : (if m = j then c else w m) ≠ d := hd m (by omega)
    rw [if_neg (by omega)] at q
    exact q e
theorem goL4 {F : Nat → Option Nat} {S : Nat} (hS : S ≤ 1024) (hF : ∀ c, c < S → ∀ d, F c = some d → d < S) {to : Nat → Int32} (hto : ∀ c, c < S → to c = I (enc (F c))) (start : Nat) (x1 : Int32) (g rd0 : Nat → Int32) (R : Int32) (p tl ln pr am bs : Nat → Int32) :
    ∀ (d j : Nat), j + d = S → ∀ (f : Nat) (w : Nat → Nat) (cur : Option Nat) (rd path : Nat → Int32), WM F S start j w cur rd0 rd path → ∃ (j' : Nat) (w' : Nat → Nat) (cur' : Option Nat) (rd' path' : Nat → Int32), fX9_goesFrom_L4 x1 g to (f + d + 1) (I j) (I (enc cur)) R p rd tl path ln pr am bs = some (I j', I (enc cur'), rd', path') ∧ WM F S start j' w' cur' rd0 rd' path' ∧ ∀ c, cur' = some c → rd' c ≠ -3 := by
  intro d
  induction d with
  | zero =>
    intro j hj f w cur rd path hK
    have hend : fX9_goesFrom_L4 x1 g to (f + 0 + 1) (I j) (I (enc cur)) R p rd tl path ln pr am bs = some (I j, I (enc cur), rd, path) ∧ ∀ c, cur = some c → rd c ≠ -3 := by
      rw [show f + 0 + 1 = f + 1 by omega, fX9_goesFrom_L4]
      cases cur with
      | none => rw [if_pos (c := I (enc none) < 0) (by decide +kernel)]; exact ⟨rfl, fun c hc => absurd hc (by simp)⟩
      | some c =>
        have hc := hK.2.2.2.2.2.1 c rfl
        have ec : I (enc (some c)) = I c := rfl
        have hne : rd c ≠ -3 := fun q => by
          have := (WM_s hK (hF c hc) q).1
          omega
        rw [ec, if_neg (nK (show c < 100000 by omega)), clN (by omega), if_neg (gK (by omega)), if_neg hne]
        exact ⟨rfl, fun d hd => by rw [← Option.some.inj hd]; exact hne⟩
    exact ⟨j, w, cur, rd, path, hend.1, hK, hend.2⟩
  | succ d ih =>
    intro j hj f w cur rd path hK
    rw [show f + (d + 1) + 1 = (f + d + 1) + 1 by omega, fX9_goesFrom_L4]
    cases cur with
    | none =>
      rw [if_pos (c := I (enc none) < 0) (by decide +kernel)]
      exact ⟨j, w, none, rd, path, rfl, hK, fun c hc => absurd hc (by simp)⟩
    | some c =>
      have hc := hK.2.2.2.2.2.1 c rfl
      have ec : I (enc (some c)) = I c := rfl
      have ej : I j + (1 : Int32) = I (j + 1 : Nat) := by rw [L1, I_add]; rfl
      rw [ec, if_neg (nK (show c < 100000 by omega)), clN (by omega)]
      simp only [if_neg (gK (show c < 1024 by omega))]
      by_cases h : rd c = -3
      · rw [if_pos h, clN (show j < 100000 by omega), if_neg (gK (by omega)), ej, hto c hc]
        exact ih (j + 1) (by omega) f _ (F c) _ _ (WM_s hK (hF c hc) h).2
      · rw [if_neg h]
        exact ⟨j, w, some c, rd, path, rfl, hK, fun d hd => by rw [← Option.some.inj hd]; exact h⟩
