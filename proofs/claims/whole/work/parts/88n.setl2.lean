/-! Ways: settle, draw -/
theorem setl {N : Nat → Int} (hV : Vl N) {num : Nat → Int32} (hn : ∀ j, j < 10 → num j = I (N j)) {S : Nat} (hS : stN N = S) {x : Int} (x1 : -99 ≤ x) (x2 : x ≤ 99) {B : Nat} (hB : B ≤ 2000000) {as : Bool} {lo : Int} {t o cm : Nat → Int32} (hSI : SI (nxt N x) S (latN N) B as lo t o cm) {start : Nat} (hst : start < S) {W : Nat → Int} (hW : Wd N W) {words : Nat → Int32} (hw : ∀ k, k < 3 → words k = I (W k)) (a v l rr oo ha hr : Int32) :
    ∃ (as' : Bool) (lo' : Int) (a' v' l' r' o' ha' hr' : Int32) (words' t' o2 cm' : Nat → Int32) (W' : Nat → Int), fX7_settle (I start) (I S) (I x) (bo as) (I lo) a v l rr oo ha hr num words o t cm = some (bo as', I lo', a', v', l', r', o', ha', hr', words', o2, t', cm') ∧ SI (nxt N x) S (latN N) (B + 1024) as' lo' t' o2 cm' ∧ t' start ≠ -1 ∧ (∀ c, c < S → t c ≠ -1 → t' c ≠ -1) ∧ Wd N W' ∧ ∀ k, k < 3 → words' k = I (W' k) := by
  have sb := st_b hV
  have hFS : ∀ c d, c < S → nxt N x c = some d → d < S := fun c d hc hd => (nxt_e hV x hS hc).2 d hd
  have hK0 : WK (nxt N x) S start 0 (fun _ => 0) (some start) t o t o := ⟨by omega, fun m hm => absurd hm (by omega), fun m hm => absurd hm (by omega), Or.inl ⟨rfl, rfl⟩, fun a b _ hb => absurd hb (by omega), fun c hc => by rw [← Option.some.inj hc]; exact hst, fun c _ => ⟨rfl, rfl⟩⟩
  obtain ⟨j, w, cur, a', v', l', r', o', ha', hr', words', t1, o1, W', e1, hK, hne, hW', hw'⟩ := walkL hV hn hS x1 x2 start t o S 0 (by omega) (99999 - S) _ _ _ _ hK0 W hW words hw (bo as) (I lo) a v l rr oo ha hr cm
  rw [show 99999 - S + S + 1 = FUEL by show _ = 100000; omega, show I (enc (some start)) = I start from rfl, show I ((0 : Nat) : Int) = 0 from rfl] at e1
  have hK' := hK
  obtain ⟨k1, k2, k3, k4, k5, k6, k7⟩ := hK'
  have hWYj : WY (nxt N x) S start j w cur o1 := ⟨k1, fun m hm => ⟨(k2 m hm).1, (k2 m hm).2.2.2⟩, k3, k4, k5, k6⟩
  have lob := hSI.2.2.1
  have lob2 := hSI.2.2.2.1
  have out1 : ∀ c, (∀ m, m < j → w m ≠ c) → t1 c = t c ∧ cm c = cm c := fun c hc => ⟨(k7 c hc).1, rfl⟩
  unfold fX7_settle fX7_settle_j101
  rw [e1, bnd11_some, isN8 (by omega) cur k6, bnd1_some]
  cases cur with
  | none =>
    obtain ⟨t3, cm3, f1, f2, f3⟩ := joW (S := S) (by omega) hWYj (t := t1) (cm := cm) (fun m hm => (k2 m hm).2.2.1) (fun c hc => absurd hc (by simp)) as (-1) j (Or.inl ⟨rfl, rfl, rfl⟩) (by omega)
    rw [if_pos (c := (if (none : Option Nat).isSome = true then (1 : Int32) else 0) = 0) rfl, f1, bnd3_some]
    obtain ⟨g1, g2, g3⟩ := finJ (S := S) (by omega) hB hSI hK (Nat.le_refl j) (t2 := t1) (cm2 := cm) out1 (fun m m1 m2 => absurd m1 (by omega)) hWYj (fun e he => absurd he (by simp)) (cyc := -1) (tl := j) (Or.inl ⟨rfl, rfl, rfl⟩) (by omega) (fun c tc hc => absurd hc (by simp)) f2 f3 (lo2 := lo) (by omega) lob2 (fun m m1 m2 => absurd m1 (by omega)) (Or.inl rfl) hst hFS
    exact ⟨_, _, _, _, _, _, _, _, _, _, _, _, _, W', rfl, g1, g2, g3, hW', hw'⟩
  | some d =>
    have hd := k6 d rfl
    have ec : I (enc (some d)) = I d := rfl
    rw [if_neg (c := (if (some d : Option Nat).isSome = true then (1 : Int32) else 0) = 0) (by simp), ec, clN (by omega), if_neg (gK (by omega))]
    by_cases hin : ∃ m, m < j ∧ w m = d
    · obtain ⟨m0, m1, m2⟩ := hin
      subst m2
      have hj0 : 0 < j := by omega
      have hlast : nxt N x (w (j - 1)) = some (w m0) := by
        rcases k4 with ⟨q, -⟩ | ⟨-, -, q⟩
        · omega
        · exact q
      have hCY : CY (nxt N x) S (j - m0) (fun q => w (m0 + q)) o1 := by
        refine ⟨by omega, by omega, fun q hq => ⟨(k2 _ (by omega)).1, (k2 _ (by omega)).2.2.2⟩, fun q hq => ?_, fun a b hab hb => k5 _ _ (by omega) (by omega)⟩
        show nxt N x (w (m0 + q)) = some (if q + 1 < j - m0 then w (m0 + (q + 1)) else w (m0 + 0))
        by_cases c : q + 1 < j - m0
        · rw [if_pos c]
          exact k3 (m0 + q) (by omega)
        · rw [if_neg c, show m0 + q = j - 1 by omega, hlast]; rfl
      obtain ⟨t2, cm2, f1, f2, f3⟩ := clsC hV hn hS hCY lo lob lob2 t1 cm (fun q hq => (k2 (m0 + q) (by omega)).2.2.1)
      have f1' : fX7_closeCycle (I (w m0 : Nat)) (I S) (I lo) num o1 t1 cm = _ := f1
      rw [if_pos (k2 m0 m1).2.2.1, f1', bnd3_some]
      have hlv := lov_p (latN N) (fun q => w (m0 + q)) lo (j - m0)
      have cyc2 : ∀ m, m0 ≤ m → m < j → t2 (w m) = 0 ∧ cm2 (w m) = I (mnv (fun q => w (m0 + q)) (j - m0) : Nat) := fun m q1 q2 => by
        have := f2 (m - m0) (by omega)
        simp only [show m0 + (m - m0) = m by omega] at this
        exact this
      have outC : ∀ c, (∀ m, m0 ≤ m → m < j → w m ≠ c) → t2 c = t1 c ∧ cm2 c = cm c := fun c hc => f3 c fun q hq => hc (m0 + q) (by omega) (by omega)
      have hWYm : WY (nxt N x) S start m0 w (some (w m0)) o1 := by
        refine ⟨by omega, fun m hm => ⟨(k2 m (by omega)).1, (k2 m (by omega)).2.2.2⟩, fun m hm => k3 m (by omega), ?_, fun a b hab hb => k5 a b hab (by omega), k6⟩
        by_cases z : m0 = 0
        · subst z
          refine Or.inl ⟨rfl, ?_⟩
          rcases k4 with ⟨q, -⟩ | ⟨-, q, -⟩
          · omega
          · rw [q]
        · refine Or.inr ⟨by omega, ?_, ?_⟩
          · rcases k4 with ⟨q, -⟩ | ⟨-, q, -⟩
            · omega
            · exact q
          · rw [k3 (m0 - 1) (by omega)]; congr 2; omega
      have hct : (some (w m0) = (none : Option Nat) ∧ ((mnv (fun q => w (m0 + q)) (j - m0) : Nat) : Int) = -1 ∧ ((0 : Int) + m0) = m0) ∨ (∃ c tc, some (w m0) = some c ∧ cm2 c = I ((mnv (fun q => w (m0 + q)) (j - m0) : Nat) : Int) ∧ t2 c = I tc ∧ ((0 : Int) + m0) = tc + m0) := Or.inr ⟨w m0, 0, rfl, (cyc2 m0 (Nat.le_refl _) m1).2, by rw [(cyc2 m0 (Nat.le_refl _) m1).1]; rfl, rfl⟩
      have hmS := (CY_LD hCY (q := 0) (by omega)).2.2
      obtain ⟨t3, cm3, h1, h2, h3⟩ := joW (S := S) (by omega) hWYm (t := t2) (cm := cm2) (fun m hm => by
        rw [(outC (w m) fun q q1 q2 => (k5 m q (by omega) q2).symm).1]
        exact (k2 m (by omega)).2.2.1) (fun c hc => by
        rw [← Option.some.inj hc, (cyc2 m0 (Nat.le_refl _) m1).1]; decide) as ((mnv (fun q => w (m0 + q)) (j - m0) : Nat) : Int) ((0 : Int) + m0) hct (by omega)
      rw [h1, bnd3_some]
      obtain ⟨g1, g2, g3⟩ := finJ (S := S) (by omega) hB hSI hK (show m0 ≤ j by omega) (t2 := t2) (cm2 := cm2) (fun c hc => by
        obtain ⟨q1, q2⟩ := outC c fun m _ m2 => hc m m2
        exact ⟨q1.trans (k7 c hc).1, q2⟩) (fun m q1 q2 => by
        have hq := CY_LD hCY (q := m - m0) (by omega)
        simp only [show m0 + (m - m0) = m by omega] at hq
        refine ⟨(cyc2 m q1 q2).1, hq.2.1, ⟨_, (cyc2 m q1 q2).2, hq.2.2, hq.1⟩, fun d hd => ?_⟩
        by_cases c : m + 1 < j
        · rw [k3 m c] at hd
          exact ⟨m + 1, by omega, c, Option.some.inj hd⟩
        · rw [show m = j - 1 by omega, hlast] at hd
          exact ⟨m0, Nat.le_refl _, m1, Option.some.inj hd⟩) hWYm (fun e he => Or.inr ⟨m0, Nat.le_refl _, m1, Option.some.inj he⟩) (cyc := ((mnv (fun q => w (m0 + q)) (j - m0) : Nat) : Int)) (tl := (0 : Int) + m0) hct (by omega) (fun c tc hc ht htl => by omega) h2 h3 (lo2 := lov (latN N) (fun q => w (m0 + q)) lo (j - m0)) hlv.1 (by
        rcases hlv.2.2 with q | ⟨q, -, q2⟩
        · omega
        · have := latN_b hV (w (m0 + q)); omega) (fun m q1 q2 => by
        have := hlv.2.1 (m - m0) (by omega)
        simp only [show m0 + (m - m0) = m by omega] at this
        exact this) (by
        rcases hlv.2.2 with q | ⟨q, q1, q2⟩
        · exact Or.inl q
        · exact Or.inr ⟨m0 + q, by omega, by omega, q2⟩) hst hFS
      exact ⟨_, _, _, _, _, _, _, _, _, _, _, _, _, W', rfl, g1, g2, g3, hW', hw'⟩
    · have hout : ∀ m, m < j → w m ≠ d := fun m hm e => hin ⟨m, hm, e⟩
      have htd := hne d rfl
      rw [(k7 d hout).1] at htd
      rcases hSI.1 d hd with q | ⟨hg, -⟩
      · exact absurd q htd
      · obtain ⟨u, hu, eu, n1, n2⟩ := gd_t hg (by omega)
        obtain ⟨cyc, c1, c2, c3, -⟩ := gd_cm hg (show S ≤ 1024 by omega)
        have t1d : t1 d = I u := by rw [(k7 d hout).1, eu]
        have hct : (some d = (none : Option Nat) ∧ cyc = -1 ∧ ((u : Int) + j) = j) ∨ (∃ c tc, some d = some c ∧ cm c = I cyc ∧ t1 c = I tc ∧ ((u : Int) + j) = tc + j) := Or.inr ⟨d, u, rfl, c1, t1d, rfl⟩
        have n2' : t1 d ≠ -2 := by rw [(k7 d hout).1]; exact n2
        obtain ⟨t3, cm3, f1, f2, f3⟩ := joW (S := S) (by omega) hWYj (t := t1) (cm := cm) (fun m hm => (k2 m hm).2.2.1) (fun c hc => by rw [← Option.some.inj hc]; exact n2') as cyc ((u : Int) + j) hct ⟨c2, c3⟩
        rw [if_neg n2', f1, bnd3_some]
        obtain ⟨g1, g2, g3⟩ := finJ (S := S) (by omega) hB hSI hK (Nat.le_refl j) (t2 := t1) (cm2 := cm) out1 (fun m m1 m2 => absurd m1 (by omega)) hWYj (fun e he => by rw [← Option.some.inj he]; exact Or.inl ⟨hout, htd⟩) hct ⟨c2, c3⟩ (fun c tc hc ht htl => by omega) f2 f3 (lo2 := lo) (by omega) lob2 (fun m m1 m2 => absurd m1 (by omega)) (Or.inl rfl) hst hFS
        exact ⟨_, _, _, _, _, _, _, _, _, _, _, _, _, W', rfl, g1, g2, g3, hW', hw'⟩
/-- all is settled, and right -/
def SF (N : Nat → Int) (x : Int) (S : Nat) (B : Nat) (as : Bool) (lo : Int) (t o cm : Nat → Int32) : Prop := SI (nxt N x) S (latN N) B as lo t o cm ∧ ∀ c, c < S → t c ≠ -1
theorem drwL {N : Nat → Int} (hV : Vl N) {num : Nat → Int32} (hn : ∀ j, j < 10 → num j = I (N j)) {S : Nat} (hS : stN N = S) {x : Int} (x1 : -99 ≤ x) (x2 : x ≤ 99) (y : Int32) (fn fw : Nat → Int32) (wh : Int32) :
    ∀ d k : Nat, k + d = S → ∀ (f : Nat) (as : Bool) (lo : Int) (t o cm : Nat → Int32), SI (nxt N x) S (latN N) (1024 * k) as lo t o cm → (∀ c, c < k → t c ≠ -1) → ∀ (W : Nat → Int) (hW : Wd N W) (words : Nat → Int32) (hw : ∀ k, k < 3 → words k = I (W k)) (a v l rr oo ha hr : Int32), ∃ (as' : Bool) (lo' : Int) (a' v' l' r' o' ha' hr' : Int32) (words' t' o2 cm' : Nat → Int32) (W' : Nat → Int), fX7_draw_L35 y fn fw (f + d + 1) (I k) (I S) (I x) wh (bo as) (I lo) a v l rr oo ha hr num words o t cm = some (bo as', I lo', a', v', l', r', o', ha', hr', words', o2, t', cm') ∧ SF N x S (1024 * S) as' lo' t' o2 cm' ∧ Wd N W' ∧ ∀ k, k < 3 → words' k = I (W' k) := by
  intro d
  have sb := st_b hV
  induction d with
  | zero =>
    intro k hk f as lo t o cm hSI hset W hW words hw a v l rr oo ha hr
    have e : k = S := by omega
    subst e
    rw [fX7_draw_L35, if_pos (by rw [I_le (by omega) (by omega) (by omega) (by omega)]; omega)]
    exact ⟨as, lo, _, _, _, _, _, _, _, _, _, _, _, W, rfl, ⟨hSI, hset⟩, hW, hw⟩
  | succ d ih =>
    intro k hk f as lo t o cm hSI hset W hW words hw a v l rr oo ha hr
    obtain ⟨as', lo', a', v', l', r', o', ha', hr', words', t', o2, cm', W', e1, g1, g2, g3, g4, g5⟩ := setl hV hn hS x1 x2 (by omega) hSI (show k < S by omega) hW hw a v l rr oo ha hr
    rw [show f + (d + 1) + 1 = (f + d + 1) + 1 by omega, fX7_draw_L35, if_neg (by rw [I_le (by omega) (by omega) (by omega) (by omega)]; omega), e1, bnd13_some, L1, I_add]
    rw [show 1024 * k + 1024 = 1024 * (k + 1) by omega] at g1
    exact ih (k + 1) (by omega) f as' lo' t' o2 cm' g1 (fun c hc => by
      by_cases e : c = k
      · rw [e]; exact g2
      · exact g3 c (by omega) (hset c (by omega))) W' g4 words' g5 a' v' l' r' o' ha' hr'
theorem begL (x y : Int32) (fn fw : Nat → Int32) {S : Nat} (hS : S ≤ 1024) (wh as lo : Int32) (num words : Nat → Int32) : ∀ d k : Nat, k + d = S → ∀ (f : Nat) (t : Nat → Int32), ∃ t', fX7_begin_L47 x fn fw (f + d + 1) (I k) (I S) y wh as lo num words t = some t' ∧ ∀ c, c < S → t' c = if k ≤ c then -1 else t c := by
  intro d
  induction d with
  | zero =>
    intro k hk f t
    have e : k = S := by omega
    subst e
    rw [fX7_begin_L47, if_pos (by rw [I_le (by omega) (by omega) (by omega) (by omega)]; omega)]
    exact ⟨_, rfl, fun c hc => by rw [if_neg (by omega)]⟩
  | succ d ih =>
    intro k hk f t
    have ek : I k + (1 : Int32) = I (k + 1 : Nat) := by rw [L1, I_add]; rfl
    rw [show f + (d + 1) + 1 = (f + d + 1) + 1 by omega, fX7_begin_L47, if_neg (by rw [I_le (by omega) (by omega) (by omega) (by omega)]; omega), clN (by omega), if_neg (gK (by omega)), ek]
    obtain ⟨t', e, h⟩ := ih (k + 1) (by omega) f (upd t k (-1))
    refine ⟨t', e, fun c hc => ?_⟩
    rw [h c hc]
    by_cases c1 : k + 1 ≤ c
    · rw [if_pos c1, if_pos (by omega)]
    · rw [if_neg c1]
      by_cases c2 : k ≤ c
      · have ec : c = k := by omega
        rw [if_pos c2, ec, upd_s]
      · rw [if_neg c2, upd_o _ _ (by omega)]
theorem SI_0 {F : Nat → Option Nat} {S : Nat} {lat : Nat → Int} {t o cm : Nat → Int32} (h : ∀ c, c < S → t c = -1) : SI F S lat 0 false (-1) t o cm :=
  ⟨fun c hc => Or.inl (h c hc), ⟨fun q => absurd q (by decide), fun ⟨c, c1, c2, _⟩ => absurd (h c c1) c2⟩, by omega, by omega, fun c hc q => absurd (h c hc) q, Or.inl rfl⟩
theorem begX {N W : Nat → Int} (hV : Vl N) {num words : Nat → Int32} (hn : ∀ j, j < 10 → num j = I (N j)) (hw : ∀ k, k < 3 → words k = I (W k)) {S : Nat} (hS : stN N = S) (x : Int32) (sz tl wh as lo : Int32) (bn bw t : Nat → Int32) : ∃ n' w' t', fX7_begin x sz tl wh as lo bn bw t num words = some (I S, x, 0, 0, -1, n', w', t') ∧ (∀ j, j < 10 → n' j = I (N j)) ∧ (∀ k, k < 3 → w' k = I (W k)) ∧ ∀ c, c < S → t' c = -1 := by
  have sb := st_b hV
  obtain ⟨n', w', e1, b1, b2, -⟩ := tak8 bn bw num words
  have hn' : ∀ j, j < 10 → n' j = I (N j) := fun j hj => (b1 j hj).trans (hn j hj)
  have em : (if (1024 : Int32) < I S then (1024 : Int32) else I S) = I S := by
    rw [L1024, if_neg (by rw [I_lt (by omega) (by omega) (by omega) (by omega)]; omega)]
  obtain ⟨t', e2, h2⟩ := begL x x num words (S := S) (by omega) 0 0 (-1) n' w' S 0 (by omega) (99999 - S) t
  rw [show 99999 - S + S + 1 = FUEL by show _ = 100000; omega, show I ((0 : Nat) : Int) = 0 from rfl] at e2
  unfold fX7_begin
  rw [e1, bnd2_some, sta8 hV hn', bnd1_some, hS, em, e2, bnd1_some]
  exact ⟨n', w', t', rfl, hn', fun k hk => (b2 k hk).trans (hw k hk), fun c hc => by rw [h2 c hc, if_pos (by omega)]⟩
/-- what Ways holds, where it is whole -/
def WS (sz tl wh as lo : Int32) (bn bw o t cm : Nat → Int32) : Prop := wh = 0 ∨ wh = 1 ∧ ∃ (N W : Nat → Int) (x : Int) (S : Nat) (ab : Bool) (l : Int), Vl N ∧ Wd N W ∧ (∀ j, j < 10 → bn j = I (N j)) ∧ (∀ k, k < 3 → bw k = I (W k)) ∧ -99 ≤ x ∧ x ≤ 99 ∧ tl = I x ∧ stN N = S ∧ sz = I S ∧ as = bo ab ∧ lo = I l ∧ SF N x S (1024 * S) ab l t o cm
theorem nxt_c {N M : Nat → Int} (hV : Vl N) (h : ∀ j, j < 10 → N j = M j) (x : Int) : stN N = stN M ∧ hf N = hf M ∧ (∀ c : Nat, nxt N x c = nxt M x c) ∧ ∀ c : Nat, latN N c = latN M c := by
  have e0 := h 0 (by omega)
  have e1 := h 1 (by omega)
  have e2 := h 2 (by omega)
  have e3 := h 3 (by omega)
  have e4 := h 4 (by omega)
  have e5 := h 5 (by omega)
  have e6 := h 6 (by omega)
  have e7 := h 7 (by omega)
  have e8 := h 8 (by omega)
  have e9 := h 9 (by omega)
  have hu : ∀ c : Int, unW N c = unW M c := fun c => by
    funext k
    unfold unW hf
    rw [e0, e1]
  have hs : ∀ W y, sS N W y = sS M W y := fun W y => by
    unfold sS vS aS gA gR rr hf
    rw [e0, e1, e2, e3, e4, e5, e6, e7, e8, e9]
  refine ⟨by unfold stN; rw [e0, e1], by unfold hf; rw [e1], fun c => ?_, fun c => by unfold latN; rw [hu]⟩
  have hx : nx N x c = nx M x c := by
    unfold nx hf
    rw [hu, hs, e0, e1]
  unfold nxt
  rw [hx]
theorem drwX {N W : Nat → Int} (hV : Vl N) (hW : Wd N W) {num words : Nat → Int32} (hn : ∀ j, j < 10 → num j = I (N j)) (hw : ∀ k, k < 3 → words k = I (W k)) {S : Nat} (hS : stN N = S) {x : Int} (x1 : -99 ≤ x) (x2 : x ≤ 99) (sz tl wh as lo a v l rr oo ha hr : Int32) (bn bw o t cm : Nat → Int32) (hWS : WS sz tl wh as lo bn bw o t cm) :
    ∃ (as' : Bool) (lo' : Int) (a' v' l' r' o' ha' hr' : Int32) (bn' bw' o2 t' cm' : Nat → Int32), fX7_draw (I x) sz tl wh as lo a v l rr oo ha hr bn bw o t cm num words = some (I S, I x, 1, bo as', I lo', a', v', l', r', o', ha', hr', bn', bw', o2, t', cm') ∧ SF N x S (1024 * S) as' lo' t' o2 cm' ∧ (∀ j, j < 10 → bn' j = I (N j)) ∧ WS (I S) (I x) 1 (bo as') (I lo') bn' bw' o2 t' cm' := by
  have sb := st_b hV
  have hj : ∃ (as' : Bool) (lo' : Int) (a' v' l' r' o' ha' hr' : Int32) (bn' bw' o2 t' cm' : Nat → Int32), fX7_draw_j27 (I x) num words sz tl wh as lo a v l rr oo ha hr bn bw o t cm = some (I S, I x, 1, bo as', I lo', a', v', l', r', o', ha', hr', bn', bw', o2, t', cm') ∧ SF N x S (1024 * S) as' lo' t' o2 cm' ∧ (∀ j, j < 10 → bn' j = I (N j)) ∧ WS (I S) (I x) 1 (bo as') (I lo') bn' bw' o2 t' cm' := by
    obtain ⟨n', w', t0, e1, b1, b2, b3⟩ := begX hV hn hw hS (I x) sz tl wh as lo bn bw t
    obtain ⟨as', lo', a', v', l', r', o', ha', hr', words', t', o2, cm', W', e2, h2, h3, h4⟩ := drwL hV b1 hS x1 x2 (I x) num words 0 S 0 (by omega) (99999 - S) false (-1) t0 o cm (SI_0 b3) (fun c hc => absurd hc (by omega)) W hW w' b2 a v l rr oo ha hr
    rw [show 99999 - S + S + 1 = FUEL by show _ = 100000; omega, show I ((0 : Nat) : Int) = 0 from rfl, bo_f, ← m1e] at e2
    unfold fX7_draw_j27
    rw [e1, bnd8_some, e2, bnd13_some]
    exact ⟨as', lo', _, _, _, _, _, _, _, _, _, _, _, _, rfl, h2, b1, Or.inr ⟨rfl, N, W', x, S, as', lo', hV, h3, b1, h4, x1, x2, rfl, hS, rfl, rfl, rfl, h2⟩⟩
  unfold fX7_draw
  rcases hWS with hz | ⟨hw1, N2, W2, y, S2, ab, l2, v1, v2, v3, v4, v5, v6, rfl, v8, rfl, rfl, rfl, v12⟩
  · rw [if_pos hz]; exact hj
  · by_cases c : wh = 0
    · rw [if_pos c]; exact hj
    · rw [if_neg c]
      by_cases c1 : I y = I x
      · have exy := I_inj (by omega) (by omega) (by omega) (by omega) c1
        subst exy
        rw [if_pos rfl]
        rcases hsN8 bn num with ⟨h1, h2⟩ | ⟨h1, h2⟩
        · have hNN : ∀ j, j < 10 → N2 j = N j := num_eq v1 hV v3 (fun j hj => (h1 j hj).trans (hn j hj))
          obtain ⟨q1, q2, q3, q4⟩ := nxt_c v1 hNN y
          have eS : S2 = S := by omega
          subst eS
          have eF : nxt N2 y = nxt N y := funext q3
          have eL : latN N2 = latN N := funext q4
          have v12' : SF N y S2 (1024 * S2) ab l2 t o cm := by
            unfold SF at v12 ⊢
            rw [← eF, ← eL]; exact v12
          have hwh : wh ≠ 0 := c
          rw [h2, bnd1_some, if_neg (c := (1 : Int32) = 0) (by decide)]
          subst hw1
          exact ⟨ab, l2, _, _, _, _, _, _, _, _, _, _, _, _, rfl, v12', fun j hj => by rw [v3 j hj, hNN j hj], Or.inr ⟨rfl, N2, W2, y, S2, ab, l2, v1, v2, v3, v4, v5, v6, rfl, v8, rfl, rfl, rfl, v12⟩⟩
        · rw [h2, bnd1_some, if_pos (c := (0 : Int32) = 0) rfl]; exact hj
      · rw [if_neg c1]; exact hj
