/-! Ways: tamed -/
def CLM (N : Nat → Int) (x : Int) (S : Nat) (most : Int) : Prop := (∀ c, c < S → ¬ stk (nxt N x) c) ∧ ∀ c, c < S → onC (nxt N x) c → ((latN N c).natAbs : Int) ≤ most
theorem styL {N : Nat → Int} (hV : Vl N) {num : Nat → Int32} (hn : ∀ j, j < 10 → num j = I (N j)) {S : Nat} (hS : stN N = S) {x : Int} (x1 : -99 ≤ x) (x2 : x ≤ 99) (y wh : Int32) (n8 w8 : Nat → Int32) {most : Int} (m1 : 0 ≤ most) (m2 : most ≤ 99) :
    ∀ d k : Nat, k + d = S → ∀ (f : Nat) (lo : Int) (t o cm : Nat → Int32), SI (nxt N x) S (latN N) (1024 * k) false lo t o cm → (∀ c, c < k → t c ≠ -1) → lo ≤ most → ∀ (W : Nat → Int) (hW : Wd N W) (words : Nat → Int32) (hw : ∀ k, k < 3 → words k = I (W k)) (a v l rr oo ha hr : Int32), ∃ (as' lo' a' v' l' r' o' ha' hr' : Int32) (words' t' o2 cm' : Nat → Int32), (fX7_staysWithin_L9 y (I most) n8 w8 (f + d + 1) (I k) (I S) (I x) wh (bo false) (I lo) a v l rr oo ha hr num words o t cm = some (.inl (as', lo', a', v', l', r', o', ha', hr', words', o2, t', cm')) ∧ ¬ CLM N x S most) ∨ ∃ (l2 : Int) (W' : Nat → Int), fX7_staysWithin_L9 y (I most) n8 w8 (f + d + 1) (I k) (I S) (I x) wh (bo false) (I lo) a v l rr oo ha hr num words o t cm = some (.inr (bo false, I l2, a', v', l', r', o', ha', hr', words', o2, t', cm')) ∧ SF N x S (1024 * S) false l2 t' o2 cm' ∧ CLM N x S most ∧ Wd N W' ∧ ∀ k, k < 3 → words' k = I (W' k) := by
  intro d
  have sb := st_b hV
  induction d with
  | zero =>
    intro k hk f lo t o cm hSI hset hlo W hW words hw a v l rr oo ha hr
    have e : k = S := by omega
    subst e
    rw [show f + 0 + 1 = f + 1 by omega, fX7_staysWithin_L9, if_pos (by rw [I_le (by omega) (by omega) (by omega) (by omega)]; omega)]
    refine ⟨0, 0, _, _, _, _, _, _, _, _, _, _, _, Or.inr ⟨lo, W, rfl, ⟨hSI, hset⟩, ⟨fun c hc hs => ?_, fun c hc ho => ?_⟩, hW, hw⟩⟩
    · exact absurd (hSI.2.1.mpr ⟨c, hc, hset c hc, hs⟩) (by decide)
    · have := hSI.2.2.2.2.1 c hc (hset c hc) ho
      omega
  | succ d ih =>
    intro k hk f lo t o cm hSI hset hlo W hW words hw a v l rr oo ha hr
    obtain ⟨as', lo', a', v', l', r', o', ha', hr', words', t', o2, cm', W', e1, g1, g2, g3, g4, g5⟩ := setl hV hn hS x1 x2 (by omega) hSI (show k < S by omega) hW hw a v l rr oo ha hr
    rw [show f + (d + 1) + 1 = (f + d + 1) + 1 by omega, fX7_staysWithin_L9, if_neg (by rw [I_le (by omega) (by omega) (by omega) (by omega)]; omega), e1, bnd13_some]
    have hl1 := g1.2.2.1
    have hl2 := g1.2.2.2.1
    cases has : as' with
    | true =>
      subst has
      rw [if_neg bo_t]
      refine ⟨_, _, _, _, _, _, _, _, _, _, _, _, _, Or.inl ⟨rfl, fun q => ?_⟩⟩
      obtain ⟨c, c1, -, c3⟩ := g1.2.1.mp rfl
      exact q.1 c c1 c3
    | false =>
      subst has
      rw [if_pos bo_f]
      by_cases z : lo' ≤ most
      · rw [if_pos (by rw [I_le (by omega) (by omega) (by omega) (by omega)]; exact z), upN]
        rw [show 1024 * k + 1024 = 1024 * (k + 1) by omega] at g1
        exact ih (k + 1) (by omega) f lo' t' o2 cm' g1 (fun c hc => by
          by_cases e : c = k
          · rw [e]; exact g2
          · exact g3 c (by omega) (hset c (by omega))) z W' g4 words' g5 a' v' l' r' o' ha' hr'
      · rw [if_neg (by rw [I_le (by omega) (by omega) (by omega) (by omega)]; exact z)]
        refine ⟨_, _, _, _, _, _, _, _, _, _, _, _, _, Or.inl ⟨rfl, fun q => ?_⟩⟩
        rcases g1.2.2.2.2.2 with e | ⟨c, c1, -, c3, c4⟩
        · omega
        · have := q.2 c c1 c3
          omega
theorem styX {N W : Nat → Int} (hV : Vl N) (hW : Wd N W) {num words : Nat → Int32} (hn : ∀ j, j < 10 → num j = I (N j)) (hw : ∀ k, k < 3 → words k = I (W k)) {S : Nat} (hS : stN N = S) {x : Int} (x1 : -99 ≤ x) (x2 : x ≤ 99) {most : Int} (m1 : 0 ≤ most) (m2 : most ≤ 99) (sz tl wh as lo a v l rr oo ha hr : Int32) (bn bw o t cm : Nat → Int32) :
    ∃ (r sz' tl' wh' as' lo' a' v' l' r' o' ha' hr' : Int32) (bn' bw' o2 t' cm' : Nat → Int32), fX7_staysWithin (I x) (I most) sz tl wh as lo a v l rr oo ha hr bn bw o t cm num words = some (r, sz', tl', wh', as', lo', a', v', l', r', o', ha', hr', bn', bw', o2, t', cm') ∧ WS sz' tl' wh' as' lo' bn' bw' o2 t' cm' ∧ ((r = 1 ∧ CLM N x S most) ∨ (r = 0 ∧ ¬ CLM N x S most)) := by
  have sb := st_b hV
  obtain ⟨n', w', t0, e1, b1, b2, b3⟩ := begX hV hn hw hS (I x) sz tl wh as lo bn bw t
  obtain ⟨as', lo', a', v', l', r', o', ha', hr', words', t', o2, cm', h⟩ := styL hV b1 hS x1 x2 (I x) 0 num words m1 m2 S 0 (by omega) (99999 - S) (-1) t0 o cm (SI_0 b3) (fun c hc => absurd hc (by omega)) (by omega) W hW w' b2 a v l rr oo ha hr
  rw [show 99999 - S + S + 1 = FUEL by show _ = 100000; omega, show I ((0 : Nat) : Int) = 0 from rfl, bo_f, ← m1e] at h
  unfold fX7_staysWithin
  rw [e1, bnd8_some]
  rcases h with ⟨e2, hc⟩ | ⟨l2, W', e2, hSF, hc, hW', hw'⟩
  · rw [e2]
    exact ⟨_, _, _, _, _, _, _, _, _, _, _, _, _, _, _, _, _, _, rfl, Or.inl rfl, Or.inr ⟨rfl, hc⟩⟩
  · rw [e2]
    exact ⟨_, _, _, _, _, _, _, _, _, _, _, _, _, _, _, _, _, _, rfl, Or.inr ⟨rfl, N, W', x, S, false, l2, hV, hW', b1, hw', x1, x2, rfl, hS, rfl, rfl, rfl, hSF⟩, Or.inl ⟨rfl, hc⟩⟩
theorem clm9 {N : Nat → Int} {x : Int} {S R : Nat} (S0 : 0 < S) (hS : S ≤ 1024) {most : Int} (m1 : 0 ≤ most) (m2 : most ≤ 99) {st on lg ld : Int32} {to rd tl ln pr am bs nb : Nat → Int32} (h : RF (nxt N x) S (latN N) R st on lg ld to rd tl ln pr am bs nb) : (st = 0 ∧ ¬ (I most < ld)) ↔ CLM N x S most := by
  obtain ⟨-, -, h3, -, -, hst, -, -, m, hm1, hm2, hld⟩ := h
  have hle := fb_ct_le (fun c => tr (stk (nxt N x) c)) S
  have hR : (∀ c, c < S → ¬ stk (nxt N x) c) → R ≠ 0 := fun q e => by
    rcases (h3 0 S0).2 with ⟨-, k⟩ | ⟨r, -, -, k, -⟩
    · exact q 0 S0 k
    · omega
  have hst0 : st = 0 ↔ ∀ c, c < S → ¬ stk (nxt N x) c := by
    rw [hst, L0, I_eq (by omega) (by omega) (by omega) (by omega)]
    constructor
    · intro e c hc hs
      have := fb_ct_zero.mp (by omega : fb_ct (fun c => tr (stk (nxt N x) c)) S = 0) c hc
      simp only [tr_t hs] at this
      exact absurd this (by decide)
    · intro q
      have : fb_ct (fun c => tr (stk (nxt N x) c)) S = 0 := fb_ct_zero.mpr fun c hc => tr_f (q c hc)
      omega
  constructor
  · rintro ⟨e1, e2⟩
    have q := hst0.mp e1
    rw [hld, if_neg (hR q), I_lt (by omega) (by omega) (by omega) (by omega)] at e2
    refine ⟨q, fun c hc ho => ?_⟩
    have : (latN N c).natAbs ≤ m := hm2.1 c ⟨hc, ho⟩
    omega
  · rintro ⟨q1, q2⟩
    refine ⟨hst0.mpr q1, ?_⟩
    rw [hld, if_neg (hR q1), I_lt (by omega) (by omega) (by omega) (by omega)]
    rcases hm2.2 with e | ⟨c, c1, c2⟩
    · omega
    · have := q2 c c1.1 c1.2
      have c2' : m = (latN N c).natAbs := c2
      omega
theorem tamL {N W : Nat → Int} (hV : Vl N) (hW : Wd N W) {words g0 tw : Nat → Int32} (hg : ∀ j, j < 10 → g0 j = I (N j)) (hp : ∀ k, k < 3 → g0 (10 + k) = I (W k)) (hw : ∀ k, k < 3 → tw k = I (W k)) {x : Int} (x1 : -99 ≤ x) (x2 : x ≤ 99) {most : Int} (m1 : 0 ≤ most) (m2 : most ≤ 99) (was : Int32) (num : Nat → Int32) :
    ∀ (d : Nat) (z : Int), z = d - 100 → d ≤ 199 → ∀ (f : Nat) (tn : Nat → Int32) (sz tl wh as lo a va l rr oo ha hr : Int32) (bn bw o t cm : Nat → Int32) (a9 v9 l9 o9 R9 st9 on9 lg9 ld9 : Int32) (g p to9 rd9 tl9 pa9 ln9 pr9 am9 bs9 nb9 : Nat → Int32), (∀ j, j < 10 → j ≠ 2 → tn j = I (N j)) → off 2 g g0 → WS sz tl wh as lo bn bw o t cm →
    ∃ (b : Int32) (tn' : Nat → Int32) (sz' tl' wh' as' lo' a' v' l' r' o' ha' hr' : Int32) (bn' bw' o2 t' cm' : Nat → Int32) (ma mv m3 mo mR ms mn mg md : Int32) (g' mp mto mrd mtl mpa mln mpr mam mbs mnb : Nat → Int32), (fX8_tamed_L38 (I x) (I most) num words (f + d + 1) (I z) tn tw sz tl wh as lo a va l rr oo ha hr bn bw o t cm = some (.inl (b, tn', sz', tl', wh', as', lo', a', v', l', r', o', ha', hr', bn', bw', o2, t', cm')) ∨ (b = -1002 ∧ fX8_tamed_L38 (I x) (I most) num words (f + d + 1) (I z) tn tw sz tl wh as lo a va l rr oo ha hr bn bw o t cm = some (.inr (tn', sz', tl', wh', as', lo', a', v', l', r', o', ha', hr', bn', bw', o2, t', cm')))) ∧ WS sz' tl' wh' as' lo' bn' bw' o2 t' cm' ∧ fX9_tamed_L39 (I x) (I most) (f + d + 1) was (-1002) (I z) a9 v9 l9 o9 R9 st9 on9 lg9 ld9 g p to9 rd9 tl9 pa9 ln9 pr9 am9 bs9 nb9 = some (b, ma, mv, m3, mo, mR, ms, mn, mg, md, g', mp, mto, mrd, mtl, mpa, mln, mpr, mam, mbs, mnb) ∧ off 2 g' g0 := by
  have eL : tb tLOW 2 = I (-99) := tbL 2 (by omega)
  have e99 : (-99 : Int32) = I (-99) := by decide +kernel
  have e1002 : (-1002 : Int32) = I (-1002) := by decide +kernel
  intro d
  induction d with
  | zero =>
    intro z hz _ f tn sz tl wh as lo a va l rr oo ha hr bn bw o t cm a9 v9 l9 o9 R9 st9 on9 lg9 ld9 g p to9 rd9 tl9 pa9 ln9 pr9 am9 bs9 nb9 htn hoff hWS
    have c1 : I z < I (-99) := by rw [I_lt (by omega) (by omega) (by omega) (by omega)]; omega
    rw [show f + 0 + 1 = f + 1 by omega, fX8_tamed_L38, fX9_tamed_L39, eL, e99, if_pos c1, if_pos c1]
    exact ⟨_, _, _, _, _, _, _, _, _, _, _, _, _, _, _, _, _, _, _, _, _, _, _, _, _, _, _, _, _, _, _, _, _, _, _, _, _, _, _, Or.inr ⟨rfl, rfl⟩, hWS, rfl, hoff⟩
  | succ d ih =>
    intro z hz hd f tn sz tl wh as lo a va l rr oo ha hr bn bw o t cm a9 v9 l9 o9 R9 st9 on9 lg9 ld9 g p to9 rd9 tl9 pa9 ln9 pr9 am9 bs9 nb9 htn hoff hWS
    obtain ⟨o1, o2, o3⟩ := off_u (s := 2) (by omega) hoff hg hp z
    have hV2 : Vl (upI N 2 z) := Vup hV (s := 2) (by omega) (by omega) (by show (-99 : Int) ≤ _; omega) (by show _ ≤ (99 : Int); omega)
    have sb := st_b hV2
    obtain ⟨S, eS⟩ := Int.eq_ofNat_of_zero_le (show 0 ≤ stN (upI N 2 z) by omega)
    obtain ⟨r, sz', tl', wh', as', lo', a', v', l', r', o', ha', hr', bn', bw', ow', t', cm', e1, hWS', hr'⟩ := styX hV2 (WdU hW (by omega) z) (num := upd tn 2 (I z)) (words := tw) (fun j hj => by
      unfold upd upI
      by_cases e : j = 2
      · rw [if_pos e, if_pos e]
      · rw [if_neg e, if_neg e, htn j hj e]) hw eS x1 x2 m1 m2 sz tl wh as lo a va l rr oo ha hr bn bw o t cm
    obtain ⟨ma, mv, ml, mo, R, ms, mn, mg, md, mp, mto, mrd, mtl, mpa, mln, mpr, mam, mbs, mnb, e2, hRF⟩ := fallX hV2 o1 eS x1 x2 a9 v9 l9 o9 R9 st9 on9 lg9 ld9 p to9 rd9 tl9 pa9 ln9 pr9 am9 bs9 nb9
    have hcl := clm9 (show 0 < S by omega) (show S ≤ 1024 by omega) m1 m2 hRF
    have htn' : ∀ j, j < 10 → j ≠ 2 → (upd tn 2 (I z)) j = I (N j) := fun j hj hne => by rw [upd_o _ _ hne]; exact htn j hj hne
    have c1 : ¬ (I z < I (-99)) := by rw [I_lt (by omega) (by omega) (by omega) (by omega)]; omega
    have ez : I z + (-1 : Int32) = I (z - 1) := by rw [m1e, I_add]; rfl
    rw [show f + (d + 1) + 1 = (f + d + 1) + 1 by omega, fX8_tamed_L38, fX9_tamed_L39, eL, e99, if_neg c1, if_neg c1, e1, bnd18_some, if_pos (c := (-1002 : Int32) = -1002) rfl, e2, bnd19_some, ez]
    rcases hr' with ⟨rfl, hc⟩ | ⟨rfl, hc⟩
    · obtain ⟨q1, q2⟩ := hcl.mpr hc
      have hlast : fX9_tamed_L39 (I x) (I most) (f + d + 1) was (I z) (I (z - 1)) ma mv ml mo (I R) ms mn mg md (upd g 2 (I z)) mp mto mrd mtl mpa mln mpr mam mbs mnb = some (I z, ma, mv, ml, mo, I R, ms, mn, mg, md, upd g 2 (I z), mp, mto, mrd, mtl, mpa, mln, mpr, mam, mbs, mnb) := by
        rw [fX9_tamed_L39]
        by_cases y : I (z - 1) < -99
        · rw [if_pos y]
        · rw [if_neg y, if_neg (by rw [e1002, I_eq (by omega) (by omega) (by omega) (by omega)]; omega)]
      rw [if_neg (c := (1 : Int32) = 0) (by decide), if_pos q1, if_neg q2, hlast]
      exact ⟨_, _, _, _, _, _, _, _, _, _, _, _, _, _, _, _, _, _, _, _, _, _, _, _, _, _, _, _, _, _, _, _, _, _, _, _, _, _, _, Or.inl rfl, hWS', rfl, o3⟩
    · have hh := ih (z - 1) (by omega) (by omega) f (upd tn 2 (I z)) sz' tl' wh' as' lo' a' v' l' r' o' ha' hr' bn' bw' ow' t' cm' ma mv ml mo (I R) ms mn mg md (upd g 2 (I z)) mp mto mrd mtl mpa mln mpr mam mbs mnb htn' o3 hWS'
      rw [if_pos (c := (0 : Int32) = 0) rfl]
      by_cases q1 : ms = 0
      · by_cases q2 : I most < md
        · rw [if_pos q1, if_pos q2]; exact hh
        · exact absurd (hcl.mp ⟨q1, q2⟩) hc
      · rw [if_neg q1]; exact hh
theorem p_tamed (y z : Int32) (num words g p tn tw : Nat → Int32) (sz tl wh as lo a v l rr oo ha hr : Int32) (bn bw o t cm : Nat → Int32) (a9 v9 l9 o9 R9 st9 on9 lg9 ld9 : Int32) (to9 rd9 tl9 pa9 ln9 pr9 am9 bs9 nb9 : Nat → Int32) (hF : FI num words g) (hW : WS sz tl wh as lo bn bw o t cm) :
    ∃ (r : Int32) (tn' tw' : Nat → Int32) (sz' tl' wh' as' lo' a' v' l' r' o' ha' hr' : Int32) (bn' bw' o2 t' cm' : Nat → Int32) (ma mv m3 mo mR ms mn mg md : Int32) (g' mp mto mrd mtl mpa mln mpr mam mbs mnb : Nat → Int32), fX8_tamed y z num words tn tw sz tl wh as lo a v l rr oo ha hr bn bw o t cm = some (r, tn', tw', sz', tl', wh', as', lo', a', v', l', r', o', ha', hr', bn', bw', o2, t', cm') ∧ WS sz' tl' wh' as' lo' bn' bw' o2 t' cm' ∧ fX9_tamed y z a9 v9 l9 o9 R9 st9 on9 lg9 ld9 g p to9 rd9 tl9 pa9 ln9 pr9 am9 bs9 nb9 = some (r, ma, mv, m3, mo, mR, ms, mn, mg, md, g', mp, mto, mrd, mtl, mpa, mln, mpr, mam, mbs, mnb) ∧ FI num words g' := by
  obtain ⟨y, rfl, y1, y2⟩ := I_ex y
  obtain ⟨z, rfl, z1, z2⟩ := I_ex z
  have hF0 := hF
  obtain ⟨N, W, hV, hWd, hn, hw, hg, hp⟩ := hF
  unfold fX8_tamed fX9_tamed
  rw [inp8 y1 y2, inp9 y1 y2, J0e, show (99 : Int64) = J 99 from rfl, inR9 z 0 99 z1 z2 (by omega) (by omega) (by omega) (by omega)]
  simp only [bnd1_some]
  by_cases q2 : -99 ≤ y ∧ y ≤ 99
  · rw [if_pos q2, if_neg is1, if_neg is1]
    by_cases q3 : 0 ≤ z ∧ z ≤ 99
    · obtain ⟨n', w', e1, b1, b2, -⟩ := tak8 tn tw num words
      obtain ⟨b, tn', sz', tl', wh', as', lo', a', v', l', r', o', ha', hr', bn', bw', o2, t', cm', ma, mv, m3, mo, mR, ms, mn, mg, md, g', mp, mto, mrd, mtl, mpa, mln, mpr, mam, mbs, mnb, f1, hWS', f2, hoff⟩ := tamL hV hWd (words := words) (g0 := g) (tw := w') hg hp (fun k hk => (b2 k hk).trans (hw k hk)) q2.1 q2.2 q3.1 q3.2 (g 2) num 199 99 (by omega) (by omega) 99800 n' sz tl wh as lo a v l rr oo ha hr bn bw o t cm a9 v9 l9 o9 R9 st9 on9 lg9 ld9 g p to9 rd9 tl9 pa9 ln9 pr9 am9 bs9 nb9 (fun j hj _ => (b1 j hj).trans (hn j hj)) (fun j _ _ => rfl) hW
      have f2' : fX9_tamed_L39 (I y) (I z) FUEL (g 2) (-1002) 99 a9 v9 l9 o9 R9 st9 on9 lg9 ld9 g p to9 rd9 tl9 pa9 ln9 pr9 am9 bs9 nb9 = _ := f2
      have eH : tb tHIGH 2 = I 99 := tbH 2 (by omega)
      rw [if_neg (c := I z < 0) (by rw [L0, I_lt (by omega) (by omega) (by omega) (by omega)]; omega), if_pos (c := I z ≤ (99 : Int32)) (by rw [L99, I_le (by omega) (by omega) (by omega) (by omega)]; omega), if_pos q3, if_neg is1, e1, bnd2_some, eH, f2', bnd21_some]
      rcases f1 with f1 | ⟨rfl, f1⟩
      · have f1' : fX8_tamed_L38 (I y) (I z) num words FUEL (I 99) n' w' sz tl wh as lo a v l rr oo ha hr bn bw o t cm = _ := f1
        rw [f1']
        exact ⟨_, _, _, _, _, _, _, _, _, _, _, _, _, _, _, _, _, _, _, _, _, _, _, _, _, _, _, _, _, _, _, _, _, _, _, _, _, _, _, _, rfl, hWS', rfl, FI_off hF0 (by omega) hoff⟩
      · have f1' : fX8_tamed_L38 (I y) (I z) num words FUEL (I 99) n' w' sz tl wh as lo a v l rr oo ha hr bn bw o t cm = _ := f1
        rw [f1']
        exact ⟨_, _, _, _, _, _, _, _, _, _, _, _, _, _, _, _, _, _, _, _, _, _, _, _, _, _, _, _, _, _, _, _, _, _, _, _, _, _, _, _, rfl, hWS', rfl, FI_off hF0 (by omega) hoff⟩
    · rw [if_neg q3, if_pos is0]
      by_cases cz : z < 0
      · rw [if_pos (c := I z < 0) (by rw [L0, I_lt (by omega) (by omega) (by omega) (by omega)]; omega)]
        exact ⟨_, _, _, _, _, _, _, _, _, _, _, _, _, _, _, _, _, _, _, _, _, _, _, _, _, _, _, _, _, _, _, _, _, _, _, _, _, _, _, _, rfl, hW, rfl, hF0⟩
      · rw [if_neg (c := I z < 0) (by rw [L0, I_lt (by omega) (by omega) (by omega) (by omega)]; omega), if_neg (c := I z ≤ (99 : Int32)) (by rw [L99, I_le (by omega) (by omega) (by omega) (by omega)]; omega)]
        exact ⟨_, _, _, _, _, _, _, _, _, _, _, _, _, _, _, _, _, _, _, _, _, _, _, _, _, _, _, _, _, _, _, _, _, _, _, _, _, _, _, _, rfl, hW, rfl, hF0⟩
  · rw [if_neg q2, if_pos is0, if_pos is0]
    exact ⟨_, _, _, _, _, _, _, _, _, _, _, _, _, _, _, _, _, _, _, _, _, _, _, _, _, _, _, _, _, _, _, _, _, _, _, _, _, _, _, _, rfl, hW, rfl, hF0⟩
