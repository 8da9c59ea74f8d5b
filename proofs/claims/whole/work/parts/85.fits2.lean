/-! fits' loops -/
def fxb (B : Int → Bool) : Nat → Int → Int32 → Int32
  | 0, _, b => b
  | d + 1, v, b => if B v = true then fxb B d (v - 1) (b ||| ((1 : Int32) <<< ((I v &&& (31 : Int32)) &&& 31))) else fxb B d (v - 1) b
def fxm (B : Int → Bool) : Nat → Int → Int32 → Int32
  | 0, _, m => m
  | d + 1, v, m => if B v = true then fxm B d (v - 1) (m + 1) else fxm B d (v - 1) m
def fxl (B : Int → Bool) : Nat → Int → Int32 → Int32
  | 0, _, l => l
  | d + 1, v, l => if B v = true then fxl B d (v - 1) (I v) else fxl B d (v - 1) l
def fmb (B : Int → Bool) : Nat → Int → Int32 → Int32
  | 0, _, b => b
  | d + 1, v, b => if B v = true then fmb B d (v + 1) (b ||| ((1 : Int32) <<< (I v &&& 31))) else fmb B d (v + 1) (b ||| 0)
def tbB (l : List Bool) (v : Int) : Bool := l.getD v.toNat false
theorem b2k : ∀ a b : Bool, fxb (tbB [a, b]) 2 1 0 = fmb (tbB [a, b]) 2 0 0 := by decide +kernel
theorem b5k : ∀ a b c d e : Bool, fxb (tbB [a, b, c, d, e]) 5 4 0 = fmb (tbB [a, b, c, d, e]) 5 0 0 := by decide +kernel
theorem b7k : ∀ a b c d e f g : Bool, fxb (tbB [a, b, c, d, e, f, g]) 7 6 0 = fmb (tbB [a, b, c, d, e, f, g]) 7 0 0 := by decide +kernel
theorem fxb_c {B C : Int → Bool} : ∀ (d : Nat) (v : Int) (b : Int32), (∀ u, v - d < u → u ≤ v → B u = C u) → fxb B d v b = fxb C d v b
  | 0, _, _, _ => rfl
  | d + 1, v, b, h => by
    unfold fxb
    rw [h v (by omega) (by omega), fxb_c d (v - 1) _ (fun u h1 h2 => h u (by omega) (by omega)), fxb_c d (v - 1) b (fun u h1 h2 => h u (by omega) (by omega))]
theorem fmb_c {B C : Int → Bool} : ∀ (d : Nat) (v : Int) (b : Int32), (∀ u, v ≤ u → u < v + d → B u = C u) → fmb B d v b = fmb C d v b
  | 0, _, _, _ => rfl
  | d + 1, v, b, h => by
    unfold fmb
    rw [h v (by omega) (by omega), fmb_c d (v + 1) _ (fun u h1 h2 => h u (by omega) (by omega)), fmb_c d (v + 1) (b ||| 0) (fun u h1 h2 => h u (by omega) (by omega))]
theorem b2e (B : Int → Bool) : fxb B 2 1 0 = fmb B 2 0 0 := by
  have h : ∀ u, 0 ≤ u → u ≤ 1 → B u = tbB [B 0, B 1] u := by
    intro u h1 h2
    have : u = 0 ∨ u = 1 := by omega
    rcases this with rfl | rfl <;> rfl
  rw [fxb_c 2 1 0 (fun u h1 h2 => h u (by omega) (by omega)), fmb_c 2 0 0 (fun u h1 h2 => h u (by omega) (by omega))]
  exact b2k _ _
theorem b5e (B : Int → Bool) : fxb B 5 4 0 = fmb B 5 0 0 := by
  have h : ∀ u, 0 ≤ u → u ≤ 4 → B u = tbB [B 0, B 1, B 2, B 3, B 4] u := by
    intro u h1 h2
    have : u = 0 ∨ u = 1 ∨ u = 2 ∨ u = 3 ∨ u = 4 := by omega
    rcases this with rfl | rfl | rfl | rfl | rfl <;> rfl
  rw [fxb_c 5 4 0 (fun u h1 h2 => h u (by omega) (by omega)), fmb_c 5 0 0 (fun u h1 h2 => h u (by omega) (by omega))]
  exact b5k _ _ _ _ _
theorem b7e (B : Int → Bool) : fxb B 7 6 0 = fmb B 7 0 0 := by
  have h : ∀ u, 0 ≤ u → u ≤ 6 → B u = tbB [B 0, B 1, B 2, B 3, B 4, B 5, B 6] u := by
    intro u h1 h2
    have : u = 0 ∨ u = 1 ∨ u = 2 ∨ u = 3 ∨ u = 4 ∨ u = 5 ∨ u = 6 := by omega
    rcases this with rfl | rfl | rfl | rfl | rfl | rfl | rfl <;> rfl
  rw [fxb_c 7 6 0 (fun u h1 h2 => h u (by omega) (by omega)), fmb_c 7 0 0 (fun u h1 h2 => h u (by omega) (by omega))]
  exact b7k _ _ _ _ _ _ _
theorem bo_t : ¬ (bo true = 0) := by decide +kernel
theorem bo_f : bo false = 0 := by decide +kernel
theorem fit8 {N W : Nat → Int} {num words : Nat → Int32} (hn : ∀ j, j < 10 → num j = I (N j)) (hw : ∀ k, k < 3 → words k = I (W k)) {s : Nat} (hs : s < 10) {r q : Nat} (hr : r < 4) (hq : q < 4) {so si : Nat → Int32} {pl : Nat → Nat → Int64} (x3 : Int32) (B : Int → Bool) (hB : ∀ v, LW s ≤ v → v ≤ HW s → TX N W s r q si pl v (B v)) :
    ∀ (d : Nat) (v : Int), v - d = LW s - 1 → v ≤ HW s → ∀ (f : Nat) (b m l a vv ll rr o ha hrr : Int32) (tn tw : Nat → Int32) (ln ov hl hb : Int32) (o1 l1 : Nat → Int32), ∃ a' v' l' r' o' ha' hr' tn' tw' ln' ov' hl' hb' o1' l1', fX8_fits_L76 (I r) (I q) x3 num words so si pl (f + d + 1) (I s) b m l (I v) a vv ll rr o ha hrr tn tw ln ov hl hb o1 l1 = some (fxb B d v b, fxm B d v m, fxl B d v l, a', v', l', r', o', ha', hr', tn', tw', ln', ov', hl', hb', o1', l1')
  | 0, v, h1, h2, f, b, m, l, a, vv, ll, rr, o, ha, hrr, tn, tw, ln, ov, hl, hb, o1, l1 => by
    have lb := LHb s hs
    have gs : ¬ (I s < 0 ∨ 10 ≤ s) := by rw [L0, I_lt (by omega) (by omega) (by omega) (by omega)]; omega
    rw [fX8_fits_L76, clN (by omega), if_neg gs, tbL s hs, if_pos (by rw [I_lt (by omega) (by omega) (by omega) (by omega)]; omega)]
    exact ⟨_, _, _, _, _, _, _, _, _, _, _, _, _, _, _, rfl⟩
  | d + 1, v, h1, h2, f, b, m, l, a, vv, ll, rr, o, ha, hrr, tn, tw, ln, ov, hl, hb, o1, l1 => by
    have lb := LHb s hs
    have gs : ¬ (I s < 0 ∨ 10 ≤ s) := by rw [L0, I_lt (by omega) (by omega) (by omega) (by omega)]; omega
    obtain ⟨n', w', e1, b1, b2, -⟩ := tak8 tn tw num words
    obtain ⟨o8, o9, o10, o11, o12, o13, o14, o15, o16, o17, o18, o19, o20, o21, f1, f2⟩ := hB v (by omega) h2 (upd n' s (I v)) w' (fun j hj => by
      unfold upd upI
      by_cases e : j = s
      · rw [if_pos e, if_pos e]
      · rw [if_neg e, if_neg e, b1 j hj, hn j hj]) (fun k hk => (b2 k hk).trans (hw k hk)) ln ov hl hb a vv ll rr o ha hrr o1 l1
    have ev : I v + (-1 : Int32) = I (v - 1) := by rw [L1, I_neg, I_add]; rfl
    rw [show f + (d + 1) + 1 = (f + d + 1) + 1 by omega, fX8_fits_L76, clN (show s < 100000 by omega), clN (show r < 100000 by omega), clN (show q < 100000 by omega)]
    simp only [if_neg gs, if_neg (gR4' hr), if_neg (gR4' hq)]
    rw [tbL s hs, if_neg (by rw [I_lt (by omega) (by omega) (by omega) (by omega)]; omega), e1, bnd2_some, f1, bnd14_some, f2, bnd1_some]
    unfold fxb fxm fxl
    cases hb2 : B v with
    | true =>
      rw [if_neg bo_t, ev]
      simp only [if_true]
      exact fit8 hn hw hs hr hq x3 B hB d (v - 1) (by omega) (by omega) f _ _ _ _ _ _ _ _ _ _ _ _ _ _ _ _ _ _
    | false =>
      rw [if_pos bo_f, ev]
      simp only [if_neg (show ¬ (false = true) by decide)]
      exact fit8 hn hw hs hr hq x3 B hB d (v - 1) (by omega) (by omega) f _ _ _ _ _ _ _ _ _ _ _ _ _ _ _ _ _ _
/-- the reference's numbers, with the one at a place free -/
def off (s : Nat) (g g0 : Nat → Int32) : Prop := ∀ j, j < 13 → j ≠ s → g j = g0 j
theorem off_u {N W : Nat → Int} {s : Nat} (hs : s < 10) {g g0 : Nat → Int32} (h : off s g g0) (hg : ∀ j, j < 10 → g0 j = I (N j)) (hp : ∀ k, k < 3 → g0 (10 + k) = I (W k)) (v : Int) : (∀ j, j < 10 → (upd g s (I v)) j = I (upI N s v j)) ∧ (∀ k, k < 3 → (upd g s (I v)) (10 + k) = I (W k)) ∧ off s (upd g s (I v)) g0 := by
  refine ⟨fun j hj => ?_, fun k hk => ?_, fun j hj hne => ?_⟩
  · unfold upd upI
    by_cases e : j = s
    · rw [if_pos e, if_pos e]
    · rw [if_neg e, if_neg e, h j (by omega) e, hg j hj]
  · rw [upd_o _ _ (by omega), h _ (by omega) (by omega), hp k hk]
  · rw [upd_o _ _ hne]; exact h j hj hne
theorem setL9 {N W : Nat → Int} {g0 : Nat → Int32} (hg : ∀ j, j < 10 → g0 j = I (N j)) (hp : ∀ k, k < 3 → g0 (10 + k) = I (W k)) {s : Nat} (hs : s < 10) {r q : Nat} {si : Nat → Int32} {pl : Nat → Nat → Int64} (most : Int) (hm1 : 0 ≤ most) (hm2 : most ≤ 99) (B : Int → Bool) (hB : ∀ v, 0 ≤ v → v ≤ most → TM N W s r q si pl v (B v)) (was : Int32) :
    ∀ (d : Nat) (v : Int), v + d = most + 1 → 0 ≤ v → ∀ (f : Nat) (b a vv ll o om ov hh : Int32) (g p o2 l2 : Nat → Int32), off s g g0 → ∃ a' v' l' o' om' ov' hh' g' p' o2' l2', fX9_setBy_L14 (I s) (I most) (I r) (I q) pl si (f + d + 1) was b (I v) a vv ll o om ov hh g p o2 l2 = some (fmb B d v b, a', v', l', o', om', ov', hh', g', p', o2', l2') ∧ off s g' g0
  | 0, v, h1, h2, f, b, a, vv, ll, o, om, ov, hh, g, p, o2, l2, hO => by
    rw [fX9_setBy_L14, if_pos (by rw [I_lt (by omega) (by omega) (by omega) (by omega)]; omega)]
    exact ⟨_, _, _, _, _, _, _, _, _, _, _, rfl, hO⟩
  | d + 1, v, h1, h2, f, b, a, vv, ll, o, om, ov, hh, g, p, o2, l2, hO => by
    have gs : ¬ (I s < 0 ∨ 13 ≤ s) := by rw [L0, I_lt (by omega) (by omega) (by omega) (by omega)]; omega
    obtain ⟨u1, u2, u3⟩ := off_u hs hO hg hp v
    obtain ⟨p2, p3, p4, p5, p6, p7, p8, p9, p10, p11, e⟩ := hB v h2 (by omega) (upd g s (I v)) u1 u2 a vv ll o om ov hh p o2 l2
    rw [show f + (d + 1) + 1 = (f + d + 1) + 1 by omega, fX9_setBy_L14, if_neg (by rw [I_lt (by omega) (by omega) (by omega) (by omega)]; omega), clN (by omega), if_neg gs, e, bnd11_some, L1, I_add]
    unfold fmb
    cases hb2 : B v with
    | true =>
      rw [if_neg bo_t, ← L1]
      simp only [if_true]
      exact setL9 hg hp hs most hm1 hm2 B hB was d (v + 1) (by omega) (by omega) f _ _ _ _ _ _ _ _ _ _ _ _ u3
    | false =>
      rw [if_pos bo_f]
      simp only [if_neg (show ¬ (false = true) by decide)]
      exact setL9 hg hp hs most hm1 hm2 B hB was d (v + 1) (by omega) (by omega) f _ _ _ _ _ _ _ _ _ _ _ _ u3
theorem coeL9 {N W : Nat → Int} {g0 : Nat → Int32} (hg : ∀ j, j < 10 → g0 j = I (N j)) (hp : ∀ k, k < 3 → g0 (10 + k) = I (W k)) {r q : Nat} {si : Nat → Int32} {pl : Nat → Nat → Int64} (B : Int → Bool) (hB : ∀ v, -99 ≤ v → v ≤ 99 → TM N W 2 r q si pl v (B v)) (x3 was : Int32) :
    ∀ (d : Nat) (v : Int), v - d = -100 → v ≤ 99 → ∀ (f : Nat) (m l a vv ll o om ov hh : Int32) (g p o2 l2 : Nat → Int32), off 2 g g0 → ∃ a' v' l' o' om' ov' hh' g' p' o2' l2', fX9_coefficient_L20 (I r) (I q) x3 pl si (f + d + 1) was m l (I v) a vv ll o om ov hh g p o2 l2 = some (fxm B d v m, fxl B d v l, a', v', l', o', om', ov', hh', g', p', o2', l2') ∧ off 2 g' g0
  | 0, v, h1, h2, f, m, l, a, vv, ll, o, om, ov, hh, g, p, o2, l2, hO => by
    rw [fX9_coefficient_L20, L99, I_neg, if_pos (by rw [I_lt (by omega) (by omega) (by omega) (by omega)]; omega)]
    exact ⟨_, _, _, _, _, _, _, _, _, _, _, rfl, hO⟩
  | d + 1, v, h1, h2, f, m, l, a, vv, ll, o, om, ov, hh, g, p, o2, l2, hO => by
    obtain ⟨u1, u2, u3⟩ := off_u (s := 2) (by omega) hO hg hp v
    obtain ⟨p2, p3, p4, p5, p6, p7, p8, p9, p10, p11, e⟩ := hB v (by omega) (by omega) (upd g 2 (I v)) u1 u2 a vv ll o om ov hh p o2 l2
    have ev : I v + (-1 : Int32) = I (v - 1) := by rw [L1, I_neg, I_add]; rfl
    rw [show f + (d + 1) + 1 = (f + d + 1) + 1 by omega, fX9_coefficient_L20, L99, I_neg, if_neg (by rw [I_lt (by omega) (by omega) (by omega) (by omega)]; omega), e, bnd11_some]
    unfold fxm fxl
    cases hb2 : B v with
    | true =>
      rw [if_neg bo_t, ev]
      simp only [if_true]
      exact coeL9 hg hp B hB x3 was d (v - 1) (by omega) (by omega) f _ _ _ _ _ _ _ _ _ _ _ _ _ u3
    | false =>
      rw [if_pos bo_f, ev]
      simp only [if_neg (show ¬ (false = true) by decide)]
      exact coeL9 hg hp B hB x3 was d (v - 1) (by omega) (by omega) f _ _ _ _ _ _ _ _ _ _ _ _ _ u3
