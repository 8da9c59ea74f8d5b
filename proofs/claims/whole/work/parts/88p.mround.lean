/-! Ways, the reference's side: a round is found -/
theorem wo9 {N : Nat → Int} (hV : Vl N) {g : Nat → Int32} (hg : ∀ j, j < 10 → g j = I (N j)) {S : Nat} (hS : stN N = S) {c : Nat} (hc : c < S) (p : Nat → Int32) : ∃ p', fX9_wordOne (I c) g p = some (I ((latN N c).natAbs : Nat), p') := by
  have sb := st_b hV
  obtain ⟨p', e, h⟩ := tak9 hV hg (c : Int) (by omega) (by omega) p
  have hl := latN_b hV c
  unfold fX9_wordOne
  rw [e, bnd1_some, h 0 (by omega)]
  have := abs16 (latN N c) (by omega) (by omega)
  unfold latN at this ⊢
  rw [this]
  exact ⟨p', rfl⟩
theorem fiL49 {N : Nat → Int} (hV : Vl N) {g : Nat → Int32} (hg : ∀ j, j < 10 → g j = I (N j)) {S : Nat} (hS : stN N = S) {F : Nat → Option Nat} {p : Nat} {v : Nat → Nat} {m0 : Nat} {path : Nat → Int32} (hm : m0 + p ≤ S) (hp : ∀ q, q < p → v q < S ∧ path (m0 + q) = I (v q)) (hi : ∀ a b, a < b → b < p → v a ≠ v b) {R : Nat} (hR : R < 1024) (pr bs : Nat → Int32) :
    ∀ d i : Nat, i + d = p → ∀ (f : Nat) (pp rd tl ln am : Nat → Int32), ln R = I (mnv v i : Nat) → am R = I (lov (latN N) v 0 i) → ∃ pp' rd' tl' ln' am', fX9_findsRound_L49 (I m0) (I ((m0 + p : Nat) : Int)) g path (f + d + 1) (I ((m0 + i : Nat) : Int)) (I R) pp rd tl ln pr am bs = some (pp', rd', tl', ln', am') ∧ (∀ q, i ≤ q → q < p → rd' (v q) = I R ∧ tl' (v q) = 0) ∧ (∀ c, (∀ q, i ≤ q → q < p → v q ≠ c) → rd' c = rd c ∧ tl' c = tl c) ∧ ln' R = I (mnv v p : Nat) ∧ am' R = I (lov (latN N) v 0 p) ∧ ∀ r, r ≠ R → ln' r = ln r ∧ am' r = am r := by
  intro d
  have sb := st_b hV
  induction d with
  | zero =>
    intro i hi f pp rd tl ln am h1 h2
    have e : i = p := by omega
    subst e
    rw [show f + 0 + 1 = f + 1 by omega, fX9_findsRound_L49, if_pos (by rw [I_le (by omega) (by omega) (by omega) (by omega)]; omega)]
    exact ⟨_, _, _, _, _, rfl, fun q q1 q2 => absurd q1 (by omega), fun c _ => ⟨rfl, rfl⟩, h1, h2, fun r _ => ⟨rfl, rfl⟩⟩
  | succ d ih =>
    intro i hip f pp rd tl ln am h1 h2
    obtain ⟨hv, hpa⟩ := hp i (by omega)
    obtain ⟨p2, e2⟩ := wo9 hV hg hS hv pp
    have ei : I ((m0 + i : Nat) : Int) + (1 : Int32) = I ((m0 + (i + 1) : Nat) : Int) := by rw [L1, I_add]; rfl
    have hl := latN_b hV (v i)
    have hlo := lov_p (latN N) v 0 i
    have hlb : lov (latN N) v 0 i ≤ 100 := by
      rcases hlo.2.2 with q | ⟨q, -, q2⟩
      · omega
      · have := latN_b hV (v q); omega
    have hmb : mnv v i < S := by
      obtain ⟨-, q, q1, q2⟩ := mnv_p v i
      rw [q2]; exact (hp q (by omega)).1
    have e3 : (if I (v i : Nat) < I (mnv v i : Nat) then I (v i : Nat) else I (mnv v i : Nat)) = I (mnv v (i + 1) : Nat) := by
      show _ = I ((if v i < mnv v i then v i else mnv v i : Nat) : Int)
      by_cases c : v i < mnv v i
      · rw [if_pos c, if_pos (by rw [I_lt (by omega) (by omega) (by omega) (by omega)]; omega)]
      · rw [if_neg c, if_neg (by rw [I_lt (by omega) (by omega) (by omega) (by omega)]; omega)]
    have e4 : (if I (lov (latN N) v 0 i) < I ((latN N (v i)).natAbs : Nat) then I ((latN N (v i)).natAbs : Nat) else I (lov (latN N) v 0 i)) = I (lov (latN N) v 0 (i + 1)) := by
      show _ = I (if lov (latN N) v 0 i < (latN N (v i)).natAbs then ((latN N (v i)).natAbs : Int) else lov (latN N) v 0 i)
      by_cases c : lov (latN N) v 0 i < (latN N (v i)).natAbs
      · rw [if_pos c, if_pos (by rw [I_lt (by omega) (by omega) (by omega) (by omega)]; omega)]
      · rw [if_neg c, if_neg (by rw [I_lt (by omega) (by omega) (by omega) (by omega)]; omega)]
    obtain ⟨pp', rd', tl', ln', am', E, g1, g2, g3, g4, g5⟩ := ih (i + 1) (by omega) f p2 (upd rd (v i) (I R)) (upd tl (v i) 0) (upd ln R (I (mnv v (i + 1) : Nat))) (upd am R (I (lov (latN N) v 0 (i + 1)))) (by rw [upd_s]) (by rw [upd_s])
    refine ⟨pp', rd', tl', ln', am', ?_, fun q q1 q2 => ?_, fun c hc => ?_, g3, g4, fun r hr => ?_⟩
    · rw [show f + (d + 1) + 1 = (f + d + 1) + 1 by omega, fX9_findsRound_L49, if_neg (by rw [I_le (by omega) (by omega) (by omega) (by omega)]; omega), clN (show R < 100000 by omega), clN (show m0 + i < 100000 by omega)]
      simp only [if_neg (gK hR), if_neg (gK (show m0 + i < 1024 by omega))]
      rw [hpa, e2, bnd2_some, clN (show v i < 100000 by omega)]
      simp only [if_neg (gK (show v i < 1024 by omega))]
      rw [h1, h2, e3, e4, ei]
      exact E
    · by_cases eq : q = i
      · subst eq
        obtain ⟨k1, k2⟩ := g2 (v q) (fun r r1 r2 => (hi q r (by omega) r2).symm)
        rw [k1, k2, upd_s, upd_s]
        exact ⟨rfl, rfl⟩
      · exact g1 q (by omega) q2
    · obtain ⟨k1, k2⟩ := g2 c (fun r r1 r2 => hc r (by omega) r2)
      have ne : c ≠ v i := fun z => hc i (by omega) (by omega) z.symm
      rw [k1, k2, upd_o _ _ ne, upd_o _ _ ne]
      exact ⟨rfl, rfl⟩
    · rw [(g5 r hr).1, (g5 r hr).2, upd_o _ _ hr, upd_o _ _ hr]
      exact ⟨rfl, rfl⟩
theorem fiR {N : Nat → Int} (hV : Vl N) {g : Nat → Int32} (hg : ∀ j, j < 10 → g j = I (N j)) {S : Nat} (hS : stN N = S) {p : Nat} (p0 : 0 < p) {v : Nat → Nat} {m0 : Nat} {path : Nat → Int32} (hm : m0 + p ≤ S) (hp : ∀ q, q < p → v q < S ∧ path (m0 + q) = I (v q)) (hi : ∀ a b, a < b → b < p → v a ≠ v b) {R : Nat} (hR : R < 1024) (pp rd tl ln pr am bs : Nat → Int32) : ∃ pp' rd' tl' ln' am', fX9_findsRound (I m0) (I ((m0 + p : Nat) : Int)) (I R) g pp rd tl path ln pr am bs = some (I (R + 1 : Nat), pp', rd', tl', ln', upd pr R (I p), am', upd bs R 0) ∧ (∀ q, q < p → rd' (v q) = I R ∧ tl' (v q) = 0) ∧ (∀ c, (∀ q, q < p → v q ≠ c) → rd' c = rd c ∧ tl' c = tl c) ∧ ln' R = I (mnv v p : Nat) ∧ am' R = I (lov (latN N) v 0 p) ∧ ∀ r, r ≠ R → ln' r = ln r ∧ am' r = am r := by
  have sb := st_b hV
  obtain ⟨hv0, hp0⟩ := hp 0 p0
  rw [Nat.add_zero] at hp0
  have ep : I ((m0 + p : Nat) : Int) - I m0 = I p := by
    rw [I_sub]; congr 1; omega
  have eR : I R + (1 : Int32) = I (R + 1 : Nat) := by rw [L1, I_add]; rfl
  obtain ⟨pp', rd', tl', ln', am', E, g1, g2, g3, g4, g5⟩ := fiL49 hV hg hS (F := fun _ => none) hm hp hi hR (upd pr R (I p)) (upd bs R 0) p 0 (by omega) (99999 - p) pp rd tl (upd ln R (I (v 0))) (upd am R 0) (by rw [upd_s]; rfl) (by rw [upd_s]; rfl)
  rw [show 99999 - p + p + 1 = FUEL by show _ = 100000; omega, Nat.add_zero] at E
  refine ⟨pp', rd', tl', ln', am', ?_, fun q q2 => g1 q (by omega) q2, fun c hc => g2 c fun q _ q2 => hc q q2, g3, g4, fun r hr => ?_⟩
  · unfold fX9_findsRound
    rw [clN (show R < 100000 by omega), clN (show m0 < 100000 by omega)]
    simp only [if_neg (gK hR), if_neg (gK (show m0 < 1024 by omega))]
    rw [hp0, ep, E, bnd5_some, eR]
  · rw [(g5 r hr).1, (g5 r hr).2, upd_o _ _ hr, upd_o _ _ hr]
    exact ⟨rfl, rfl⟩
theorem goL65 {path : Nat → Int32} {w : Nat → Nat} {S j m0 : Nat} (hS : S ≤ 1024) (hj : j ≤ S) (hm : m0 < j) (hp : ∀ m, m < j → w m < S ∧ path m = I (w m)) (hi : ∀ a b, a < b → b < j → w a ≠ w b) (x1 : Int32) (g to : Nat → Int32) (y2 R : Int32) (p rd tl ln pr am bs : Nat → Int32) : ∀ d i : Nat, i + d = m0 → ∀ f : Nat, fX9_goesFrom_L65 x1 g to (f + d + 1) y2 (I (w m0)) (I i) R p rd tl path ln pr am bs = some (I m0) := by
  intro d
  induction d with
  | zero =>
    intro i hi2 f
    have e : i = m0 := by omega
    subst e
    rw [show f + 0 + 1 = f + 1 by omega, fX9_goesFrom_L65, clN (by omega), if_neg (gK (by omega)), if_pos (hp i hm).2]
  | succ d ih =>
    intro i hi2 f
    have h1 := hp i (by omega)
    have h2 := hp m0 hm
    have ne := hi i m0 (by omega) hm
    rw [show f + (d + 1) + 1 = (f + d + 1) + 1 by omega, fX9_goesFrom_L65, clN (by omega), if_neg (gK (by omega)), h1.2, if_neg (by rw [I_eq (by omega) (by omega) (by omega) (by omega)]; omega), L1, I_add]
    exact ih (i + 1) (by omega) f
