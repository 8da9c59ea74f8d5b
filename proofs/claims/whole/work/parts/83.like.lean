/-! told outputs: judge -/
def eqA (o : Nat → Int32) (pl : Nat → Int64) (j : Nat) : Prop := pl j = (o j).toInt64
theorem lik8 (o : Nat → Int32) (pl : Nat → Int64) (len sz : Nat) (hl : len ≤ 40) (hs : sz ≤ 40) : ∀ d k : Nat, k + d = len → k ≤ sz → (∀ j, j < k → eqA o pl j) → ∀ m : Nat, ∃ c : Nat, fX2_howManyLike_L4 (I len) o (I sz) pl (m + d + 2) (I k) (I k) = some (I c) ∧ c ≤ len ∧ c ≤ sz ∧ (∀ j, j < c → eqA o pl j) ∧ (c < len → c < sz → ¬ eqA o pl c)
  | 0, k, h, hk, hq, m => by
    have e : k = len := by omega
    subst e
    rw [fX2_howManyLike_L4, if_pos (by rw [I_le (by omega) (by omega) (by omega) (by omega)]; omega)]
    exact ⟨k, rfl, by omega, hk, hq, fun q => absurd q (by omega)⟩
  | d + 1, k, h, hk, hq, m => by
    have g1 : ¬ (I k < 0 ∨ 40 ≤ k) := by
      rw [L0, I_lt (by omega) (by omega) (by omega) (by omega)]; omega
    rw [show m + (d + 1) + 2 = (m + d + 2) + 1 by omega, fX2_howManyLike_L4, if_neg (by rw [I_le (by omega) (by omega) (by omega) (by omega)]; omega)]
    by_cases c : k = sz
    · rw [if_pos (by rw [I_le (by omega) (by omega) (by omega) (by omega)]; omega)]
      exact ⟨k, rfl, by omega, hk, hq, fun _ q => absurd q (by omega)⟩
    · rw [if_neg (by rw [I_le (by omega) (by omega) (by omega) (by omega)]; omega), if_neg (by rw [L40, I_le (by omega) (by omega) (by omega) (by omega)]; omega), if_pos rfl, clN (by omega)]
      simp only [if_neg g1]
      by_cases c2 : eqA o pl k
      · rw [if_pos ((lgc0 _ _).mpr c2), L1, I_add]
        refine lik8 o pl len sz hl hs d (k + 1) (by omega) (by omega) (fun j hj => ?_) m
        by_cases e : j = k
        · rw [e]; exact c2
        · exact hq j (by omega)
      · rw [if_neg (fun q => c2 ((lgc0 _ _).mp q)), L1, I_add, show m + d + 2 = (m + d + 1) + 1 by omega, fX2_howManyLike_L4]
        refine ⟨k, ?_, by omega, hk, hq, fun _ _ => c2⟩
        by_cases k1 : I len ≤ I ((k : Int) + 1)
        · rw [if_pos k1]
        · rw [if_neg k1]
          by_cases k2 : I sz ≤ I ((k : Int) + 1)
          · rw [if_pos k2]
          · rw [if_neg k2]
            by_cases k3 : (40 : Int32) ≤ I ((k : Int) + 1)
            · rw [if_pos k3]
            · rw [if_neg k3, if_neg (by rw [I_eq (by omega) (by omega) (by omega) (by omega)]; omega)]
theorem hml (o : Nat → Int32) (pl : Nat → Int64) (len sz : Nat) (hl : len ≤ 40) (hs : sz ≤ 40) : ∃ c : Nat, fX2_howManyLike (I len) o (I sz) pl = some (I c) ∧ c ≤ len ∧ c ≤ sz ∧ (∀ j, j < c → eqA o pl j) ∧ (c < len → c < sz → ¬ eqA o pl c) := by
  obtain ⟨c, e, h⟩ := lik8 o pl len sz hl hs len 0 (by omega) (by omega) (fun j hj => absurd hj (by omega)) (99998 - len)
  refine ⟨c, ?_, h⟩
  unfold fX2_howManyLike
  rw [show 99998 - len + len + 2 = FUEL by show _ = 100000; omega, show I ((0 : Nat) : Int) = 0 from rfl] at e
  rw [e, bnd1_some]
theorem jud9 (x1 : Int32) (q : Nat) (hq : q < 4) (g : Nat → Int32) (pl : Nat → Nat → Int64) (so si : Nat → Int32) (sz len : Nat) (hsz : si q = I sz) (hs : sz ≤ 40) (hl : len ≤ 40) (a v l o ov hh : Int32) (p o2 l2 : Nat → Int32) (c : Nat) (h1 : c ≤ len) (h2 : c ≤ sz) (h3 : ∀ j, j < c → eqA o2 (pl q) j) (h4 : c < len → c < sz → ¬ eqA o2 (pl q) c) : ∀ d k : Nat, k + d = c → ∀ m : Nat, fX9_judge_L44 x1 (I q) g pl so si (m + d + 1) (I k) a v l o (I len) ov hh p o2 l2 = some (if c < sz then .inl (I c) else .inr ())
  | 0, k, h, m => by
    have e : k = c := by omega
    subst e
    have g1 : ¬ (I k < 0 ∨ 40 ≤ k) ∨ k = 40 := by
      rw [L0, I_lt (by omega) (by omega) (by omega) (by omega)]; omega
    rw [fX9_judge_L44, clN (by omega)]
    simp only [if_neg (gR4' hq)]
    rw [hsz]
    by_cases e : k = sz
    · rw [if_pos (by rw [I_le (by omega) (by omega) (by omega) (by omega)]; omega), if_neg (by omega)]
    · rw [if_neg (by rw [I_le (by omega) (by omega) (by omega) (by omega)]; omega), if_pos (c := k < sz) (by omega)]
      by_cases e2 : k = len
      · rw [if_pos (by rw [I_le (by omega) (by omega) (by omega) (by omega)]; omega)]
      · have g1' : ¬ (I k < 0 ∨ 40 ≤ k) := by
          rcases g1 with g1 | g1
          · exact g1
          · omega
        rw [if_neg (by rw [I_le (by omega) (by omega) (by omega) (by omega)]; omega), clN (by omega)]
        simp only [if_neg g1']
        rw [if_neg (fun z => h4 (by omega) (by omega) ((lgc0 _ _).mp z))]
  | d + 1, k, h, m => by
    have g1 : ¬ (I k < 0 ∨ 40 ≤ k) := by
      rw [L0, I_lt (by omega) (by omega) (by omega) (by omega)]; omega
    rw [show m + (d + 1) + 1 = (m + d + 1) + 1 by omega, fX9_judge_L44, clN (by omega), clN (by omega)]
    simp only [if_neg (gR4' hq), if_neg g1]
    rw [hsz, if_neg (by rw [I_le (by omega) (by omega) (by omega) (by omega)]; omega), if_neg (by rw [I_le (by omega) (by omega) (by omega) (by omega)]; omega), if_pos ((lgc0 _ _).mpr (h3 k (by omega))), L1, I_add]
    exact jud9 x1 q hq g pl so si sz len hsz hs hl a v l o ov hh p o2 l2 c h1 h2 h3 h4 d (k + 1) (by omega) m
theorem szIR {so1 si1 so2 si2 : Nat → Int32} {pl1 pl2 : Nat → Nat → Int64} (h : IR so1 si1 pl1 so2 si2 pl2) {q : Nat} (hq : q < 4) (hs : 0 ≤ (so1 q).toInt) : ∃ sz : Nat, sz ≤ 40 ∧ si1 q = I sz ∧ si2 q = I sz ∧ ∀ j, j < sz → pl2 q j = pl1 q j := by
  obtain ⟨-, e2, -⟩ := h q hq
  obtain ⟨f1, f2, f3, f4⟩ := e2 hs
  obtain ⟨n, en⟩ := Int.eq_ofNat_of_zero_le f2
  have es : si1 q = I n := by rw [← en, Iof]
  exact ⟨n, by omega, es, by rw [f1, es], fun j hj => f4 j (by omega)⟩
theorem p_judge (x y : Int32) (num words g tn tw p : Nat → Int32) (so1 si1 so2 si2 : Nat → Int32) (pl1 pl2 : Nat → Nat → Int64) (a v l rr o ha hr ln ov0 hl hb : Int32) (o1 l1 : Nat → Int32) (a9 v9 l9 o9 om ov9 ih : Int32) (o2 l2 : Nat → Int32) (hF : FI num words g) (h : IR so1 si1 pl1 so2 si2 pl2) :
    ∃ r, (fX8_judge x y num words a v l rr o ha hr tn tw ln ov0 hl hb o1 l1 so1 si1 pl1).map Prod.fst = some r ∧ (fX9_judge x y a9 v9 l9 o9 om ov9 ih g p pl2 so2 si2 o2 l2).map Prod.fst = some r := by
  obtain ⟨x, rfl, x1, x2⟩ := I_ex x
  obtain ⟨y, rfl, y1, y2⟩ := I_ex y
  unfold fX8_judge fX9_judge
  rw [rw8 x1 x2, rw9 x1 x2, rw8 y1 y2, rw9 y1 y2]
  simp only [bnd1_some]
  by_cases c : 0 ≤ x ∧ x ≤ 3
  · simp only [if_pos c, if_neg is1]
    by_cases cy : 0 ≤ y ∧ y ≤ 3
    · simp only [if_pos cy, if_neg is1]
      obtain ⟨r, rfl⟩ := Int.eq_ofNat_of_zero_le c.1
      obtain ⟨q, rfl⟩ := Int.eq_ofNat_of_zero_le cy.1
      have hr4 : r < 4 := by omega
      have hq4 : q < 4 := by omega
      obtain ⟨e1, -⟩ := h r hr4
      obtain ⟨e2, -⟩ := h q hq4
      rw [ms8 hr4, ms8 hq4]
      simp only [bnd1_some, clN (show r < 100000 by omega), clN (show q < 100000 by omega), if_neg (gR4' hr4), if_neg (gR4' hq4)]
      rw [e1, e2]
      by_cases cs : 0 ≤ (so1 r).toInt
      · rw [if_pos cs, if_pos (c := (0 : Int32) = 0) rfl, if_neg (c := so1 r < 0) (fun z => by rw [I_ng] at z; omega)]
        by_cases ct : 0 ≤ (so1 q).toInt
        · obtain ⟨N, n, len, ov', hh, hb', a', v', l', r', o', ha', hr2, a9', v9', l9', o9', o1', l1', o2', l2', n', w2', p', q1, q2, q3, q4, q5, q6, q7, q8, hV, hn, hg⟩ := bothT hF h hr4 cs a v l rr o ha hr tn tw ln ov0 hl hb o1 l1 a9 v9 l9 o9 om ov9 ih o2 l2 p
          obtain ⟨sz, z1, z2, z3, z4⟩ := szIR h hq4 ct
          obtain ⟨k, k1, k2, k3, k4, k5⟩ := hml o1' (pl1 q) len sz (by omega) z1
          have oeq : ∀ j, j < len → o2' j = o1' j := fun j hj => by
            obtain ⟨zz, ll, f1, f2, -⟩ := q8 j hj
            rw [f1, f2]
          have jd := jud9 (I r) q hq4 g pl2 so2 si2 sz len z3 z1 (by omega) a9' v9' l9' o9' (I ov') (bo hh) p' o2' l2' k k2 k3 (fun j hj => by
            show pl2 q j = (o2' j).toInt64
            rw [z4 j (by omega), oeq j (by omega)]
            exact k4 j hj) (fun h1 h2 => by
            show ¬ (pl2 q k = (o2' k).toInt64)
            rw [z4 k h2, oeq k h1]
            exact k5 h1 h2) k 0 (by omega) (99999 - k)
          rw [show 99999 - k + k + 1 = FUEL by show _ = 100000; omega, show I ((0 : Nat) : Int) = 0 from rfl] at jd
          rw [if_pos ct, if_pos (c := (0 : Int32) = 0) rfl, if_pos (c := 0 ≤ so1 q) ((I_sg _).mpr ct), q1, bnd15_some, q2, bnd10_some, z2, k1, bnd1_some, jd, bnd1_some, z3]
          by_cases kk : k < sz
          · rw [if_neg (by rw [I_le (by omega) (by omega) (by omega) (by omega)]; omega), if_pos kk]
            exact ⟨_, rfl, rfl⟩
          · rw [if_pos (by rw [I_le (by omega) (by omega) (by omega) (by omega)]; omega), if_neg kk]
            dsimp only [sumE, c0]
            by_cases k6 : I len ≤ I sz
            · rw [if_pos k6, if_pos k6]
              exact ⟨_, rfl, rfl⟩
            · rw [if_neg k6, if_neg k6]
              exact ⟨_, rfl, rfl⟩
        · rw [if_neg ct, if_neg (c := (1 : Int32) = 0) (by decide), if_neg (c := 0 ≤ so1 q) (fun z => ct ((I_sg _).mp z))]
          exact ⟨_, rfl, rfl⟩
      · rw [if_neg cs, if_neg (c := (1 : Int32) = 0) (by decide), if_pos (c := so1 r < 0) (by rw [I_ng]; omega)]
        exact ⟨_, rfl, rfl⟩
    · simp only [if_neg cy, if_pos is0]
      exact ⟨_, rfl, rfl⟩
  · simp only [if_neg c, if_pos is0]
    exact ⟨_, rfl, rfl⟩
