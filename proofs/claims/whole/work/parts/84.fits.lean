/-! fits -/
theorem has8f (o : Nat → Int32) (pl : Nat → Int64) (len sz : Nat) (hl : len ≤ 40) (hs : sz ≤ 40) : fX2_hasAsFirst (I len) o (I sz) pl = some (bo (decide (sz ≤ len ∧ ∀ j, j < sz → pl j = (o j).toInt64))) := by
  obtain ⟨c, e, h1, h2, h3, h4⟩ := hml o pl len sz hl hs
  unfold fX2_hasAsFirst
  rw [e, bnd1_some, L1, L0]
  unfold bo
  by_cases q : c = sz
  · rw [if_pos (by rw [q]), if_pos (decide_eq_true ⟨by omega, fun j hj => h3 j (by omega)⟩)]
  · rw [if_neg (by rw [I_eq (by omega) (by omega) (by omega) (by omega)]; omega), if_neg (by
      rw [decide_eq_true_iff]
      rintro ⟨k1, k2⟩
      exact h4 (by omega) (by omega) (k2 c (by omega)))]
theorem isL9 (x1 : Int32) (q : Nat) (hq : q < 4) (g : Nat → Int32) (pl : Nat → Nat → Int64) (si : Nat → Int32) (sz : Nat) (hsz : si q = I sz) (hs : sz ≤ 40) (a v l o om ov hh : Int32) (p o2 l2 : Nat → Int32) : ∀ d k : Nat, k + d = sz → ∀ m : Nat, ((∀ j, k ≤ j → j < sz → pl q j = (o2 j).toInt64) ∧ fX9_isSoBy_L22 x1 (I q) g pl si (m + d + 1) (I k) a v l o om ov hh p o2 l2 = some (.inr ())) ∨ (¬ (∀ j, k ≤ j → j < sz → pl q j = (o2 j).toInt64) ∧ fX9_isSoBy_L22 x1 (I q) g pl si (m + d + 1) (I k) a v l o om ov hh p o2 l2 = some (.inl ()))
  | 0, k, h, m => by
    have e : k = sz := by omega
    subst e
    rw [fX9_isSoBy_L22, clN (by omega)]
    simp only [if_neg (gR4' hq)]
    rw [hsz, if_pos (by rw [I_le (by omega) (by omega) (by omega) (by omega)]; omega)]
    exact Or.inl ⟨fun j h1 h2 => absurd h1 (by omega), rfl⟩
  | d + 1, k, h, m => by
    have g1 : ¬ (I k < 0 ∨ 40 ≤ k) := by
      rw [L0, I_lt (by omega) (by omega) (by omega) (by omega)]; omega
    rw [show m + (d + 1) + 1 = (m + d + 1) + 1 by omega, fX9_isSoBy_L22, clN (by omega), clN (by omega)]
    simp only [if_neg (gR4' hq), if_neg g1]
    rw [hsz, if_neg (by rw [I_le (by omega) (by omega) (by omega) (by omega)]; omega)]
    by_cases c : pl q k = (o2 k).toInt64
    · rw [if_pos ((lgc0 _ _).mpr c), L1, I_add]
      rcases isL9 x1 q hq g pl si sz hsz hs a v l o om ov hh p o2 l2 d (k + 1) (by omega) m with ⟨b, e⟩ | ⟨b, e⟩
      · refine Or.inl ⟨fun j h1 h2 => ?_, e⟩
        by_cases e : j = k
        · rw [e]; exact c
        · exact b j (by omega) h2
      · exact Or.inr ⟨fun z => b fun j h1 h2 => z j (by omega) h2, e⟩
    · rw [if_neg (fun z => c ((lgc0 _ _).mp z))]
      exact Or.inr ⟨fun z => c (z k (by omega) (by omega)), rfl⟩
theorem iso9 {len sz q : Nat} (hq : q < 4) (hl : len ≤ 40) (hs : sz ≤ 40) (x1 : Int32) {g : Nat → Int32} {pl : Nat → Nat → Int64} {si : Nat → Int32} (hsz : si q = I sz) {a v l o om ov hh a' v' l' o' ov' hh' : Int32} {p o2 l2 p' o2' l2' : Nat → Int32} (hr : fX9_runs x1 a v l o om ov hh g p pl si o2 l2 = some (a', v', l', o', I len, ov', hh', p', o2', l2')) : fX9_isSoBy x1 (I q) a v l o om ov hh g p pl si o2 l2 = some (bo (decide (sz ≤ len ∧ ∀ j, j < sz → pl q j = (o2' j).toInt64)), a', v', l', o', I len, ov', hh', p', o2', l2') := by
  have e := isL9 x1 q hq g pl si sz hsz hs a' v' l' o' (I len) ov' hh' p' o2' l2' sz 0 (by omega) (99999 - sz)
  rw [show 99999 - sz + sz + 1 = FUEL by show _ = 100000; omega, show I ((0 : Nat) : Int) = 0 from rfl] at e
  unfold fX9_isSoBy
  rw [hr, bnd10_some, clN (by omega), if_neg (gR4' hq), hsz]
  by_cases c : sz ≤ len
  · rw [if_pos (by rw [I_le (by omega) (by omega) (by omega) (by omega)]; omega)]
    rcases e with ⟨b, e⟩ | ⟨b, e⟩
    · rw [e, bnd1_some, decide_eq_true (show sz ≤ len ∧ ∀ j, j < sz → pl q j = (o2' j).toInt64 from ⟨c, fun j hj => b j (by omega) hj⟩)]
      rfl
    · rw [e, bnd1_some, decide_eq_false (show ¬ (sz ≤ len ∧ ∀ j, j < sz → pl q j = (o2' j).toInt64) from fun z => b fun j _ hj => z.2 j hj)]
      rfl
  · rw [if_neg (by rw [I_le (by omega) (by omega) (by omega) (by omega)]; omega), decide_eq_false (fun z => c z.1)]
    rfl
/-- one try of a number at a place: the two sides find the same, whatever else there is -/
def TX (N W : Nat → Int) (s : Nat) (r q : Nat) (si : Nat → Int32) (pl : Nat → Nat → Int64) (v : Int) (b : Bool) : Prop := ∀ (nx wx : Nat → Int32), (∀ j, j < 10 → nx j = I (upI N s v j)) → (∀ k, k < 3 → wx k = I (W k)) → ∀ (ln ov0 hl hb a vv l rr o ha hr : Int32) (o1 l1 : Nat → Int32), ∃ o8 o9 o10 o11 o12 o13 o14 o15 o16 o17 o18 o19 o20 o21, fX2_follow ln ov0 hl hb o1 l1 a vv l rr o ha hr nx wx (si r) (pl r) = some (o8, o9, o10, o11, o12, o13, o14, o15, o16, o17, o18, o19, o20, o21) ∧ fX2_hasAsFirst o8 o12 (si q) (pl q) = some (bo b)
def TM (N W : Nat → Int) (s : Nat) (r q : Nat) (si : Nat → Int32) (pl : Nat → Nat → Int64) (v : Int) (b : Bool) : Prop := ∀ (gx : Nat → Int32), (∀ j, j < 10 → gx j = I (upI N s v j)) → (∀ k, k < 3 → gx (10 + k) = I (W k)) → ∀ (a vv l o om ov hh : Int32) (p o2 l2 : Nat → Int32), ∃ p2 p3 p4 p5 p6 p7 p8 p9 p10 p11, fX9_isSoBy (I r) (I q) a vv l o om ov hh gx p pl si o2 l2 = some (bo b, p2, p3, p4, p5, p6, p7, p8, p9, p10, p11)
theorem bo_inj {a b : Bool} (h : some (bo a) = some (bo b)) : a = b := by
  have h := Option.some.inj h
  unfold bo at h
  cases a <;> cases b <;> first | rfl | exact absurd h (by decide +kernel)
theorem hf_up {N : Nat → Int} {s : Nat} {v : Int} (hs : 2 ≤ s) : hf (upI N s v) = hf N := by
  unfold hf upI
  rw [if_neg (by omega)]
theorem tryF {N W : Nat → Int} (hW : Wd N W) {s : Nat} (hs : 2 ≤ s) {v : Int} (hV : Vl (upI N s v)) {so1 si1 so2 si2 : Nat → Int32} {pl1 pl2 : Nat → Nat → Int64} (h : IR so1 si1 pl1 so2 si2 pl2) {r q : Nat} (hr : r < 4) (hq : q < 4) (cr : 0 ≤ (so1 r).toInt) (cq : 0 ≤ (so1 q).toInt) : ∃ b, TX N W s r q si1 pl1 v b ∧ TM N W s r q si2 pl2 v b := by
  obtain ⟨sz, z1, z2, z3, z4⟩ := szIR h hq cq
  have hW' : Wd (upI N s v) W := fun k hk => by rw [hf_up hs]; exact hW k hk
  have pair : ∀ (nx wx : Nat → Int32), (∀ j, j < 10 → nx j = I (upI N s v j)) → (∀ k, k < 3 → wx k = I (W k)) → ∀ (gx : Nat → Int32), (∀ j, j < 10 → gx j = I (upI N s v j)) → (∀ k, k < 3 → gx (10 + k) = I (W k)) → ∀ (ln ov0 hl hb a vv l rr o ha hrr : Int32) (o1 l1 : Nat → Int32) (a9 v9 l9 o9 om ov9 ih : Int32) (o2 l2 p : Nat → Int32), ∃ b : Bool, (∃ o8 o9 o10 o11 o12 o13 o14 o15 o16 o17 o18 o19 o20 o21, fX2_follow ln ov0 hl hb o1 l1 a vv l rr o ha hrr nx wx (si1 r) (pl1 r) = some (o8, o9, o10, o11, o12, o13, o14, o15, o16, o17, o18, o19, o20, o21) ∧ fX2_hasAsFirst o8 o12 (si1 q) (pl1 q) = some (bo b)) ∧ (∃ p2 p3 p4 p5 p6 p7 p8 p9 p10 p11, fX9_isSoBy (I r) (I q) a9 v9 l9 o9 om ov9 ih gx p pl2 si2 o2 l2 = some (bo b, p2, p3, p4, p5, p6, p7, p8, p9, p10, p11)) := by
    intro nx wx hn hw gx hg hp ln ov0 hl hb a vv l rr o ha hrr o1 l1 a9 v9 l9 o9 om ov9 ih o2 l2 p
    obtain ⟨n, len, ov', hh, hb', a', v', l', r', o', ha', hr2, a9', v9', l9', o9', o1', l1', o2', l2', w2, p', W', q1, q2, q3, q4, q5, q6, q7, q8, q9, q10, q11⟩ := bothF hV hW' hn hg hw hp h hr cr ln ov0 hl hb a vv l rr o ha hrr a9 v9 l9 o9 om ov9 ih o1 l1 o2 l2 p
    refine ⟨decide (sz ≤ len ∧ ∀ j, j < sz → pl1 q j = (o1' j).toInt64), ⟨_, _, _, _, _, _, _, _, _, _, _, _, _, _, q1, ?_⟩, ?_⟩
    · rw [z2]
      exact has8f o1' (pl1 q) len sz (by omega) z1
    · have e := iso9 (sz := sz) hq (show len ≤ 40 by omega) z1 (I r) z3 q2
      have ed : (sz ≤ len ∧ ∀ j, j < sz → pl2 q j = (o2' j).toInt64) ↔ (sz ≤ len ∧ ∀ j, j < sz → pl1 q j = (o1' j).toInt64) := by
        constructor
        · rintro ⟨k1, k2⟩
          refine ⟨k1, fun j hj => ?_⟩
          obtain ⟨zz, ll, f1, f2, -⟩ := q11 j (by omega)
          have := k2 j hj
          rwa [z4 j hj, f2, ← f1] at this
        · rintro ⟨k1, k2⟩
          refine ⟨k1, fun j hj => ?_⟩
          obtain ⟨zz, ll, f1, f2, -⟩ := q11 j (by omega)
          rw [z4 j hj, f2, ← f1]
          exact k2 j hj
      rw [e]
      simp only [ed]
      exact ⟨_, _, _, _, _, _, _, _, _, _, rfl⟩
  have n0 : ∀ j, j < 10 → (fun j => I (upI N s v j)) j = I (upI N s v j) := fun _ _ => rfl
  have w0 : ∀ k, k < 3 → (fun j => I (W j)) k = I (W k) := fun _ _ => rfl
  have g0 : ∀ j, j < 10 → (fun j => if j < 10 then I (upI N s v j) else I (W (j - 10))) j = I (upI N s v j) := fun j hj => by
    show (if j < 10 then I (upI N s v j) else I (W (j - 10))) = _
    rw [if_pos hj]
  have g1 : ∀ k, k < 3 → (fun j => if j < 10 then I (upI N s v j) else I (W (j - 10))) (10 + k) = I (W k) := fun k hk => by
    show (if 10 + k < 10 then I (upI N s v (10 + k)) else I (W (10 + k - 10))) = _
    rw [if_neg (by omega)]
    congr 2; omega
  obtain ⟨b, ⟨a8, a9, a10, a11, a12, a13, a14, a15, a16, a17, a18, a19, a20, a21, x1, x2⟩, ⟨b2, b3, b4, b5, b6, b7, b8, b9, b10, b11, y1⟩⟩ := pair _ _ n0 w0 _ g0 g1 0 0 0 0 0 0 0 0 0 0 0 (fun _ => 0) (fun _ => 0) 0 0 0 0 0 0 0 (fun _ => 0) (fun _ => 0) (fun _ => 0)
  refine ⟨b, fun nx wx hn hw ln ov0 hl hb a vv l rr o ha hrr o1 l1 => ?_, fun gx hg hp a9 v9 l9 o9 om ov9 ih p o2 l2 => ?_⟩
  · obtain ⟨b', hX, ⟨d2, d3, d4, d5, d6, d7, d8, d9, d10, d11, y2⟩⟩ := pair nx wx hn hw _ g0 g1 ln ov0 hl hb a vv l rr o ha hrr o1 l1 0 0 0 0 0 0 0 (fun _ => 0) (fun _ => 0) (fun _ => 0)
    have e := y1.symm.trans y2
    have e2 : b = b' := bo_inj (congrArg (fun z => z.map Prod.fst) e)
    rw [e2]; exact hX
  · obtain ⟨b', ⟨d8, d9, d10, d11, d12, d13, d14, d15, d16, d17, d18, d19, d20, d21, w1, w2⟩, hM⟩ := pair _ _ n0 w0 gx hg hp 0 0 0 0 0 0 0 0 0 0 0 (fun _ => 0) (fun _ => 0) a9 v9 l9 o9 om ov9 ih o2 l2 p
    have e := x1.symm.trans w1
    simp only [Option.some.injEq, Prod.mk.injEq] at e
    rw [← e.1, ← e.2.2.2.2.1] at w2
    have e2 : b = b' := bo_inj (x2.symm.trans w2)
    rw [e2]; exact hM
