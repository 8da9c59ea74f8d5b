theorem tTR : ∀ w, w < 6 → tb tTRIED w = I (([7, 8, 6, 9, 2, 2] : List Int).getD w 0) := by decide +kernel
theorem Vup {N : Nat → Int} (hV : Vl N) {s : Nat} (hs : 2 ≤ s) (hs2 : s < 10) {v : Int} (h1 : LW s ≤ v) (h2 : v ≤ HW s) : Vl (upI N s v) := by
  rw [Vl_iff] at hV ⊢
  refine ⟨fun j hj => ?_, ?_⟩
  · unfold upI
    by_cases e : j = s
    · rw [if_pos e, e]; exact ⟨h1, h2⟩
    · rw [if_neg e]; exact hV.1 j hj
  · unfold upI
    rw [if_neg (by omega), if_neg (by omega)]
    exact hV.2
theorem tryB {N W : Nat → Int} (hV : Vl N) (hW : Wd N W) {s : Nat} (hs : 2 ≤ s) (hs2 : s < 10) {so1 si1 so2 si2 : Nat → Int32} {pl1 pl2 : Nat → Nat → Int64} (h : IR so1 si1 pl1 so2 si2 pl2) {r q : Nat} (hr : r < 4) (hq : q < 4) (cr : 0 ≤ (so1 r).toInt) (cq : 0 ≤ (so1 q).toInt) : ∃ B : Int → Bool, ∀ v, LW s ≤ v → v ≤ HW s → TX N W s r q si1 pl1 v (B v) ∧ TM N W s r q si2 pl2 v (B v) := by
  have hBe : ∀ v : Int, ∃ b : Bool, LW s ≤ v → v ≤ HW s → TX N W s r q si1 pl1 v b ∧ TM N W s r q si2 pl2 v b := by
    intro v
    by_cases c : LW s ≤ v ∧ v ≤ HW s
    · obtain ⟨b, h1, h2⟩ := tryF hW hs (Vup hV hs hs2 c.1 c.2) h hr hq cr cq
      exact ⟨b, fun _ _ => ⟨h1, h2⟩⟩
    · exact ⟨false, fun h1 h2 => absurd ⟨h1, h2⟩ c⟩
  exact ⟨fun v => Classical.choose (hBe v), fun v h1 h2 => Classical.choose_spec (hBe v) h1 h2⟩
theorem FI_off {num words g g' : Nat → Int32} (hF : FI num words g) {s : Nat} (hs : s < 10) (h : off s g' g) : FI num words (upd g' s (g s)) := by
  obtain ⟨N, W, hV, hW, hn, hw, hg, hp⟩ := hF
  have e : ∀ j, j < 13 → (upd g' s (g s)) j = g j := by
    intro j hj
    by_cases q : j = s
    · rw [q, upd_s]
    · rw [upd_o _ _ q, h j hj q]
  exact ⟨N, W, hV, hW, hn, hw, fun j hj => (e j (by omega)).trans (hg j hj), fun k hk => (e _ (by omega)).trans (hp k hk)⟩
theorem setB9 {num words g : Nat → Int32} (hF : FI num words g) {N W : Nat → Int} (hg : ∀ j, j < 10 → g j = I (N j)) (hp : ∀ k, k < 3 → g (10 + k) = I (W k)) {s : Nat} (hs : s < 10) {r q : Nat} {si : Nat → Int32} {pl : Nat → Nat → Int64} (most : Nat) (hm2 : most ≤ 99) (B : Int → Bool) (hB : ∀ v : Int, 0 ≤ v → v ≤ most → TM N W s r q si pl v (B v)) (a vv ll o om ov hh : Int32) (p o2 l2 : Nat → Int32) : ∃ a' v' l' o' om' ov' hh' g' p' o2' l2', fX9_setBy (I s) (I most) (I r) (I q) a vv ll o om ov hh g p pl si o2 l2 = some (fmb B (most + 1) 0 0, a', v', l', o', om', ov', hh', g', p', o2', l2') ∧ FI num words g' := by
  have gs : ¬ (I s < 0 ∨ 13 ≤ s) := by rw [L0, I_lt (by omega) (by omega) (by omega) (by omega)]; omega
  obtain ⟨a', v', l', o', om', ov', hh', g', p', o2', l2', e, hO⟩ := setL9 hg hp hs (r := r) (q := q) (si := si) (pl := pl) (most : Int) (by omega) (by omega) B hB (g s) (most + 1) 0 (by omega) (by omega) (99998 - most) 0 a vv ll o om ov hh g p o2 l2 (fun j _ _ => rfl)
  rw [show 99998 - most + (most + 1) + 1 = FUEL by show _ = 100000; omega, show I (0 : Int) = 0 from rfl] at e
  unfold fX9_setBy
  rw [clN (by omega), if_neg gs, e, bnd12_some, if_neg gs]
  exact ⟨_, _, _, _, _, _, _, _, _, _, _, rfl, FI_off hF hs hO⟩
theorem coef9 {num words g : Nat → Int32} (hF : FI num words g) {N W : Nat → Int} (hg : ∀ j, j < 10 → g j = I (N j)) (hp : ∀ k, k < 3 → g (10 + k) = I (W k)) {r q : Nat} {si : Nat → Int32} {pl : Nat → Nat → Int64} (B : Int → Bool) (hB : ∀ v, -99 ≤ v → v ≤ 99 → TM N W 2 r q si pl v (B v)) (x3 : Int32) (a vv ll o om ov hh : Int32) (p o2 l2 : Nat → Int32) : ∃ a' v' l' o' om' ov' hh' g' p' o2' l2', fX9_coefficient (I r) (I q) x3 a vv ll o om ov hh g p pl si o2 l2 = some (if x3 = 0 then fxm B 199 99 0 else fxl B 199 99 (-1002), a', v', l', o', om', ov', hh', g', p', o2', l2') ∧ FI num words g' := by
  obtain ⟨a', v', l', o', om', ov', hh', g', p', o2', l2', e, hO⟩ := coeL9 hg hp (r := r) (q := q) (si := si) (pl := pl) B hB x3 (g 2) 199 99 (by omega) (by omega) 99800 0 (-1002) a vv ll o om ov hh g p o2 l2 (fun j _ _ => rfl)
  rw [show 99800 + 199 + 1 = FUEL from rfl, ← L99] at e
  unfold fX9_coefficient
  rw [e, bnd13_some]
  by_cases c : x3 = 0
  · rw [if_pos c, if_pos c]
    exact ⟨_, _, _, _, _, _, _, _, _, _, _, rfl, FI_off hF (by omega) hO⟩
  · rw [if_neg c, if_neg c]
    exact ⟨_, _, _, _, _, _, _, _, _, _, _, rfl, FI_off hF (by omega) hO⟩
theorem fitsX {N W : Nat → Int} {num words : Nat → Int32} (hn : ∀ j, j < 10 → num j = I (N j)) (hw : ∀ k, k < 3 → words k = I (W k)) {s : Nat} (hs : s < 10) {r q : Nat} (hr : r < 4) (hq : q < 4) {so si : Nat → Int32} {pl : Nat → Nat → Int64} (x3 : Int32) (B : Int → Bool) (hB : ∀ v, LW s ≤ v → v ≤ HW s → TX N W s r q si pl v (B v)) (d : Nat) (hd : HW s - d = LW s - 1) (a vv ll rr o ha hrr : Int32) (tn tw : Nat → Int32) (ln ov hl hb : Int32) (o1 l1 : Nat → Int32) : ∃ a' v' l' r' o' ha' hr' tn' tw' ln' ov' hl' hb' o1' l1', fX8_fits_L76 (I r) (I q) x3 num words so si pl FUEL (I s) (0 : Int32) (0 : Int32) (-1002 : Int32) (tb tHIGH s) a vv ll rr o ha hrr tn tw ln ov hl hb o1 l1 = some (fxb B d (HW s) 0, fxm B d (HW s) 0, fxl B d (HW s) (-1002), a', v', l', r', o', ha', hr', tn', tw', ln', ov', hl', hb', o1', l1') := by
  have lb := LHb s hs
  have h := fit8 hn hw hs hr hq (so := so) x3 B hB d (HW s) hd (by omega) (99999 - d) 0 0 (-1002) a vv ll rr o ha hrr tn tw ln ov hl hb o1 l1
  rw [show 99999 - d + d + 1 = FUEL by show _ = 100000; omega] at h
  rw [tbH s hs]
  exact h
theorem p_fits (x y w : Int32) (num words g tn tw p : Nat → Int32) (so1 si1 so2 si2 : Nat → Int32) (pl1 pl2 : Nat → Nat → Int64) (a v l rr o ha hr ln ov0 hl hb : Int32) (o1 l1 : Nat → Int32) (a9 v9 l9 o9 om ov9 ih : Int32) (o2 l2 : Nat → Int32) (hF : FI num words g) (h : IR so1 si1 pl1 so2 si2 pl2) :
    ∃ R A9 V9 L9 O9 OM OV9 IH g' p' O2 L2, (fX8_fits x y w num words a v l rr o ha hr tn tw ln ov0 hl hb o1 l1 so1 si1 pl1).map Prod.fst = some R ∧ fX9_fits x y w a9 v9 l9 o9 om ov9 ih g p pl2 so2 si2 o2 l2 = some (R, A9, V9, L9, O9, OM, OV9, IH, g', p', O2, L2) ∧ FI num words g' := by
  obtain ⟨x, rfl, x1, x2⟩ := I_ex x
  obtain ⟨y, rfl, y1, y2⟩ := I_ex y
  obtain ⟨w, rfl, w1, w2⟩ := I_ex w
  unfold fX8_fits fX9_fits
  rw [rw8 x1 x2, rw9 x1 x2, rw8 y1 y2, rw9 y1 y2, M0, M5, inR9 w 0 5 w1 w2 (by omega) (by omega) (by omega) (by omega)]
  simp only [bnd1_some]
  by_cases c : 0 ≤ x ∧ x ≤ 3
  · simp only [if_pos c, if_neg is1]
    by_cases cy : 0 ≤ y ∧ y ≤ 3
    · simp only [if_pos cy, if_neg is1]
      by_cases cw : 0 ≤ w ∧ w ≤ 5
      · simp only [if_pos cw, if_neg is1]
        rw [if_neg (c := I w < 0) (by rw [L0, I_lt (by omega) (by omega) (by omega) (by omega)]; omega), if_pos (c := I w < (6 : Int32)) (by rw [L6, I_lt (by omega) (by omega) (by omega) (by omega)]; omega)]
        obtain ⟨r, rfl⟩ := Int.eq_ofNat_of_zero_le c.1
        obtain ⟨q, rfl⟩ := Int.eq_ofNat_of_zero_le cy.1
        have hr4 : r < 4 := by omega
        have hq4 : q < 4 := by omega
        obtain ⟨e1, -⟩ := h r hr4
        obtain ⟨e2, -⟩ := h q hq4
        rw [ms8 hr4, ms8 hq4]
        simp only [bnd1_some, clN (show r < 100000 by omega), clN (show q < 100000 by omega), if_neg (gR4' hr4), if_neg (gR4' hq4)]
        rw [e1, e2]
        by_cases cs : 0 ≤ (so1 r).toInt
        · rw [if_pos cs, if_pos (c := (0 : Int32) = 0) rfl, if_neg (c := so1 r < 0) (fun z => by rw [I_ng] at z; omega)]
          by_cases ct : 0 ≤ (so1 q).toInt
          · rw [if_pos ct, if_pos (c := (0 : Int32) = 0) rfl, if_pos (c := 0 ≤ so1 q) ((I_sg _).mpr ct)]
            have hF0 := hF
            obtain ⟨N, W, hV, hW, hn, hw, hg, hp⟩ := hF
            have w6 : w = 0 ∨ w = 1 ∨ w = 2 ∨ w = 3 ∨ w = 4 ∨ w = 5 := by omega
            rcases w6 with rfl | rfl | rfl | rfl | rfl | rfl
            · obtain ⟨B, hB⟩ := tryB hV hW (s := 7) (by omega) (by omega) h hr4 hq4 cs ct
              obtain ⟨a', v', l', r', o', ha', hr', tn', tw', ln', ov', hl', hb', o1', l1', f1⟩ := fitsX hn hw (s := 7) (by omega) hr4 hq4 (so := so1) (I 0) B (fun v h1 h2 => (hB v h1 h2).1) 5 (by decide) a v l rr o ha hr tn tw ln ov0 hl hb o1 l1
              obtain ⟨b1, b2, b3, b4, b5, b6, b7, g', p', b8, b9, f2, f3⟩ := setB9 hF0 hg hp (s := 7) (by omega) (r := r) (q := q) (si := si2) (pl := pl2) 4 (by omega) B (fun v h1 h2 => (hB v h1 h2).2) a9 v9 l9 o9 om ov9 ih p o2 l2
              have f1' : fX8_fits_L76 (I r) (I q) (I 0) num words so1 si1 pl1 FUEL (tb tTRIED (I 0).toNatClampNeg) (0 : Int32) (0 : Int32) (-1002 : Int32) (tb tHIGH (tb tTRIED (I 0).toNatClampNeg).toNatClampNeg) a v l rr o ha hr tn tw ln ov0 hl hb o1 l1 = _ := f1
              have f2' : fX9_setBy (7 : Int32) (4 : Int32) (I r) (I q) a9 v9 l9 o9 om ov9 ih g p pl2 si2 o2 l2 = _ := f2
              rw [if_neg (c := I 0 < 0 ∨ _) (by decide +kernel), if_neg (c := _ ∨ _) (by decide +kernel), f1', bnd18_some, if_neg (c := (4 : Int32) ≤ I 0) (by decide +kernel), if_pos (c := I 0 = 0) rfl, f2', bnd12_some]
              exact ⟨_, _, _, _, _, _, _, _, _, _, _, _, congrArg some (b5e B), rfl, f3⟩
            · obtain ⟨B, hB⟩ := tryB hV hW (s := 8) (by omega) (by omega) h hr4 hq4 cs ct
              obtain ⟨a', v', l', r', o', ha', hr', tn', tw', ln', ov', hl', hb', o1', l1', f1⟩ := fitsX hn hw (s := 8) (by omega) hr4 hq4 (so := so1) (I 1) B (fun v h1 h2 => (hB v h1 h2).1) 5 (by decide) a v l rr o ha hr tn tw ln ov0 hl hb o1 l1
              obtain ⟨b1, b2, b3, b4, b5, b6, b7, g', p', b8, b9, f2, f3⟩ := setB9 hF0 hg hp (s := 8) (by omega) (r := r) (q := q) (si := si2) (pl := pl2) 4 (by omega) B (fun v h1 h2 => (hB v h1 h2).2) a9 v9 l9 o9 om ov9 ih p o2 l2
              have f1' : fX8_fits_L76 (I r) (I q) (I 1) num words so1 si1 pl1 FUEL (tb tTRIED (I 1).toNatClampNeg) (0 : Int32) (0 : Int32) (-1002 : Int32) (tb tHIGH (tb tTRIED (I 1).toNatClampNeg).toNatClampNeg) a v l rr o ha hr tn tw ln ov0 hl hb o1 l1 = _ := f1
              have f2' : fX9_setBy (8 : Int32) (4 : Int32) (I r) (I q) a9 v9 l9 o9 om ov9 ih g p pl2 si2 o2 l2 = _ := f2
              rw [if_neg (c := I 1 < 0 ∨ _) (by decide +kernel), if_neg (c := _ ∨ _) (by decide +kernel), f1', bnd18_some, if_neg (c := (4 : Int32) ≤ I 1) (by decide +kernel), if_neg (c := I 1 = 0) (by decide +kernel), if_pos (c := I 1 = 1) rfl, f2', bnd12_some]
              exact ⟨_, _, _, _, _, _, _, _, _, _, _, _, congrArg some (b5e B), rfl, f3⟩
            · obtain ⟨B, hB⟩ := tryB hV hW (s := 6) (by omega) (by omega) h hr4 hq4 cs ct
              obtain ⟨a', v', l', r', o', ha', hr', tn', tw', ln', ov', hl', hb', o1', l1', f1⟩ := fitsX hn hw (s := 6) (by omega) hr4 hq4 (so := so1) (I 2) B (fun v h1 h2 => (hB v h1 h2).1) 7 (by decide) a v l rr o ha hr tn tw ln ov0 hl hb o1 l1
              obtain ⟨b1, b2, b3, b4, b5, b6, b7, g', p', b8, b9, f2, f3⟩ := setB9 hF0 hg hp (s := 6) (by omega) (r := r) (q := q) (si := si2) (pl := pl2) 6 (by omega) B (fun v h1 h2 => (hB v h1 h2).2) a9 v9 l9 o9 om ov9 ih p o2 l2
              have f1' : fX8_fits_L76 (I r) (I q) (I 2) num words so1 si1 pl1 FUEL (tb tTRIED (I 2).toNatClampNeg) (0 : Int32) (0 : Int32) (-1002 : Int32) (tb tHIGH (tb tTRIED (I 2).toNatClampNeg).toNatClampNeg) a v l rr o ha hr tn tw ln ov0 hl hb o1 l1 = _ := f1
              have f2' : fX9_setBy (6 : Int32) (6 : Int32) (I r) (I q) a9 v9 l9 o9 om ov9 ih g p pl2 si2 o2 l2 = _ := f2
              rw [if_neg (c := I 2 < 0 ∨ _) (by decide +kernel), if_neg (c := _ ∨ _) (by decide +kernel), f1', bnd18_some, if_neg (c := (4 : Int32) ≤ I 2) (by decide +kernel), if_neg (c := I 2 = 0) (by decide +kernel), if_neg (c := I 2 = 1) (by decide +kernel), if_pos (c := I 2 = 2) rfl, f2', bnd12_some]
              exact ⟨_, _, _, _, _, _, _, _, _, _, _, _, congrArg some (b7e B), rfl, f3⟩
            · obtain ⟨B, hB⟩ := tryB hV hW (s := 9) (by omega) (by omega) h hr4 hq4 cs ct
              obtain ⟨a', v', l', r', o', ha', hr', tn', tw', ln', ov', hl', hb', o1', l1', f1⟩ := fitsX hn hw (s := 9) (by omega) hr4 hq4 (so := so1) (I 3) B (fun v h1 h2 => (hB v h1 h2).1) 2 (by decide) a v l rr o ha hr tn tw ln ov0 hl hb o1 l1
              obtain ⟨b1, b2, b3, b4, b5, b6, b7, g', p', b8, b9, f2, f3⟩ := setB9 hF0 hg hp (s := 9) (by omega) (r := r) (q := q) (si := si2) (pl := pl2) 1 (by omega) B (fun v h1 h2 => (hB v h1 h2).2) a9 v9 l9 o9 om ov9 ih p o2 l2
              have f1' : fX8_fits_L76 (I r) (I q) (I 3) num words so1 si1 pl1 FUEL (tb tTRIED (I 3).toNatClampNeg) (0 : Int32) (0 : Int32) (-1002 : Int32) (tb tHIGH (tb tTRIED (I 3).toNatClampNeg).toNatClampNeg) a v l rr o ha hr tn tw ln ov0 hl hb o1 l1 = _ := f1
              have f2' : fX9_setBy (9 : Int32) (1 : Int32) (I r) (I q) a9 v9 l9 o9 om ov9 ih g p pl2 si2 o2 l2 = _ := f2
              rw [if_neg (c := I 3 < 0 ∨ _) (by decide +kernel), if_neg (c := _ ∨ _) (by decide +kernel), f1', bnd18_some, if_neg (c := (4 : Int32) ≤ I 3) (by decide +kernel), if_neg (c := I 3 = 0) (by decide +kernel), if_neg (c := I 3 = 1) (by decide +kernel), if_neg (c := I 3 = 2) (by decide +kernel), if_pos (c := I 3 = 3) rfl, f2', bnd12_some]
              exact ⟨_, _, _, _, _, _, _, _, _, _, _, _, congrArg some (b2e B), rfl, f3⟩
            · obtain ⟨B, hB⟩ := tryB hV hW (s := 2) (by omega) (by omega) h hr4 hq4 cs ct
              obtain ⟨a', v', l', r', o', ha', hr', tn', tw', ln', ov', hl', hb', o1', l1', f1⟩ := fitsX hn hw (s := 2) (by omega) hr4 hq4 (so := so1) (I 4) B (fun v h1 h2 => (hB v h1 h2).1) 199 (by decide) a v l rr o ha hr tn tw ln ov0 hl hb o1 l1
              obtain ⟨b1, b2, b3, b4, b5, b6, b7, g', p', b8, b9, f2, f3⟩ := coef9 hF0 hg hp (r := r) (q := q) (si := si2) (pl := pl2) B (fun v h1 h2 => (hB v h1 h2).2) (0 : Int32) a9 v9 l9 o9 om ov9 ih p o2 l2
              have f1' : fX8_fits_L76 (I r) (I q) (I 4) num words so1 si1 pl1 FUEL (tb tTRIED (I 4).toNatClampNeg) (0 : Int32) (0 : Int32) (-1002 : Int32) (tb tHIGH (tb tTRIED (I 4).toNatClampNeg).toNatClampNeg) a v l rr o ha hr tn tw ln ov0 hl hb o1 l1 = _ := f1
              rw [if_neg (c := I 4 < 0 ∨ _) (by decide +kernel), if_neg (c := _ ∨ _) (by decide +kernel), f1', bnd18_some, if_pos (c := (4 : Int32) ≤ I 4) (by decide +kernel), if_pos (c := I 4 = (4 : Int32)) rfl, if_neg (c := I 4 = 0) (by decide +kernel), if_neg (c := I 4 = 1) (by decide +kernel), if_neg (c := I 4 = 2) (by decide +kernel), if_neg (c := I 4 = 3) (by decide +kernel), if_neg (c := I 4 = (5 : Int32)) (by decide +kernel), f2, bnd12_some, if_pos (c := (0 : Int32) = 0) rfl]
              exact ⟨_, _, _, _, _, _, _, _, _, _, _, _, rfl, rfl, f3⟩
            · obtain ⟨B, hB⟩ := tryB hV hW (s := 2) (by omega) (by omega) h hr4 hq4 cs ct
              obtain ⟨a', v', l', r', o', ha', hr', tn', tw', ln', ov', hl', hb', o1', l1', f1⟩ := fitsX hn hw (s := 2) (by omega) hr4 hq4 (so := so1) (I 5) B (fun v h1 h2 => (hB v h1 h2).1) 199 (by decide) a v l rr o ha hr tn tw ln ov0 hl hb o1 l1
              obtain ⟨b1, b2, b3, b4, b5, b6, b7, g', p', b8, b9, f2, f3⟩ := coef9 hF0 hg hp (r := r) (q := q) (si := si2) (pl := pl2) B (fun v h1 h2 => (hB v h1 h2).2) (1 : Int32) a9 v9 l9 o9 om ov9 ih p o2 l2
              have f1' : fX8_fits_L76 (I r) (I q) (I 5) num words so1 si1 pl1 FUEL (tb tTRIED (I 5).toNatClampNeg) (0 : Int32) (0 : Int32) (-1002 : Int32) (tb tHIGH (tb tTRIED (I 5).toNatClampNeg).toNatClampNeg) a v l rr o ha hr tn tw ln ov0 hl hb o1 l1 = _ := f1
              rw [if_neg (c := I 5 < 0 ∨ _) (by decide +kernel), if_neg (c := _ ∨ _) (by decide +kernel), f1', bnd18_some, if_pos (c := (4 : Int32) ≤ I 5) (by decide +kernel), if_neg (c := I 5 = (4 : Int32)) (by decide +kernel), if_neg (c := I 5 = 0) (by decide +kernel), if_neg (c := I 5 = 1) (by decide +kernel), if_neg (c := I 5 = 2) (by decide +kernel), if_neg (c := I 5 = 3) (by decide +kernel), if_pos (c := I 5 = (5 : Int32)) rfl, f2, bnd12_some, if_neg (c := (1 : Int32) = 0) (by decide)]
              exact ⟨_, _, _, _, _, _, _, _, _, _, _, _, rfl, rfl, f3⟩
          · rw [if_neg ct, if_neg (c := (1 : Int32) = 0) (by decide), if_neg (c := 0 ≤ so1 q) (fun z => ct ((I_sg _).mp z))]
            exact ⟨_, _, _, _, _, _, _, _, _, _, _, _, rfl, rfl, hF⟩
        · rw [if_neg cs, if_neg (c := (1 : Int32) = 0) (by decide), if_pos (c := so1 r < 0) (by rw [I_ng]; omega)]
          exact ⟨_, _, _, _, _, _, _, _, _, _, _, _, rfl, rfl, hF⟩
      · simp only [if_neg cw, if_pos is0]
        by_cases c0 : w < 0
        · rw [if_pos (c := I w < 0) (by rw [L0, I_lt (by omega) (by omega) (by omega) (by omega)]; omega)]
          exact ⟨_, _, _, _, _, _, _, _, _, _, _, _, rfl, rfl, hF⟩
        · rw [if_neg (c := I w < 0) (by rw [L0, I_lt (by omega) (by omega) (by omega) (by omega)]; omega), if_neg (c := I w < (6 : Int32)) (by rw [L6, I_lt (by omega) (by omega) (by omega) (by omega)]; omega)]
          exact ⟨_, _, _, _, _, _, _, _, _, _, _, _, rfl, rfl, hF⟩
    · simp only [if_neg cy, if_pos is0]
      exact ⟨_, _, _, _, _, _, _, _, _, _, _, _, rfl, rfl, hF⟩
  · simp only [if_neg c, if_pos is0]
    exact ⟨_, _, _, _, _, _, _, _, _, _, _, _, rfl, rfl, hF⟩
