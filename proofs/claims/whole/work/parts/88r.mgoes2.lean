/-! Ways, the reference's side: one start is followed -/
theorem goF {N : Nat → Int} (hV : Vl N) {g : Nat → Int32} (hg : ∀ j, j < 10 → g j = I (N j)) {S : Nat} (hS : stN N = S) {x : Int} {to : Nat → Int32} (hto : ∀ c, c < S → to c = I (enc (nxt N x c))) {R : Nat} {rd tl ln pr am bs : Nat → Int32} (hM : MS (nxt N x) S (latN N) R rd tl ln pr am bs) {start : Nat} (hst : start < S) (hrs : rd start = -3) (p path : Nat → Int32) :
    ∃ (R' : Nat) (p' rd' tl' path' ln' pr' am' bs' : Nat → Int32), fX9_goesFrom (I start) (I R) g p to rd tl path ln pr am bs = some (I R', p', rd', tl', path', ln', pr', am', bs') ∧ MS (nxt N x) S (latN N) R' rd' tl' ln' pr' am' bs' ∧ rd' start ≠ -3 ∧ ∀ c, c < S → rd c ≠ -3 → rd' c ≠ -3 := by
  have sb := st_b hV
  have hF : ∀ c, c < S → ∀ d, nxt N x c = some d → d < S := fun c hc => (nxt_e hV x hS hc).2
  obtain ⟨hR, hC, hRd⟩ := hM
  have hK0 : WM (nxt N x) S start 0 (fun _ => 0) (some start) rd rd path := ⟨by omega, fun m hm => absurd hm (by omega), fun m hm => absurd hm (by omega), Or.inl ⟨rfl, rfl⟩, fun a b _ hb => absurd hb (by omega), fun c hc => by rw [← Option.some.inj hc]; exact hst, fun c _ => rfl⟩
  obtain ⟨j, w, cur, rd1, path1, e1, hK, hne⟩ := goL4 (by omega) hF hto start (I start) g rd (I R) p tl ln pr am bs S 0 (by omega) (99999 - S) _ _ _ _ hK0
  obtain ⟨k1, k2, k3, k4, k5, k6, k7⟩ := hK
  rw [show 99999 - S + S + 1 = FUEL by show _ = 100000; omega, show I ((0 : Nat) : Int) = 0 from rfl, show I (enc (some start)) = I start from rfl] at e1
  have inB : ∀ c, c < S → rd c ≠ -3 → ∀ m, m < j → w m ≠ c := fun c hc h m hm q => h (by rw [← q]; exact (k2 m hm).2.1)
  have okB : ∀ c, c < S → rd c ≠ -3 → MG (nxt N x) S R ln rd tl c ∧ ∀ d, nxt N x c = some d → rd d ≠ -3 := fun c hc h => by
    rcases hC c hc with q | q
    · exact absurd q h
    · exact q
  have hB0 : ∀ c, (c < S ∧ rd c ≠ -3) → c < S ∧ ∀ d, nxt N x c = some d → d < S ∧ rd d ≠ -3 := fun c hc => ⟨hc.1, fun d hd => ⟨hF c hc.1 d hd, (okB c hc.1 hc.2).2 d hd⟩⟩
  have hBw0 : ∀ m, m < j → ¬ (w m < S ∧ rd (w m) ≠ -3) := fun m hm q => q.2 (k2 m hm).2.1
  have hMRk : ∀ r, r < R → MR (nxt N x) S (latN N) rd1 ln pr am bs r := fun r hr => by
    obtain ⟨L, m, a1, a2, a3, a4, a5⟩ := hRd r hr
    refine ⟨L, m, a1, a2, a3, ?_, a5⟩
    rw [k7 L fun q hq e => ?_, a4]
    have := (k2 q hq).2.1
    rw [e, a4, m3e, I_eq (by omega) (by omega) (by omega) (by omega)] at this
    omega
  have stOut : (w 0 = start ∧ 0 < j) ∨ j = 0 := by
    rcases k4 with ⟨q, -⟩ | ⟨q, q2, -⟩
    · exact Or.inr q
    · exact Or.inl ⟨q2, q⟩
  have hj0 : 0 < j := by
    rcases k4 with ⟨q, e⟩ | ⟨q, -⟩
    · exfalso
      refine hne start e ?_
      rw [k7 start fun m hm => absurd hm (by omega), hrs]
    · exact q
  have hw0 : w 0 = start := by
    rcases stOut with q | q
    · exact q.1
    · omega
  have plain : (∀ d, nxt N x (w (j - 1)) = some d → d < S ∧ rd d ≠ -3) → ∃ (p' rd' tl' path' ln' pr' am' bs' : Nat → Int32), fX9_goesFrom_j92 (I start) g to (I j) (I R) p rd1 tl path1 ln pr am bs = some (I R, p', rd', tl', path', ln', pr', am', bs') ∧ MS (nxt N x) S (latN N) R rd' tl' ln' pr' am' bs' ∧ rd' start ≠ -3 ∧ ∀ c, c < S → rd c ≠ -3 → rd' c ≠ -3 := by
    intro hl
    obtain ⟨rd', tl', e, q1, q2, q3⟩ := finG (S := S) (by omega) (lat := latN N) hto hR (B := fun c => c < S ∧ rd c ≠ -3) k1 (fun m hm => ⟨(k2 m hm).1, (k2 m hm).2.2.2⟩) k3 k5 hB0 hBw0 (fun _ => hl) (rd := rd1) (tl := tl) (ln := ln) (pr := pr) (am := am) (bs := bs) (fun c hc => MG_w (Nat.le_refl R) (okB c hc.1 hc.2).1 (fun r _ => rfl) (k7 c (inB c hc.1 hc.2)) rfl) hMRk (fun m hm => (k2 m hm).2.2.1) (fun c hc h1 h2 => by
      rw [k7 c h2]
      by_cases z : rd c = -3
      · exact z
      · exact absurd ⟨hc, z⟩ h1) (I start) g p
    exact ⟨_, _, _, _, _, _, _, _, e, q1, by rw [← hw0]; exact q3 0 hj0, fun c hc h => q2 c ⟨hc, h⟩⟩
  unfold fX9_goesFrom
  rw [e1, bnd4_some]
  unfold fX9_goesFrom_j47
  have hlast : nxt N x (w (j - 1)) = cur := by
    rcases k4 with ⟨q, -⟩ | ⟨-, -, q⟩
    · omega
    · exact q
  cases cur with
  | none =>
    rw [if_pos (c := I (enc none) < 0) (by decide +kernel)]
    obtain ⟨p', rd', tl', path', ln', pr', am', bs', q⟩ := plain (fun d hd => by rw [hlast] at hd; exact absurd hd (by simp))
    exact ⟨R, p', rd', tl', path', ln', pr', am', bs', q⟩
  | some d =>
    have hd := k6 d rfl
    have ed : I (enc (some d)) = I d := rfl
    rw [ed, if_neg (nK (show d < 100000 by omega)), clN (show d < 100000 by omega)]
    simp only [if_neg (gK (show d < 1024 by omega))]
    by_cases h2 : rd1 d = -2
    · have hex : ∃ m0, m0 < j ∧ w m0 = d := by
        by_cases z : ∃ m0, m0 < j ∧ w m0 = d
        · exact z
        · exfalso
          have := k7 d fun m hm q => z ⟨m, hm, q⟩
          rw [h2] at this
          rcases hC d hd with q | q
          · rw [q] at this; exact absurd this (by decide)
          · exact (MG_ne (show R ≤ 1024 by omega) q.1).2 this.symm
      obtain ⟨m0, m1, rfl⟩ := hex
      have hLs : ∀ r, r < R → (ln r).toNatClampNeg < S ∧ ln r = I ((ln r).toNatClampNeg : Nat) ∧ rd (ln r).toNatClampNeg = I r := fun r hr => by
        obtain ⟨L, m, a1, a2, a3, a4, a5⟩ := hRd r hr
        rw [a2, clN (show L < 100000 by omega)]
        exact ⟨a1, rfl, a4⟩
      have hRS : R + 1 ≤ S := fb_holes S (R + 1) (fun r => if r = R then w m0 else (ln r).toNatClampNeg) (fun i hi => by
        show (if i = R then w m0 else (ln i).toNatClampNeg) < S
        by_cases e : i = R
        · rw [if_pos e]; exact hd
        · rw [if_neg e]; exact (hLs i (by omega)).1) (fun i k hik hk => by
        show (if i = R then w m0 else (ln i).toNatClampNeg) ≠ (if k = R then w m0 else (ln k).toNatClampNeg)
        rw [if_neg (by omega)]
        have hi := (hLs i (by omega)).2.2
        by_cases e : k = R
        · rw [if_pos e]
          intro q
          rw [q, (k2 m0 m1).2.1, m3e, I_eq (by omega) (by omega) (by omega) (by omega)] at hi
          omega
        · rw [if_neg e]
          intro q
          rw [q, (hLs k (by omega)).2.2, I_eq (by omega) (by omega) (by omega) (by omega)] at hi
          omega)
      have e65 := goL65 (S := S) (path := path1) (w := w) (by omega) k1 m1 (fun m hm => ⟨(k2 m hm).1, (k2 m hm).2.2.2⟩) k5 (I start) g to (I j) (I R) p rd1 tl ln pr am bs m0 0 (by omega) (99999 - m0)
      rw [show 99999 - m0 + m0 + 1 = FUEL by show _ = 100000; omega, show I ((0 : Nat) : Int) = 0 from rfl] at e65
      obtain ⟨pp', rd2, tl2, ln2, am2, eR, f1, f2, f3, f4, f5⟩ := fiR hV hg hS (p := j - m0) (by omega) (v := fun q => w (m0 + q)) (m0 := m0) (path := path1) (by omega) (fun q hq => ⟨(k2 _ (by omega)).1, (k2 _ (by omega)).2.2.2⟩) (fun a b hab hb => k5 _ _ (by omega) (by omega)) (R := R) (by omega) p rd1 tl ln pr am bs
      rw [show ((m0 + (j - m0) : Nat) : Int) = (j : Int) by omega] at eR
      rw [if_pos h2, e65, bnd1_some, eR, bnd8_some]
      have hCY : CY (nxt N x) S (j - m0) (fun q => w (m0 + q)) (fun c => I (enc (nxt N x c))) := by
        refine ⟨by omega, by omega, fun q hq => ⟨(k2 _ (by omega)).1, rfl⟩, fun q hq => ?_, fun a b hab hb => k5 _ _ (by omega) (by omega)⟩
        show nxt N x (w (m0 + q)) = some (if q + 1 < j - m0 then w (m0 + (q + 1)) else w (m0 + 0))
        by_cases c : q + 1 < j - m0
        · rw [if_pos c]
          exact k3 (m0 + q) (by omega)
        · rw [if_neg c, show m0 + q = j - 1 by omega, hlast]; rfl
      have hmS := (CY_LD hCY (q := 0) (by omega)).2.2
      obtain ⟨qm, hqm1, hqm2⟩ := (mnv_p (fun q => w (m0 + q)) (j - m0)).2
      have hqm1' : qm < j - m0 := by omega
      have hLL := (CY_LD hCY hqm1').1
      have hqm3 : w (m0 + qm) = mnv (fun q => w (m0 + q)) (j - m0) := hqm2.symm
      simp only [hqm3] at hLL
      have cyq : ∀ c, (onC (nxt N x) c ∧ LD (nxt N x) c (mnv (fun q => w (m0 + q)) (j - m0))) ↔ ∃ i, i < j - m0 ∧ w (m0 + i) = c := fun c => by
        constructor
        · rintro ⟨o, ⟨m, em⟩, -, -⟩
          obtain ⟨-, m', em'⟩ := onC_fw o em
          have hh := CY_it hCY m' qm hqm1'
          simp only [hqm3] at hh
          obtain ⟨r, hr, er⟩ := hh
          rw [em'] at er
          exact ⟨r, hr, (Option.some.inj er).symm⟩
        · rintro ⟨i, hi, rfl⟩
          have := CY_LD hCY hi
          exact ⟨this.2.1, this.1⟩
      have hper : cyN (nxt N x) S (mnv (fun q => w (m0 + q)) (j - m0)) = j - m0 := ct_im (j - m0) (fun q => w (m0 + q)) _ (fun i hi => (k2 _ (by omega)).1) (fun a b hab hb => k5 _ _ (by omega) (by omega)) (fun c _ => by rw [tr_e]; exact cyq c)
      have hlv := lov_p (latN N) (fun q => w (m0 + q)) 0 (j - m0)
      have hB1 : ∀ c, ((c < S ∧ rd c ≠ -3) ∨ ∃ q, m0 ≤ q ∧ q < j ∧ w q = c) → c < S ∧ ∀ d, nxt N x c = some d → ((d < S ∧ rd d ≠ -3) ∨ ∃ q, m0 ≤ q ∧ q < j ∧ w q = d) := by
        rintro c (hc | ⟨q, q1, q2, rfl⟩)
        · exact ⟨hc.1, fun d hd => Or.inl ((hB0 c hc).2 d hd)⟩
        · refine ⟨(k2 q q2).1, fun d hd => Or.inr ?_⟩
          by_cases z : q + 1 < j
          · rw [k3 q z] at hd
            exact ⟨q + 1, by omega, z, Option.some.inj hd⟩
          · rw [show q = j - 1 by omega, hlast] at hd
            exact ⟨m0, by omega, m1, Option.some.inj hd⟩
      have oth : ∀ c, (∀ q, m0 ≤ q → q < j → w q ≠ c) → rd2 c = rd1 c ∧ tl2 c = tl c := fun c hc => f2 c fun q hq => hc (m0 + q) (by omega) (by omega)
      have onn : ∀ q, m0 ≤ q → q < j → rd2 (w q) = I R ∧ tl2 (w q) = 0 := fun q q1 q2 => by
        have := f1 (q - m0) (by omega)
        simp only [show m0 + (q - m0) = q by omega] at this
        exact this
      obtain ⟨rd', tl', e, q1, q2, q3⟩ := finG (S := S) (by omega) (lat := latN N) hto hRS (B := fun c => (c < S ∧ rd c ≠ -3) ∨ ∃ q, m0 ≤ q ∧ q < j ∧ w q = c) (s := m0) (w := w) (path := path1) (by omega) (fun m hm => ⟨(k2 m (by omega)).1, (k2 m (by omega)).2.2.2⟩) (fun m hm => k3 m (by omega)) (fun a b hab hb => k5 a b hab (by omega)) hB1 (fun m hm => by
        rintro (q | ⟨q, q1, q2, q3⟩)
        · exact hBw0 m (by omega) q
        · exact k5 m q (by omega) q2 q3.symm) (fun h0 d hd => by
        have := k3 (m0 - 1) (by omega)
        rw [show m0 - 1 + 1 = m0 by omega] at this
        rw [this] at hd
        exact Or.inr ⟨m0, by omega, m1, Option.some.inj hd⟩) (rd := rd2) (tl := tl2) (ln := ln2) (pr := upd pr R (I (j - m0 : Nat))) (am := am2) (bs := upd bs R 0) (fun c hc => by
        rcases hc with hc | ⟨q, q1, q2, rfl⟩
        · have hno := inB c hc.1 hc.2
          obtain ⟨o1, o2⟩ := oth c fun q _ q2 => hno q q2
          exact MG_w (show R ≤ R + 1 by omega) (okB c hc.1 hc.2).1 (fun r hr => (f5 r (by omega)).1) (o1.trans (k7 c hno)) o2
        · have hq := CY_LD hCY (q := q - m0) (by omega)
          simp only [show m0 + (q - m0) = q by omega] at hq
          exact Or.inr ⟨R, 0, _, by omega, hq.2.2, (onn q q1 q2).1, (onn q q1 q2).2, f3, hq.1, TL_0.mpr hq.2.1⟩) (fun r hr => by
        by_cases z : r = R
        · subst z
          have hm1 : lov (latN N) (fun q => w (m0 + q)) 0 (j - m0) ≤ 100 := by
            rcases hlv.2.2 with q | ⟨q, -, q2⟩
            · omega
            · have := latN_b hV (w (m0 + q)); omega
          refine ⟨_, (lov (latN N) (fun q => w (m0 + q)) 0 (j - m0)).toNat, hmS, f3, hLL, ?_, by rw [upd_s, hper], by rw [f4]; congr 1; omega, by omega, ⟨fun c hc => ?_, ?_⟩, by rw [upd_s]⟩
          · rw [← hqm3]; exact (onn (m0 + qm) (by omega) (by omega)).1
          · obtain ⟨i, hi, ei⟩ := (cyq c).mp hc
            have h5 := hlv.2.1 i hi
            simp only [ei] at h5
            show (latN N c).natAbs ≤ _
            omega
          · rcases hlv.2.2 with q | ⟨q, q1, q2⟩
            · exact Or.inl (by omega)
            · refine Or.inr ⟨w (m0 + q), (cyq _).mpr ⟨q, q1, rfl⟩, ?_⟩
              show _ = (latN N (w (m0 + q))).natAbs
              omega
        · obtain ⟨L, m, a1, a2, a3, a4, a5, a6, a7, a8, a9⟩ := hMRk r (by omega)
          refine ⟨L, m, a1, by rw [(f5 r z).1, a2], a3, ?_, by rw [upd_o _ _ z, a5], by rw [(f5 r z).2, a6], a7, a8, by rw [upd_o _ _ z, a9]⟩
          rw [(oth L fun q _ q2 e => ?_).1, a4]
          have h5 := (k2 q q2).2.2.1
          rw [e, a4, m2e, I_eq (by omega) (by omega) (by omega) (by omega)] at h5
          omega) (fun m hm => by
        rw [(oth (w m) fun q q1 q2 => (k5 m q (by omega) q2).symm).1]
        exact (k2 m (by omega)).2.2.1) (fun c hc h1 h2 => by
        have hno : ∀ m, m < j → w m ≠ c := fun m hm q => by
          by_cases z : m < m0
          · exact h2 m z q
          · exact h1 (Or.inr ⟨m, by omega, hm, q⟩)
        rw [(oth c fun q _ q2 => hno q q2).1, k7 c hno]
        by_cases z : rd c = -3
        · exact z
        · exact absurd (Or.inl ⟨hc, z⟩) h1) (I start) g pp'
      refine ⟨R + 1, _, _, _, _, _, _, _, _, e, q1, ?_, fun c hc h => q2 c (Or.inl ⟨hc, h⟩)⟩
      by_cases z : m0 = 0
      · exact q2 start (Or.inr ⟨0, by omega, hj0, hw0⟩)
      · rw [← hw0]; exact q3 0 (by omega)
    · rw [if_neg h2]
      have hno : ∀ m, m < j → w m ≠ d := fun m hm q => h2 (by rw [← q]; exact (k2 m hm).2.2.1)
      have hnd : rd d ≠ -3 := by
        rw [← k7 d hno]; exact hne d rfl
      obtain ⟨p', rd', tl', path', ln', pr', am', bs', q⟩ := plain (fun e he => by
        rw [hlast] at he
        rw [← Option.some.inj he]
        exact ⟨hd, hnd⟩)
      exact ⟨R, p', rd', tl', path', ln', pr', am', bs', q⟩
