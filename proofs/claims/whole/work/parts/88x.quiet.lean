/-! Ways: quietest -/
theorem WdU {N W : Nat → Int} (h : Wd N W) {s : Nat} (hs : 2 ≤ s) (v : Int) : Wd (upI N s v) W := by
  have e1 : (upI N s v) 1 = N 1 := by unfold upI; rw [if_neg (by omega)]
  have eh : hf (upI N s v) = hf N := by unfold hf; rw [e1]
  unfold Wd at h ⊢
  rw [eh]; exact h
theorem bothD {N W : Nat → Int} (hV : Vl N) (hW : Wd N W) {num words g : Nat → Int32} (hn : ∀ j, j < 10 → num j = I (N j)) (hw : ∀ k, k < 3 → words k = I (W k)) (hg : ∀ j, j < 10 → g j = I (N j)) {x : Int} (x1 : -99 ≤ x) (x2 : x ≤ 99) (sz tl wh as lo a v l rr oo ha hr : Int32) (bn bw o t cm : Nat → Int32) (a9 v9 l9 o9 R9 st9 on9 lg9 ld9 : Int32) (p to9 rd9 tl9 pa9 ln9 pr9 am9 bs9 nb9 : Nat → Int32) (hWS : WS sz tl wh as lo bn bw o t cm) :
    ∃ (val : Nat) (sz' tl' wh' as' lo' a' v' l' r' o' ha' hr' : Int32) (bn' bw' o2 t' cm' : Nat → Int32) (ma mv ml mo mR ms mn mg : Int32) (mp mto mrd mtl mpa mln mpr mam mbs mnb : Nat → Int32), val ≤ 99 ∧ fX7_draw (I x) sz tl wh as lo a v l rr oo ha hr bn bw o t cm num words = some (sz', tl', wh', as', lo', a', v', l', r', o', ha', hr', bn', bw', o2, t', cm') ∧ WS sz' tl' wh' as' lo' bn' bw' o2 t' cm' ∧ fX7_loudestOfAll lo' = some (I val) ∧ fX9_findsAll (I x) a9 v9 l9 o9 R9 st9 on9 lg9 ld9 g p to9 rd9 tl9 pa9 ln9 pr9 am9 bs9 nb9 = some (ma, mv, ml, mo, mR, ms, mn, mg, I val, mp, mto, mrd, mtl, mpa, mln, mpr, mam, mbs, mnb) := by
  have sb := st_b hV
  obtain ⟨S, eS⟩ := Int.eq_ofNat_of_zero_le (show 0 ≤ stN N by omega)
  obtain ⟨as', lo', a', v', l', r', o', ha', hr', bn', bw', o2, t', cm', e1, hSF, hbn, hWS'⟩ := drwX hV hW hn hw eS x1 x2 sz tl wh as lo a v l rr oo ha hr bn bw o t cm hWS
  obtain ⟨ma, mv, ml, mo, R, ms, mn, mg, md, mp, mto, mrd, mtl, mpa, mln, mpr, mam, mbs, mnb, e2, hRF⟩ := fallX hV hg eS x1 x2 a9 v9 l9 o9 R9 st9 on9 lg9 ld9 p to9 rd9 tl9 pa9 ln9 pr9 am9 bs9 nb9
  obtain ⟨-, hR, -, -, -, -, -, -, m, -, hmx, eld⟩ := hRF
  have hm : m ≤ 99 := by
    rcases hmx.2 with q | ⟨c, -, q⟩
    · omega
    · have := latN_b hV c
      have q' : m = (latN N c).natAbs := q
      omega
  have hl := (lodX hV eS hSF hmx).1
  have ev : (if lsN (nxt N x) S = 0 then (99 : Int32) else I m) = I (if lsN (nxt N x) S = 0 then 99 else m : Nat) := by
    by_cases z : lsN (nxt N x) S = 0
    · rw [if_pos z, if_pos z]; rfl
    · rw [if_neg z, if_neg z]
  rw [hR, ev] at eld
  rw [ev] at hl
  rw [eld] at e2
  exact ⟨_, _, _, _, _, _, _, _, _, _, _, _, _, _, _, _, _, _, _, _, _, _, _, _, _, _, _, _, _, _, _, _, _, _, _, _, by split <;> omega, e1, hWS', hl, e2⟩
theorem quiL {N W : Nat → Int} (hV : Vl N) (hW : Wd N W) {words g0 tw : Nat → Int32} (hg : ∀ j, j < 10 → g0 j = I (N j)) (hp : ∀ k, k < 3 → g0 (10 + k) = I (W k)) (hw : ∀ k, k < 3 → tw k = I (W k)) {x : Int} (x1 : -99 ≤ x) (x2 : x ≤ 99) (x3 was : Int32) (num : Nat → Int32) :
    ∀ (d v : Nat), v + d = 5 → ∀ (f : Nat) (pb pl mb ml : Int), ((v = 0 ∧ pb = 0 ∧ pl = 100 ∧ mb = -1) ∨ (0 < v ∧ pb = mb ∧ pl = ml ∧ 0 ≤ mb ∧ mb ≤ 5 ∧ 0 ≤ pl ∧ pl ≤ 100)) → ∀ (tn : Nat → Int32) (sz tl wh as lo a va l rr oo ha hr : Int32) (bn bw o t cm : Nat → Int32) (a9 v9 l9 o9 R9 st9 on9 lg9 ld9 : Int32) (g p to9 rd9 tl9 pa9 ln9 pr9 am9 bs9 nb9 : Nat → Int32), (∀ j, j < 10 → j ≠ 7 → tn j = I (N j)) → off 7 g g0 → WS sz tl wh as lo bn bw o t cm →
    ∃ (b q : Int32) (tn' : Nat → Int32) (sz' tl' wh' as' lo' a' v' l' r' o' ha' hr' : Int32) (bn' bw' o2 t' cm' : Nat → Int32) (ma mv m3 mo mR ms mn mg md : Int32) (g' mp mto mrd mtl mpa mln mpr mam mbs mnb : Nat → Int32), fX8_quietest_L38 (I x) x3 num words (f + d + 1) (I pb) (I pl) (I v) tn tw sz tl wh as lo a va l rr oo ha hr bn bw o t cm = some (b, q, tn', sz', tl', wh', as', lo', a', v', l', r', o', ha', hr', bn', bw', o2, t', cm') ∧ WS sz' tl' wh' as' lo' bn' bw' o2 t' cm' ∧ fX9_quietest_L36 (I x) x3 (f + d + 1) was (I mb) (I ml) (I v) a9 v9 l9 o9 R9 st9 on9 lg9 ld9 g p to9 rd9 tl9 pa9 ln9 pr9 am9 bs9 nb9 = some (b, q, ma, mv, m3, mo, mR, ms, mn, mg, md, g', mp, mto, mrd, mtl, mpa, mln, mpr, mam, mbs, mnb) ∧ off 7 g' g0 := by
  intro d
  induction d with
  | zero =>
    intro v hv f pb pl mb ml hrel tn sz tl wh as lo a va l rr oo ha hr bn bw o t cm a9 v9 l9 o9 R9 st9 on9 lg9 ld9 g p to9 rd9 tl9 pa9 ln9 pr9 am9 bs9 nb9 htn hoff hWS
    have e : v = 5 := by omega
    subst e
    rcases hrel with ⟨q, -⟩ | ⟨-, rfl, rfl, -⟩
    · omega
    · rw [show f + 0 + 1 = f + 1 by omega, fX8_quietest_L38, fX9_quietest_L36, if_pos (c := (5 : Int32) ≤ I ((5 : Nat) : Int)) (by decide +kernel), if_pos (c := (5 : Int32) ≤ I ((5 : Nat) : Int)) (by decide +kernel)]
      exact ⟨_, _, _, _, _, _, _, _, _, _, _, _, _, _, _, _, _, _, _, _, _, _, _, _, _, _, _, _, _, _, _, _, _, _, _, _, _, _, _, _, rfl, hWS, rfl, hoff⟩
  | succ d ih =>
    intro v hv f pb pl mb ml hrel tn sz tl wh as lo a va l rr oo ha hr bn bw o t cm a9 v9 l9 o9 R9 st9 on9 lg9 ld9 g p to9 rd9 tl9 pa9 ln9 pr9 am9 bs9 nb9 htn hoff hWS
    obtain ⟨o1, o2, o3⟩ := off_u (s := 7) (by omega) hoff hg hp (v : Int)
    obtain ⟨val, sz', tl', wh', as', lo', a', v', l', r', o', ha', hr', bn', bw', ow', t', cm', ma, mv, m3, mo, mR, ms, mn, mg, mp, mto, mrd, mtl, mpa, mln, mpr, mam, mbs, mnb, hval, e1, hWS', e2, e3⟩ := bothD (N := upI N 7 v) (Vup hV (s := 7) (by omega) (by omega) (by show (0 : Int) ≤ _; omega) (by show _ ≤ (4 : Int); omega)) (WdU hW (by omega) v) (num := upd tn 7 (I v)) (words := tw) (g := upd g 7 (I v)) (fun j hj => by
      unfold upd upI
      by_cases e : j = 7
      · rw [if_pos e, if_pos e]
      · rw [if_neg e, if_neg e, htn j hj e]) hw o1 x1 x2 sz tl wh as lo a va l rr oo ha hr bn bw o t cm a9 v9 l9 o9 R9 st9 on9 lg9 ld9 p to9 rd9 tl9 pa9 ln9 pr9 am9 bs9 nb9 hWS
    have htn' : ∀ j, j < 10 → j ≠ 7 → (upd tn 7 (I v)) j = I (N j) := fun j hj hne => by rw [upd_o _ _ hne]; exact htn j hj hne
    have n5 : ¬ ((5 : Int32) ≤ I v) := by rw [L5, I_le (by omega) (by omega) (by omega) (by omega)]; omega
    rw [show f + (d + 1) + 1 = (f + d + 1) + 1 by omega, fX8_quietest_L38, fX9_quietest_L36, if_neg n5, if_neg n5, e1, bnd17_some, e2, bnd1_some, e3, bnd19_some, upN]
    rcases hrel with ⟨rfl, rfl, rfl, rfl⟩ | ⟨h1, rfl, rfl, h2, h3, h4, h5⟩
    · rw [if_neg (c := I 100 ≤ I val) (by rw [I_le (by omega) (by omega) (by omega) (by omega)]; omega), if_pos (c := I (-1) < 0) (by decide +kernel)]
      exact ih 1 (by omega) f 0 val 0 val (Or.inr ⟨by omega, rfl, rfl, by omega, by omega, by omega, by omega⟩) _ _ _ _ _ _ _ _ _ _ _ _ _ _ _ _ _ _ _ _ _ _ _ _ _ _ _ _ _ _ _ _ _ _ _ _ _ _ htn' o3 hWS'
    · rw [if_neg (c := I pb < 0) (by rw [L0, I_lt (by omega) (by omega) (by omega) (by omega)]; omega)]
      by_cases z : I pl ≤ I val
      · rw [if_pos z, if_pos z]
        exact ih (v + 1) (by omega) f pb pl pb pl (Or.inr ⟨by omega, rfl, rfl, by omega, by omega, by omega, by omega⟩) _ _ _ _ _ _ _ _ _ _ _ _ _ _ _ _ _ _ _ _ _ _ _ _ _ _ _ _ _ _ _ _ _ _ _ _ _ _ htn' o3 hWS'
      · rw [if_neg z, if_neg z]
        exact ih (v + 1) (by omega) f v val v val (Or.inr ⟨by omega, rfl, rfl, by omega, by omega, by omega, by omega⟩) _ _ _ _ _ _ _ _ _ _ _ _ _ _ _ _ _ _ _ _ _ _ _ _ _ _ _ _ _ _ _ _ _ _ _ _ _ _ htn' o3 hWS'
theorem p_quietest (y z : Int32) (num words g p tn tw : Nat → Int32) (sz tl wh as lo a v l rr oo ha hr : Int32) (bn bw o t cm : Nat → Int32) (a9 v9 l9 o9 R9 st9 on9 lg9 ld9 : Int32) (to9 rd9 tl9 pa9 ln9 pr9 am9 bs9 nb9 : Nat → Int32) (hF : FI num words g) (hW : WS sz tl wh as lo bn bw o t cm) :
    ∃ (r : Int32) (tn' tw' : Nat → Int32) (sz' tl' wh' as' lo' a' v' l' r' o' ha' hr' : Int32) (bn' bw' o2 t' cm' : Nat → Int32) (ma mv m3 mo mR ms mn mg md : Int32) (g' mp mto mrd mtl mpa mln mpr mam mbs mnb : Nat → Int32), fX8_quietest y z num words tn tw sz tl wh as lo a v l rr oo ha hr bn bw o t cm = some (r, tn', tw', sz', tl', wh', as', lo', a', v', l', r', o', ha', hr', bn', bw', o2, t', cm') ∧ WS sz' tl' wh' as' lo' bn' bw' o2 t' cm' ∧ fX9_quietest y z a9 v9 l9 o9 R9 st9 on9 lg9 ld9 g p to9 rd9 tl9 pa9 ln9 pr9 am9 bs9 nb9 = some (r, ma, mv, m3, mo, mR, ms, mn, mg, md, g', mp, mto, mrd, mtl, mpa, mln, mpr, mam, mbs, mnb) ∧ FI num words g' := by
  obtain ⟨y, rfl, y1, y2⟩ := I_ex y
  obtain ⟨z, rfl, z1, z2⟩ := I_ex z
  have hF0 := hF
  obtain ⟨N, W, hV, hWd, hn, hw, hg, hp⟩ := hF
  unfold fX8_quietest fX9_quietest
  rw [inp8 y1 y2, inp9 y1 y2, J0e, show (1 : Int64) = J 1 from rfl, inR9 z 0 1 z1 z2 (by omega) (by omega) (by omega) (by omega)]
  simp only [bnd1_some]
  by_cases q2 : -99 ≤ y ∧ y ≤ 99
  · rw [if_pos q2, if_neg is1, if_neg is1]
    by_cases q3 : 0 ≤ z ∧ z ≤ 1
    · obtain ⟨n', w', e1, b1, b2, -⟩ := tak8 tn tw num words
      obtain ⟨b, q, tn', sz', tl', wh', as', lo', a', v', l', r', o', ha', hr', bn', bw', o2, t', cm', ma, mv, m3, mo, mR, ms, mn, mg, md, g', mp, mto, mrd, mtl, mpa, mln, mpr, mam, mbs, mnb, f1, hWS', f2, hoff⟩ := quiL hV hWd (words := words) (g0 := g) (tw := w') hg hp (fun k hk => (b2 k hk).trans (hw k hk)) q2.1 q2.2 (I z) (g 7) num 5 0 (by omega) 99994 0 100 (-1) 0 (Or.inl ⟨rfl, rfl, rfl, rfl⟩) n' sz tl wh as lo a v l rr oo ha hr bn bw o t cm a9 v9 l9 o9 R9 st9 on9 lg9 ld9 g p to9 rd9 tl9 pa9 ln9 pr9 am9 bs9 nb9 (fun j hj _ => (b1 j hj).trans (hn j hj)) (fun j _ _ => rfl) hW
      rw [← m1e] at f2
      have f1' : fX8_quietest_L38 (I y) (I z) num words FUEL 0 100 0 n' w' sz tl wh as lo a v l rr oo ha hr bn bw o t cm = _ := f1
      have f2' : fX9_quietest_L36 (I y) (I z) FUEL (g 7) (-1) 0 0 a9 v9 l9 o9 R9 st9 on9 lg9 ld9 g p to9 rd9 tl9 pa9 ln9 pr9 am9 bs9 nb9 = _ := f2
      rw [if_neg (c := I z < 0) (by rw [L0, I_lt (by omega) (by omega) (by omega) (by omega)]; omega), if_pos (c := I z ≤ (1 : Int32)) (by rw [L1, I_le (by omega) (by omega) (by omega) (by omega)]; omega), if_pos q3, if_neg is1, e1, bnd2_some, f1', bnd20_some, f2', bnd22_some]
      by_cases z0 : I z = 0
      · rw [if_pos z0, if_pos z0]
        exact ⟨_, _, _, _, _, _, _, _, _, _, _, _, _, _, _, _, _, _, _, _, _, _, _, _, _, _, _, _, _, _, _, _, _, _, _, _, _, _, _, _, rfl, hWS', rfl, FI_off hF0 (by omega) hoff⟩
      · rw [if_neg z0, if_neg z0]
        exact ⟨_, _, _, _, _, _, _, _, _, _, _, _, _, _, _, _, _, _, _, _, _, _, _, _, _, _, _, _, _, _, _, _, _, _, _, _, _, _, _, _, rfl, hWS', rfl, FI_off hF0 (by omega) hoff⟩
    · rw [if_neg q3, if_pos is0]
      by_cases cz : z < 0
      · rw [if_pos (c := I z < 0) (by rw [L0, I_lt (by omega) (by omega) (by omega) (by omega)]; omega)]
        exact ⟨_, _, _, _, _, _, _, _, _, _, _, _, _, _, _, _, _, _, _, _, _, _, _, _, _, _, _, _, _, _, _, _, _, _, _, _, _, _, _, _, rfl, hW, rfl, hF0⟩
      · rw [if_neg (c := I z < 0) (by rw [L0, I_lt (by omega) (by omega) (by omega) (by omega)]; omega), if_neg (c := I z ≤ (1 : Int32)) (by rw [L1, I_le (by omega) (by omega) (by omega) (by omega)]; omega)]
        exact ⟨_, _, _, _, _, _, _, _, _, _, _, _, _, _, _, _, _, _, _, _, _, _, _, _, _, _, _, _, _, _, _, _, _, _, _, _, _, _, _, _, rfl, hW, rfl, hF0⟩
  · rw [if_neg q2, if_pos is0, if_pos is0]
    exact ⟨_, _, _, _, _, _, _, _, _, _, _, _, _, _, _, _, _, _, _, _, _, _, _, _, _, _, _, _, _, _, _, _, _, _, _, _, _, _, _, _, rfl, hW, rfl, hF0⟩
