/-! where codes lead: the pure part -/
def it (F : Nat → Option Nat) : Nat → Nat → Option Nat
  | 0, c => some c
  | n + 1, c => (it F n c).bind F
theorem it_add (F : Nat → Option Nat) (m : Nat) (c : Nat) : ∀ n, it F (m + n) c = (it F m c).bind (it F n)
  | 0 => by cases h : it F m c <;> simp [it, h]
  | n + 1 => by
    show (it F (m + n) c).bind F = _
    rw [it_add F m c n]
    cases it F m c with
    | none => rfl
    | some d => rfl
theorem it_of {F : Nat → Option Nat} {m n c d e : Nat} (h1 : it F m c = some d) (h2 : it F n d = some e) : it F (m + n) c = some e := by
  rw [it_add, h1]; exact h2
theorem it_to {F : Nat → Option Nat} {m n c d : Nat} (h1 : it F m c = some d) : it F (m + n) c = it F n d := by
  rw [it_add, h1]; rfl
theorem it_1 (F : Nat → Option Nat) (c : Nat) : it F 1 c = F c := rfl
theorem it_no {F : Nat → Option Nat} {m c : Nat} (h : it F m c = none) (n : Nat) : it F (m + n) c = none := by
  rw [it_add, h]; rfl
theorem it_s {F : Nat → Option Nat} {c d : Nat} (h : F c = some d) (n : Nat) : it F (n + 1) c = it F n d := by
  rw [Nat.add_comm, it_to (m := 1) (d := d) h]
def onC (F : Nat → Option Nat) (c : Nat) : Prop := ∃ p, 0 < p ∧ it F p c = some c
def stk (F : Nat → Option Nat) (c : Nat) : Prop := ∃ n, it F n c = none
def LD (F : Nat → Option Nat) (c L : Nat) : Prop := (∃ n, it F n c = some L) ∧ onC F L ∧ ∀ n d, it F n L = some d → L ≤ d
def TL (F : Nat → Option Nat) (c t : Nat) : Prop := (∃ d, it F t c = some d ∧ onC F d) ∧ ∀ s d, s < t → it F s c = some d → ¬ onC F d
theorem onC_mul {F : Nat → Option Nat} {c p : Nat} (h : it F p c = some c) : ∀ k, it F (k * p) c = some c
  | 0 => by rw [Nat.zero_mul]; rfl
  | k + 1 => by
    rw [Nat.add_mul, Nat.one_mul]
    exact it_of (onC_mul h k) h
theorem onC_some {F : Nat → Option Nat} {c : Nat} (h : onC F c) (n : Nat) : ∃ d, it F n c = some d := by
  obtain ⟨p, p0, hp⟩ := h
  cases e : it F n c with
  | some d => exact ⟨d, rfl⟩
  | none =>
    have h1 := it_no e (n * p - n)
    have h2 := onC_mul hp n
    have h3 : n ≤ n * p := Nat.le_mul_of_pos_right n p0
    rw [show n + (n * p - n) = n * p by omega, h2] at h1
    exact absurd h1 (by simp)
theorem onC_fw {F : Nat → Option Nat} {c d n : Nat} (h : onC F c) (e : it F n c = some d) : onC F d ∧ ∃ m, it F m d = some c := by
  obtain ⟨p, p0, hp⟩ := h
  have h3 : n ≤ n * p := Nat.le_mul_of_pos_right n p0
  have hb : it F (n * p - n) d = some c := by
    have := it_to e (n := n * p - n)
    rw [show n + (n * p - n) = n * p by omega, onC_mul hp n] at this
    exact this.symm
  refine ⟨?_, _, hb⟩
  by_cases hz : n * p - n + n = 0
  · have hn : n = 0 := by omega
    subst hn
    have : c = d := Option.some.inj e
    rw [← this]
    exact ⟨p, p0, hp⟩
  · exact ⟨n * p - n + n, by omega, it_of hb e⟩
theorem LD_one {F : Nat → Option Nat} {c L M : Nat} (h1 : LD F c L) (h2 : LD F c M) : L = M := by
  have key : ∀ {L M n k : Nat}, it F n c = some L → it F (n + k) c = some M → onC F L → (∀ n d, it F n L = some d → L ≤ d) → (∀ n d, it F n M = some d → M ≤ d) → L = M := by
    intro L M n k e1 e2 hL lL lM
    have e3 : it F k L = some M := by
      rw [it_to e1] at e2; exact e2
    obtain ⟨-, m, e4⟩ := onC_fw hL e3
    have a := lL _ _ e3
    have b := lM _ _ e4
    omega
  obtain ⟨⟨n, e1⟩, o1, l1⟩ := h1
  obtain ⟨⟨m, e2⟩, o2, l2⟩ := h2
  rcases Nat.le_total n m with h | h
  · exact key e1 (k := m - n) (by rw [show n + (m - n) = m by omega]; exact e2) o1 l1 l2
  · exact (key e2 (k := n - m) (by rw [show m + (n - m) = n by omega]; exact e1) o2 l2 l1).symm
theorem LD_stk {F : Nat → Option Nat} {c L : Nat} (h : LD F c L) : ¬ stk F c := by
  rintro ⟨n, e⟩
  obtain ⟨⟨m, e1⟩, o, -⟩ := h
  obtain ⟨d, e2⟩ := onC_some o n
  have e3 := it_of e1 e2
  have e4 := it_no e m
  rw [Nat.add_comm, e3] at e4
  exact absurd e4 (by simp)
theorem LD_s {F : Nat → Option Nat} {c d L : Nat} (h : F c = some d) (hL : LD F d L) : LD F c L := by
  obtain ⟨⟨n, e⟩, o, l⟩ := hL
  exact ⟨⟨n + 1, by rw [it_s h]; exact e⟩, o, l⟩
theorem LD_fw {F : Nat → Option Nat} {c d L n : Nat} (h : it F n c = some d) (hL : LD F c L) : LD F d L := by
  obtain ⟨⟨m, e⟩, o, l⟩ := hL
  refine ⟨?_, o, l⟩
  rcases Nat.le_total n m with q | q
  · refine ⟨m - n, ?_⟩
    have := it_to h (n := m - n)
    rw [show n + (m - n) = m by omega, e] at this
    exact this.symm
  · have e2 : it F (n - m) L = some d := by
      have := it_to e (n := n - m)
      rw [show m + (n - m) = n by omega, h] at this
      exact this.symm
    exact (onC_fw o e2).2
theorem TL_0 {F : Nat → Option Nat} {c : Nat} : TL F c 0 ↔ onC F c := by
  constructor
  · rintro ⟨⟨d, e, o⟩, -⟩
    have : c = d := Option.some.inj e
    rw [this]; exact o
  · intro h
    exact ⟨⟨c, rfl, h⟩, fun s d hs => absurd hs (by omega)⟩
theorem TL_s {F : Nat → Option Nat} {c d t : Nat} (h : F c = some d) (hc : ¬ onC F c) (hT : TL F d t) : TL F c (t + 1) := by
  obtain ⟨⟨u, e, o⟩, l⟩ := hT
  refine ⟨⟨u, by rw [it_s h]; exact e, o⟩, fun s v hs hv => ?_⟩
  cases s with
  | zero =>
    have : c = v := Option.some.inj hv
    rw [← this]; exact hc
  | succ s =>
    rw [it_s h] at hv
    exact l s v (by omega) hv
theorem TL_one {F : Nat → Option Nat} {c t u : Nat} (h1 : TL F c t) (h2 : TL F c u) : t = u := by
  obtain ⟨⟨d1, e1, o1⟩, l1⟩ := h1
  obtain ⟨⟨d2, e2, o2⟩, l2⟩ := h2
  rcases Nat.lt_trichotomy t u with h | h | h
  · exact absurd o1 (l2 t d1 h e1)
  · exact h
  · exact absurd o2 (l1 u d2 h e2)
theorem stk_s {F : Nat → Option Nat} {c d : Nat} (h : F c = some d) (hs : stk F d) : stk F c := by
  obtain ⟨n, e⟩ := hs
  exact ⟨n + 1, by rw [it_s h]; exact e⟩
theorem stk_0 {F : Nat → Option Nat} {c : Nat} (h : F c = none) : stk F c := ⟨1, h⟩
/-- a way: its places in a row -/
theorem way_it {F : Nat → Option Nat} {w : Nat → Nat} {j : Nat} (h : ∀ m, m + 1 < j → F (w m) = some (w (m + 1))) : ∀ (m k : Nat), m + k < j → it F k (w m) = some (w (m + k))
  | m, 0, _ => rfl
  | m, k + 1, hk => by
    rw [it_s (h m (by omega)), way_it h (m + 1) k (by omega)]
    congr 2; omega
