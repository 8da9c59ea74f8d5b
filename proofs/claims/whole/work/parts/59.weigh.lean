/-! a STEP weighed: the class's and the reference's -/
def Vl (N : Nat → Int) : Prop := (1 ≤ N 0 ∧ N 0 ≤ 3) ∧ (2 ≤ N 1 ∧ N 1 ≤ 5) ∧ N 0 * N 1 ≤ 10 ∧ (-99 ≤ N 2 ∧ N 2 ≤ 99) ∧ (-99 ≤ N 3 ∧ N 3 ≤ 99) ∧ (-99 ≤ N 4 ∧ N 4 ≤ 99) ∧ (-99 ≤ N 5 ∧ N 5 ≤ 99) ∧ (0 ≤ N 6 ∧ N 6 ≤ 6) ∧ (0 ≤ N 7 ∧ N 7 ≤ 4) ∧ (0 ≤ N 8 ∧ N 8 ≤ 4) ∧ (0 ≤ N 9 ∧ N 9 ≤ 1)
def hf (N : Nat → Int) : Int := pw (N 1 - 1)
def Wd (N W : Nat → Int) : Prop := ∀ k, k < 3 → -hf N ≤ W k ∧ W k < hf N
def rr (N : Nat → Int) (x : Int) : Int := rI (N 7) (pw (N 6)) x
def gA (N W : Nat → Int) : Int := N 2 * W 0 + (if 2 ≤ N 0 then N 3 * W 1 else 0) + (if 3 ≤ N 0 then N 4 * W 2 else 0)
def gR (N W : Nat → Int) : Int := if N 9 = 1 then rr N (N 2 * W 0) + (if 2 ≤ N 0 then rr N (N 3 * W 1) else 0) + (if 3 ≤ N 0 then rr N (N 4 * W 2) else 0) else 0
def aS (N W : Nat → Int) (x : Int) : Int := gA N W + N 5 * x
def vS (N W : Nat → Int) (x : Int) : Int := if N 9 = 1 then gR N W + rr N (N 5 * x) else rr N (aS N W x)
def lS (N W : Nat → Int) (x : Int) : Int := vS N W x * pw (N 6) - aS N W x
def oS (N W : Nat → Int) (x : Int) : Bool := decide (vS N W x < -hf N ∨ hf N ≤ vS N W x)
def sS (N W : Nat → Int) (x : Int) : Int := bI9 (N 8) (hf N) (W 0) (vS N W x)
def bo (b : Bool) : Int32 := if b then I 1 else I 0
theorem mulb {a b A B : Int} (h1 : -A ≤ a) (h2 : a ≤ A) (h3 : -B ≤ b) (h4 : b ≤ B) : -(A * B) ≤ a * b ∧ a * b ≤ A * B := by
  have hA : 0 ≤ A := by omega
  have hB : 0 ≤ B := by omega
  have k1 := Int.mul_nonneg (show 0 ≤ A - a by omega) (show 0 ≤ B - b by omega)
  have k2 := Int.mul_nonneg (show 0 ≤ A + a by omega) (show 0 ≤ B + b by omega)
  have k3 := Int.mul_nonneg (show 0 ≤ A - a by omega) (show 0 ≤ B + b by omega)
  have k4 := Int.mul_nonneg (show 0 ≤ A + a by omega) (show 0 ≤ B - b by omega)
  constructor <;> grind
theorem hf_b {N : Nat → Int} (hV : Vl N) : 2 ≤ hf N ∧ hf N ≤ 16 := by
  unfold hf
  have hb := hV.2.1
  rcases pw_hf hb.1 hb.2 with ⟨h, e⟩ | ⟨h, e⟩ | ⟨h, e⟩ | ⟨h, e⟩ <;> rw [e] <;> omega
theorem rr_b {N : Nat → Int} (hV : Vl N) {x K : Int} (h1 : -K ≤ x) (h2 : x ≤ K) : -K - 1 ≤ rr N x ∧ rr N x ≤ K + 1 := by
  unfold rr
  have h6 := hV.2.2.2.2.2.2.2.1
  exact rI_b _ _ h6.1 h6.2 h1 h2 (by omega)
theorem rr8 {N : Nat → Int} (hV : Vl N) {num : Nat → Int32} (hn : ∀ j, j < 10 → num j = I (N j)) {x : Int} (h1 : -1000000 ≤ x) (h2 : x ≤ 1000000) : fX3_toWhole (num 7) (num 6) (I x) = some (I (rr N x)) := by
  obtain ⟨-, -, -, -, -, -, -, h6, h7, -, -⟩ := hV
  rw [hn 7 (by omega), hn 6 (by omega)]
  exact rnd8 h7.1 h7.2 h6.1 h6.2 h1 h2
theorem rr9 {N : Nat → Int} (hV : Vl N) {num : Nat → Int32} (hn : ∀ j, j < 10 → num j = I (N j)) {x : Int} (h1 : -1000000 ≤ x) (h2 : x ≤ 1000000) : fX9_roundedBy (num 7) (num 6) (I x) = some (I (rr N x)) := by
  obtain ⟨-, -, -, -, -, -, -, h6, h7, -, -⟩ := hV
  rw [hn 7 (by omega), hn 6 (by omega)]
  exact rnd9 h7.1 h7.2 h6.1 h6.2 h1 h2
theorem prods {N W : Nat → Int} (hV : Vl N) (hW : Wd N W) : (-1584 ≤ N 2 * W 0 ∧ N 2 * W 0 ≤ 1584) ∧ (-1584 ≤ N 3 * W 1 ∧ N 3 * W 1 ≤ 1584) ∧ (-1584 ≤ N 4 * W 2 ∧ N 4 * W 2 ≤ 1584) := by
  have hh := hf_b hV
  obtain ⟨-, -, -, c1, c2, c3, -⟩ := hV
  have w0 := hW 0 (by omega)
  have w1 := hW 1 (by omega)
  have w2 := hW 2 (by omega)
  refine ⟨mulb (A := 99) (B := 16) ?_ ?_ ?_ ?_, mulb (A := 99) (B := 16) ?_ ?_ ?_ ?_, mulb (A := 99) (B := 16) ?_ ?_ ?_ ?_⟩ <;> omega
theorem prodi {N : Nat → Int} (hV : Vl N) {x : Int} (h1 : -99 ≤ x) (h2 : x ≤ 99) : -9801 ≤ N 5 * x ∧ N 5 * x ≤ 9801 := by
  obtain ⟨-, -, -, -, -, -, c5, -⟩ := hV
  exact mulb (A := 99) (B := 99) c5.1 c5.2 h1 h2
theorem gA_b {N W : Nat → Int} (hV : Vl N) (hW : Wd N W) : -4752 ≤ gA N W ∧ gA N W ≤ 4752 := by
  obtain ⟨p0, p1, p2⟩ := prods hV hW
  unfold gA
  (repeat' split) <;> omega
theorem gR_b {N W : Nat → Int} (hV : Vl N) (hW : Wd N W) : -4755 ≤ gR N W ∧ gR N W ≤ 4755 := by
  obtain ⟨p0, p1, p2⟩ := prods hV hW
  have q0 := rr_b hV p0.1 p0.2
  have q1 := rr_b hV p1.1 p1.2
  have q2 := rr_b hV p2.1 p2.2
  unfold gR
  (repeat' split) <;> omega
theorem aS_b {N W : Nat → Int} (hV : Vl N) (hW : Wd N W) {x : Int} (h1 : -99 ≤ x) (h2 : x ≤ 99) : -14553 ≤ aS N W x ∧ aS N W x ≤ 14553 := by
  have := gA_b hV hW
  have := prodi hV h1 h2
  unfold aS
  omega
theorem vS_b {N W : Nat → Int} (hV : Vl N) (hW : Wd N W) {x : Int} (h1 : -99 ≤ x) (h2 : x ≤ 99) : -14557 ≤ vS N W x ∧ vS N W x ≤ 14557 := by
  have := gR_b hV hW
  have a := aS_b hV hW h1 h2
  have p := prodi hV h1 h2
  have := rr_b hV a.1 a.2
  have := rr_b hV p.1 p.2
  unfold vS
  split <;> omega
theorem pw6_b {N : Nat → Int} (hV : Vl N) : 1 ≤ pw (N 6) ∧ pw (N 6) ≤ 64 := by
  have h6 := hV.2.2.2.2.2.2.2.1
  rcases pw_cs h6.1 h6.2 with ⟨-, e⟩ | ⟨-, e⟩ | ⟨-, e⟩ | ⟨-, e⟩ | ⟨-, e⟩ | ⟨-, e⟩ | ⟨-, e⟩ <;> omega
theorem lS_b {N W : Nat → Int} (hV : Vl N) (hW : Wd N W) {x : Int} (h1 : -99 ≤ x) (h2 : x ≤ 99) : -946201 ≤ lS N W x ∧ lS N W x ≤ 946201 := by
  have v := vS_b hV hW h1 h2
  have a := aS_b hV hW h1 h2
  have p := pw6_b hV
  have := mulb (A := 14557) (B := 64) v.1 v.2 (b := pw (N 6)) (by omega) (by omega)
  unfold lS
  omega
theorem sS_w {N W : Nat → Int} (hV : Vl N) (hW : Wd N W) (x : Int) : (-hf N ≤ sS N W x ∧ sS N W x < hf N) ∨ sS N W x = -1005 := by
  unfold sS
  have hb := hV.2.1
  have ho := hV.2.2.2.2.2.2.2.2.2.1
  exact bI9_w hb.1 hb.2 ho.1 ho.2 (hW 0 (by omega))
theorem N012 {N : Nat → Int} (hV : Vl N) : N 0 = 1 ∨ N 0 = 2 ∨ N 0 = 3 := by
  have := hV.1
  omega
