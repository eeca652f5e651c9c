def dB : UInt64 := 4841369599423283200
def dT : UInt64 := 4611686018427387904
def nn64 (x : UInt64) : Bool := decide (x &&& 0x7fffffffffffffff ≤ 0x7ff0000000000000)
theorem nn64_f {x : UInt64} (h : nn64 x = true) : vf_n64 x := by unfold vf_n64; exact of_decide_eq_true h
def bsL : Nat → UInt64 → Int64 → UInt64 × Int64
  | 0, x, e => (x, e)
  | k + 1, x, e => if Op.cmpValue (FP.dcmp x FP.dconst1) .g < 0 then bsL k (FP.dmul x dT) (e - 1) else (x, e)
def bsN : Nat → UInt64 → Bool
  | 0, _ => true
  | k + 1, x => if Op.cmpValue (FP.dcmp x FP.dconst1) .g < 0 then nn64 (FP.dmul x dT) && bsN k (FP.dmul x dT) else true
def bsF (v : UInt64) : Int64 := if 0 < Op.cmpValue (FP.dcmp v FP.dconst0) .g then ((bsL 64 v 1023).2 <<< ((nI 52).toInt64 &&& 63)) ||| FP.d2l (FP.dmul (FP.dsub (bsL 64 v 1023).1 FP.dconst1) dB) else 0
def bsK (v : UInt64) : Bool := bsN 64 v && nn64 (FP.dsub (bsL 64 v 1023).1 FP.dconst1) && nn64 (FP.dmul (FP.dsub (bsL 64 v 1023).1 FP.dconst1) dB) && decide (bsF v = v.toInt64)
def DD (a n : Nat) : UInt64 := FP.ddiv (FP.i2d (nI a)) (FP.i2d (nI n))
def exK : Nat → Int64 → Int64
  | 0, e => e
  | k + 1, e => exK k (e - 1)
/-- how a share is doubled: what it becomes, how often -/
def chD : Nat → Nat → Nat → Nat × Nat
  | 0, a, _ => (a, 0)
  | f + 1, a, n => if n ≤ a then (a, 0) else ((chD f (2 * a) n).1, (chD f (2 * a) n).2 + 1)
def tb1 (a n : Nat) : Bool := decide (Op.cmpValue (FP.dcmp (DD a n) FP.dconst1) .g < 0) && decide (FP.dmul (DD a n) dT = DD (2 * a) n) && nn64 (DD (2 * a) n)
def tb2 (b n : Nat) : Bool := !(decide (Op.cmpValue (FP.dcmp (DD b n) FP.dconst1) .g < 0)) && nn64 (FP.dsub (DD b n) FP.dconst1) && nn64 (FP.dmul (FP.dsub (DD b n) FP.dconst1) dB)
def tb3 (a n : Nat) : Bool := decide (0 < Op.cmpValue (FP.dcmp (DD a n) FP.dconst0) .g) && decide (((exK (chD 8 a n).2 1023 <<< ((nI 52).toInt64 &&& 63)) ||| FP.d2l (FP.dmul (FP.dsub (DD (chD 8 a n).1 n) FP.dconst1) dB)) = (DD a n).toInt64)
def tbk (n : Nat) : Bool := ((List.range n).all fun i => (decide (i = 0) || tb1 i n) && tb2 (n + i) n && tb3 (i + 1) n) && decide (DD 0 n = 0)
def tbks (lo k : Nat) : Bool := (List.range k).all fun i => tbk (lo + i)
theorem tbk_of {lo k n : Nat} (h : tbks lo k = true) (h1 : lo ≤ n) (h2 : n < lo + k) : tbk n = true := by
  have h3 := List.all_eq_true.mp h (n - lo) (List.mem_range.mpr (by omega))
  rw [show lo + (n - lo) = n by omega] at h3; exact h3
set_option maxRecDepth 100000 in
theorem tbT0 : tbks 1 60 = true := by decide +kernel
set_option maxRecDepth 100000 in
theorem tbT1 : tbks 61 40 = true := by decide +kernel
set_option maxRecDepth 100000 in
theorem tbT2 : tbks 101 30 = true := by decide +kernel
set_option maxRecDepth 100000 in
theorem tbT3 : tbks 131 25 = true := by decide +kernel
set_option maxRecDepth 100000 in
theorem tbT4 : tbks 156 23 = true := by decide +kernel
set_option maxRecDepth 100000 in
theorem tbT5 : tbks 179 22 = true := by decide +kernel
theorem tb_all {n : Nat} (h0 : 0 < n) (h2 : n ≤ 200) : tbk n = true := by
  rcases (show (1 ≤ n ∧ n < 61) ∨ (61 ≤ n ∧ n < 101) ∨ (101 ≤ n ∧ n < 131) ∨ (131 ≤ n ∧ n < 156) ∨ (156 ≤ n ∧ n < 179) ∨ (179 ≤ n ∧ n < 201) by omega) with q | q | q | q | q | q
  · exact tbk_of tbT0 (by omega) (by omega)
  · exact tbk_of tbT1 (by omega) (by omega)
  · exact tbk_of tbT2 (by omega) (by omega)
  · exact tbk_of tbT3 (by omega) (by omega)
  · exact tbk_of tbT4 (by omega) (by omega)
  · exact tbk_of tbT5 (by omega) (by omega)
