def dB : UInt64 := 4841369599423283200
def dT : UInt64 := 4611686018427387904
def nn64 (x : UInt64) : Bool := decide (x &&& 0x7fffffffffffffff ≤ 0x7ff0000000000000)
theorem nn64_f {x : UInt64} (h : nn64 x = true) : vf_n64 x := by unfold vf_n64; exact of_decide_eq_true h
def bsL : Nat → UInt64 → Int64 → UInt64 × Int64
  | 0, x, e => (x, e)
  | k + 1, x, e => if Op.cmpValue (FP.dcmp x FP.dconst1) .g < 0 then bsL k (FP.dmul x dT) (e - 1) else (x, e)
def bsN : Nat → UInt64 → Bool
  | 0, _ => true
  | k + 1, x => if Op.cmpValue (FP.dcmp x FP.dconst1) .g < 0 then nn64 (FP.dmul x dT) && bsN k (FP.dmul x dT) else true
def bsF (v : UInt64) : Int64 := if 0 < Op.cmpValue (FP.dcmp v FP.dconst0) .g then ((bsL 64 v 1023).2 <<< ((nI 52).toInt64 &&& 63)) ||| FP.d2l (FP.dmul (FP.dsub (bsL 64 v 1023).1 FP.dconst1) dB) else 0
def bsK (v : UInt64) : Bool := bsN 64 v && nn64 (FP.dsub (bsL 64 v 1023).1 FP.dconst1) && nn64 (FP.dmul (FP.dsub (bsL 64 v 1023).1 FP.dconst1) dB) && decide (bsF v = v.toInt64)
def DD (a n : Nat) : UInt64 := FP.ddiv (FP.i2d (nI a)) (FP.i2d (nI n))
def exK : Nat → Int64 → Int64
  | 0, e => e
  | k + 1, e => exK k (e - 1)
/-- how a share is doubled: what it becomes, how often -/
def chD : Nat → Nat → Nat → Nat × Nat
  | 0, a, _ => (a, 0)
  | f + 1, a, n => if n ≤ a then (a, 0) else ((chD f (2 * a) n).1, (chD f (2 * a) n).2 + 1)
def tb1 (a n : Nat) : Bool := decide (Op.cmpValue (FP.dcmp (DD a n) FP.dconst1) .g < 0) && decide (FP.dmul (DD a n) dT = DD (2 * a) n) && nn64 (DD (2 * a) n)
def tb2 (b n : Nat) : Bool := !(decide (Op.cmpValue (FP.dcmp (DD b n) FP.dconst1) .g < 0)) && nn64 (FP.dsub (DD b n) FP.dconst1) && nn64 (FP.dmul (FP.dsub (DD b n) FP.dconst1) dB)
def tb3 (a n : Nat) : Bool := decide (0 < Op.cmpValue (FP.dcmp (DD a n) FP.dconst0) .g) && decide (((exK (chD 8 a n).2 1023 <<< ((nI 52).toInt64 &&& 63)) ||| FP.d2l (FP.dmul (FP.dsub (DD (chD 8 a n).1 n) FP.dconst1) dB)) = (DD a n).toInt64)
def tbk (n : Nat) : Bool := ((List.range n).all fun i => (decide (i = 0) || tb1 i n) && tb2 (n + i) n && tb3 (i + 1) n) && decide (DD 0 n = 0)
def tbks (lo k : Nat) : Bool := (List.range k).all fun i => tbk (lo + i)
theorem tbk_of {lo k n : Nat} (h : tbks lo k = true) (h1 : lo ≤ n) (h2 : n < lo + k) : tbk n = true := by
  have h3 := List.all_eq_true.mp h (n - lo) (List.mem_range.mpr (by omega))
  rw [show lo + (n - lo) = n by omega] at h3; exact h3
set_option maxRecDepth 100000 in
theorem tbT0 : tbks 1 32 = true := by decide +kernel
set_option maxRecDepth 100000 in
theorem tbT1 : tbks 33 14 = true := by decide +kernel
set_option maxRecDepth 100000 in
theorem tbT2 : tbks 47 10 = true := by decide +kernel
set_option maxRecDepth 100000 in
theorem tbT3 : tbks 57 9 = true := by decide +kernel
set_option maxRecDepth 100000 in
theorem tbT4 : tbks 66 8 = true := by decide +kernel
set_option maxRecDepth 100000 in
theorem tbT5 : tbks 74 7 = true := by decide +kernel
set_option maxRecDepth 100000 in
theorem tbT6 : tbks 81 6 = true := by decide +kernel
set_option maxRecDepth 100000 in
theorem tbT7 : tbks 87 6 = true := by decide +kernel
set_option maxRecDepth 100000 in
theorem tbT8 : tbks 93 5 = true := by decide +kernel
set_option maxRecDepth 100000 in
theorem tbT9 : tbks 98 5 = true := by decide +kernel
set_option maxRecDepth 100000 in
theorem tbT10 : tbks 103 5 = true := by decide +kernel
set_option maxRecDepth 100000 in
theorem tbT11 : tbks 108 5 = true := by decide +kernel
set_option maxRecDepth 100000 in
theorem tbT12 : tbks 113 4 = true := by decide +kernel
set_option maxRecDepth 100000 in
theorem tbT13 : tbks 117 4 = true := by decide +kernel
set_option maxRecDepth 100000 in
theorem tbT14 : tbks 121 4 = true := by decide +kernel
set_option maxRecDepth 100000 in
theorem tbT15 : tbks 125 4 = true := by decide +kernel
set_option maxRecDepth 100000 in
theorem tbT16 : tbks 129 4 = true := by decide +kernel
set_option maxRecDepth 100000 in
theorem tbT17 : tbks 133 4 = true := by decide +kernel
set_option maxRecDepth 100000 in
theorem tbT18 : tbks 137 4 = true := by decide +kernel
set_option maxRecDepth 100000 in
theorem tbT19 : tbks 141 3 = true := by decide +kernel
set_option maxRecDepth 100000 in
theorem tbT20 : tbks 144 3 = true := by decide +kernel
set_option maxRecDepth 100000 in
theorem tbT21 : tbks 147 3 = true := by decide +kernel
set_option maxRecDepth 100000 in
theorem tbT22 : tbks 150 3 = true := by decide +kernel
set_option maxRecDepth 100000 in
theorem tbT23 : tbks 153 3 = true := by decide +kernel
set_option maxRecDepth 100000 in
theorem tbT24 : tbks 156 3 = true := by decide +kernel
set_option maxRecDepth 100000 in
theorem tbT25 : tbks 159 3 = true := by decide +kernel
set_option maxRecDepth 100000 in
theorem tbT26 : tbks 162 3 = true := by decide +kernel
set_option maxRecDepth 100000 in
theorem tbT27 : tbks 165 3 = true := by decide +kernel
set_option maxRecDepth 100000 in
theorem tbT28 : tbks 168 3 = true := by decide +kernel
set_option maxRecDepth 100000 in
theorem tbT29 : tbks 171 3 = true := by decide +kernel
set_option maxRecDepth 100000 in
theorem tbT30 : tbks 174 3 = true := by decide +kernel
set_option maxRecDepth 100000 in
theorem tbT31 : tbks 177 3 = true := by decide +kernel
set_option maxRecDepth 100000 in
theorem tbT32 : tbks 180 3 = true := by decide +kernel
set_option maxRecDepth 100000 in
theorem tbT33 : tbks 183 3 = true := by decide +kernel
set_option maxRecDepth 100000 in
theorem tbT34 : tbks 186 2 = true := by decide +kernel
set_option maxRecDepth 100000 in
theorem tbT35 : tbks 188 2 = true := by decide +kernel
set_option maxRecDepth 100000 in
theorem tbT36 : tbks 190 2 = true := by decide +kernel
set_option maxRecDepth 100000 in
theorem tbT37 : tbks 192 2 = true := by decide +kernel
set_option maxRecDepth 100000 in
theorem tbT38 : tbks 194 2 = true := by decide +kernel
set_option maxRecDepth 100000 in
theorem tbT39 : tbks 196 2 = true := by decide +kernel
set_option maxRecDepth 100000 in
theorem tbT40 : tbks 198 2 = true := by decide +kernel
set_option maxRecDepth 100000 in
theorem tbT41 : tbks 200 1 = true := by decide +kernel
theorem tb_all {n : Nat} (h0 : 0 < n) (h2 : n ≤ 200) : tbk n = true := by
  by_cases q0 : n < 33
  · exact tbk_of tbT0 (by omega) (by omega)
  by_cases q1 : n < 47
  · exact tbk_of tbT1 (by omega) (by omega)
  by_cases q2 : n < 57
  · exact tbk_of tbT2 (by omega) (by omega)
  by_cases q3 : n < 66
  · exact tbk_of tbT3 (by omega) (by omega)
  by_cases q4 : n < 74
  · exact tbk_of tbT4 (by omega) (by omega)
  by_cases q5 : n < 81
  · exact tbk_of tbT5 (by omega) (by omega)
  by_cases q6 : n < 87
  · exact tbk_of tbT6 (by omega) (by omega)
  by_cases q7 : n < 93
  · exact tbk_of tbT7 (by omega) (by omega)
  by_cases q8 : n < 98
  · exact tbk_of tbT8 (by omega) (by omega)
  by_cases q9 : n < 103
  · exact tbk_of tbT9 (by omega) (by omega)
  by_cases q10 : n < 108
  · exact tbk_of tbT10 (by omega) (by omega)
  by_cases q11 : n < 113
  · exact tbk_of tbT11 (by omega) (by omega)
  by_cases q12 : n < 117
  · exact tbk_of tbT12 (by omega) (by omega)
  by_cases q13 : n < 121
  · exact tbk_of tbT13 (by omega) (by omega)
  by_cases q14 : n < 125
  · exact tbk_of tbT14 (by omega) (by omega)
  by_cases q15 : n < 129
  · exact tbk_of tbT15 (by omega) (by omega)
  by_cases q16 : n < 133
  · exact tbk_of tbT16 (by omega) (by omega)
  by_cases q17 : n < 137
  · exact tbk_of tbT17 (by omega) (by omega)
  by_cases q18 : n < 141
  · exact tbk_of tbT18 (by omega) (by omega)
  by_cases q19 : n < 144
  · exact tbk_of tbT19 (by omega) (by omega)
  by_cases q20 : n < 147
  · exact tbk_of tbT20 (by omega) (by omega)
  by_cases q21 : n < 150
  · exact tbk_of tbT21 (by omega) (by omega)
  by_cases q22 : n < 153
  · exact tbk_of tbT22 (by omega) (by omega)
  by_cases q23 : n < 156
  · exact tbk_of tbT23 (by omega) (by omega)
  by_cases q24 : n < 159
  · exact tbk_of tbT24 (by omega) (by omega)
  by_cases q25 : n < 162
  · exact tbk_of tbT25 (by omega) (by omega)
  by_cases q26 : n < 165
  · exact tbk_of tbT26 (by omega) (by omega)
  by_cases q27 : n < 168
  · exact tbk_of tbT27 (by omega) (by omega)
  by_cases q28 : n < 171
  · exact tbk_of tbT28 (by omega) (by omega)
  by_cases q29 : n < 174
  · exact tbk_of tbT29 (by omega) (by omega)
  by_cases q30 : n < 177
  · exact tbk_of tbT30 (by omega) (by omega)
  by_cases q31 : n < 180
  · exact tbk_of tbT31 (by omega) (by omega)
  by_cases q32 : n < 183
  · exact tbk_of tbT32 (by omega) (by omega)
  by_cases q33 : n < 186
  · exact tbk_of tbT33 (by omega) (by omega)
  by_cases q34 : n < 188
  · exact tbk_of tbT34 (by omega) (by omega)
  by_cases q35 : n < 190
  · exact tbk_of tbT35 (by omega) (by omega)
  by_cases q36 : n < 192
  · exact tbk_of tbT36 (by omega) (by omega)
  by_cases q37 : n < 194
  · exact tbk_of tbT37 (by omega) (by omega)
  by_cases q38 : n < 196
  · exact tbk_of tbT38 (by omega) (by omega)
  by_cases q39 : n < 198
  · exact tbk_of tbT39 (by omega) (by omega)
  by_cases q40 : n < 200
  · exact tbk_of tbT40 (by omega) (by omega)
  by_cases q41 : n < 201
  · exact tbk_of tbT41 (by omega) (by omega)
  exact absurd h2 (by omega)