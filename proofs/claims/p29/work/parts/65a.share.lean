/-! the share of short times lies between 0 and 1 -/
def shP (x : UInt64) : Bool := !(decide (Op.cmpValue (FP.dcmp x FP.dconst0) .l < 0)) && !(decide (0 < Op.cmpValue (FP.dcmp x FP.dconst1) .g))
def shB (n : Nat) : Bool := (List.range (n + 1)).all fun a => shP (FP.ddiv (FP.i2d (nI a)) (FP.i2d (nI n)))
def shBs (lo k : Nat) : Bool := (List.range k).all fun i => shB (lo + i)
theorem shB_of {lo k n : Nat} (h : shBs lo k = true) (h1 : lo ≤ n) (h2 : n < lo + k) : shB n = true := by
  have h3 := List.all_eq_true.mp h (n - lo) (List.mem_range.mpr (by omega))
  rw [show lo + (n - lo) = n by omega] at h3; exact h3
set_option maxRecDepth 100000 in
theorem shU0 : shBs 1 35 = true := by decide +kernel
set_option maxRecDepth 100000 in
theorem shU1 : shBs 36 15 = true := by decide +kernel
set_option maxRecDepth 100000 in
theorem shU2 : shBs 51 12 = true := by decide +kernel
set_option maxRecDepth 100000 in
theorem shU3 : shBs 63 10 = true := by decide +kernel
set_option maxRecDepth 100000 in
theorem shU4 : shBs 73 8 = true := by decide +kernel
set_option maxRecDepth 100000 in
theorem shU5 : shBs 81 8 = true := by decide +kernel
set_option maxRecDepth 100000 in
theorem shU6 : shBs 89 7 = true := by decide +kernel
set_option maxRecDepth 100000 in
theorem shU7 : shBs 96 7 = true := by decide +kernel
set_option maxRecDepth 100000 in
theorem shU8 : shBs 103 6 = true := by decide +kernel
set_option maxRecDepth 100000 in
theorem shU9 : shBs 109 6 = true := by decide +kernel
set_option maxRecDepth 100000 in
theorem shU10 : shBs 115 5 = true := by decide +kernel
set_option maxRecDepth 100000 in
theorem shU11 : shBs 120 5 = true := by decide +kernel
set_option maxRecDepth 100000 in
theorem shU12 : shBs 125 5 = true := by decide +kernel
set_option maxRecDepth 100000 in
theorem shU13 : shBs 130 5 = true := by decide +kernel
set_option maxRecDepth 100000 in
theorem shU14 : shBs 135 5 = true := by decide +kernel
set_option maxRecDepth 100000 in
theorem shU15 : shBs 140 4 = true := by decide +kernel
set_option maxRecDepth 100000 in
theorem shU16 : shBs 144 4 = true := by decide +kernel
set_option maxRecDepth 100000 in
theorem shU17 : shBs 148 4 = true := by decide +kernel
set_option maxRecDepth 100000 in
theorem shU18 : shBs 152 4 = true := by decide +kernel
set_option maxRecDepth 100000 in
theorem shU19 : shBs 156 4 = true := by decide +kernel
set_option maxRecDepth 100000 in
theorem shU20 : shBs 160 4 = true := by decide +kernel
set_option maxRecDepth 100000 in
theorem shU21 : shBs 164 4 = true := by decide +kernel
set_option maxRecDepth 100000 in
theorem shU22 : shBs 168 4 = true := by decide +kernel
set_option maxRecDepth 100000 in
theorem shU23 : shBs 172 4 = true := by decide +kernel
set_option maxRecDepth 100000 in
theorem shU24 : shBs 176 3 = true := by decide +kernel
set_option maxRecDepth 100000 in
theorem shU25 : shBs 179 3 = true := by decide +kernel
set_option maxRecDepth 100000 in
theorem shU26 : shBs 182 3 = true := by decide +kernel
set_option maxRecDepth 100000 in
theorem shU27 : shBs 185 3 = true := by decide +kernel
set_option maxRecDepth 100000 in
theorem shU28 : shBs 188 3 = true := by decide +kernel
set_option maxRecDepth 100000 in
theorem shU29 : shBs 191 3 = true := by decide +kernel
set_option maxRecDepth 100000 in
theorem shU30 : shBs 194 3 = true := by decide +kernel
set_option maxRecDepth 100000 in
theorem shU31 : shBs 197 3 = true := by decide +kernel
set_option maxRecDepth 100000 in
theorem shU32 : shBs 200 1 = true := by decide +kernel
theorem shB_all {n : Nat} (h0 : 0 < n) (h : n ≤ 200) : shB n = true := by
  rcases (show (1 ≤ n ∧ n < 36) ∨ (36 ≤ n ∧ n < 51) ∨ (51 ≤ n ∧ n < 63) ∨ (63 ≤ n ∧ n < 73) ∨ (73 ≤ n ∧ n < 81) ∨ (81 ≤ n ∧ n < 89) ∨ (89 ≤ n ∧ n < 96) ∨ (96 ≤ n ∧ n < 103) ∨ (103 ≤ n ∧ n < 109) ∨ (109 ≤ n ∧ n < 115) ∨ (115 ≤ n ∧ n < 120) ∨ (120 ≤ n ∧ n < 125) ∨ (125 ≤ n ∧ n < 130) ∨ (130 ≤ n ∧ n < 135) ∨ (135 ≤ n ∧ n < 140) ∨ (140 ≤ n ∧ n < 144) ∨ (144 ≤ n ∧ n < 148) ∨ (148 ≤ n ∧ n < 152) ∨ (152 ≤ n ∧ n < 156) ∨ (156 ≤ n ∧ n < 160) ∨ (160 ≤ n ∧ n < 164) ∨ (164 ≤ n ∧ n < 168) ∨ (168 ≤ n ∧ n < 172) ∨ (172 ≤ n ∧ n < 176) ∨ (176 ≤ n ∧ n < 179) ∨ (179 ≤ n ∧ n < 182) ∨ (182 ≤ n ∧ n < 185) ∨ (185 ≤ n ∧ n < 188) ∨ (188 ≤ n ∧ n < 191) ∨ (191 ≤ n ∧ n < 194) ∨ (194 ≤ n ∧ n < 197) ∨ (197 ≤ n ∧ n < 200) ∨ (200 ≤ n ∧ n < 201) by omega) with q | q | q | q | q | q | q | q | q | q | q | q | q | q | q | q | q | q | q | q | q | q | q | q | q | q | q | q | q | q | q | q | q
  · exact shB_of shU0 q.1 q.2
  · exact shB_of shU1 q.1 q.2
  · exact shB_of shU2 q.1 q.2
  · exact shB_of shU3 q.1 q.2
  · exact shB_of shU4 q.1 q.2
  · exact shB_of shU5 q.1 q.2
  · exact shB_of shU6 q.1 q.2
  · exact shB_of shU7 q.1 q.2
  · exact shB_of shU8 q.1 q.2
  · exact shB_of shU9 q.1 q.2
  · exact shB_of shU10 q.1 q.2
  · exact shB_of shU11 q.1 q.2
  · exact shB_of shU12 q.1 q.2
  · exact shB_of shU13 q.1 q.2
  · exact shB_of shU14 q.1 q.2
  · exact shB_of shU15 q.1 q.2
  · exact shB_of shU16 q.1 q.2
  · exact shB_of shU17 q.1 q.2
  · exact shB_of shU18 q.1 q.2
  · exact shB_of shU19 q.1 q.2
  · exact shB_of shU20 q.1 q.2
  · exact shB_of shU21 q.1 q.2
  · exact shB_of shU22 q.1 q.2
  · exact shB_of shU23 q.1 q.2
  · exact shB_of shU24 q.1 q.2
  · exact shB_of shU25 q.1 q.2
  · exact shB_of shU26 q.1 q.2
  · exact shB_of shU27 q.1 q.2
  · exact shB_of shU28 q.1 q.2
  · exact shB_of shU29 q.1 q.2
  · exact shB_of shU30 q.1 q.2
  · exact shB_of shU31 q.1 q.2
  · exact shB_of shU32 q.1 q.2
theorem lc_le (lim : Int32) (t : IL) : ltC lim t ≤ t.length := List.length_filter_le _ _
theorem sh_z : shP FP.dconst0 = true := by decide +kernel
theorem sh_P (r : Int32) {t : IL} (h : t.length ≤ 200) : shP (shT r t) = true := by
  unfold shT
  by_cases h0 : t.length = 0
  · rw [if_pos h0]; exact sh_z
  · rw [if_neg h0]
    have h1 := List.all_eq_true.mp (shB_all (n := t.length) (by omega) h) (ltC (sumL t / nI t.length * r / nI 100) t) (List.mem_range.mpr (by have := lc_le (sumL t / nI t.length * r / nI 100) t; omega))
    exact h1
theorem sh_A {x : UInt64} (h : shP x = true) : ¬ Op.cmpValue (FP.dcmp x FP.dconst0) .l < 0 := by
  unfold shP at h
  simp only [Bool.and_eq_true, Bool.not_eq_true', decide_eq_false_iff_not] at h
  exact h.1
theorem sh_B {x : UInt64} (h : shP x = true) : ¬ 0 < Op.cmpValue (FP.dcmp x FP.dconst1) .g := by
  unfold shP at h
  simp only [Bool.and_eq_true, Bool.not_eq_true', decide_eq_false_iff_not] at h
  exact h.2
